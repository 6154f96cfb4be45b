set_option maxHeartbeats 4000000 in
set_option maxRecDepth 100000 in
theorem k_add {p : Program} {l : Launch} {e : Env} {s : State} {m : MethodId} {below : List Frame} {meth : Method} {c : Code} {H : Heap} {locs : List Loc} {cells slots : Nat} {Q : State → Prop} {ls : Array Slot} {b Ln : Nat} {xs : Nat → Int32} {G : g_G} {w : xw_W} {h e0 sl mo ra sa : Nat} {rr : Nat → Nat} {out : Nat} {S : sp_S} {K : Nat} {cd : Int32} {i : Nat}
    (hl9 : l.stackTraces = false) (hx : p.tables.exec = Jvm.exec) (hb : c.code = nb_L_law) (hml : c.maxLocals = 8) (hown : s.vm.findClass "RadixShelfLaw" = some m.cls) (hts : ∀ w ∈ Cond.initialized "RadixShelf" :: nw_T, w.before #[Value.ref b] s = true) (hX : va_X b Ln xs s s.heap) (hbl : b < s.heap.size) (hG : g_b G = s.heap.size) (hK : g_K G s) (hLn : Ln ≤ 3584) (hi : i + 7 ≤ Ln) (hK9 : K + 1 < 2 ^ 31) (hI : la_I G w h e0 sl mo ra sa rr out S K cd) (hl : lv_has ls 8 [(4, .int (nI i)), (3, .ref out), (2, .ref mo), (1, .ref h), (0, .ref b)]) (hw : g_P G w H) (hS : g_S G s.heap H locs) (hcl : cells + 400 ≤ 601024) (hsl9 : slots + 6500 ≤ 7293034)
    (kk : ∀ (S' : sp_S) (cd' : Int32) (w' : xw_W) (H' : Heap) (locs' : List Loc) (ls' : Array Slot), la_I G w' h e0 sl mo ra sa rr out S' (K + 1) cd' → lv_has ls' 8 [(4, .int (nI i)), (3, .ref out), (2, .ref mo), (1, .ref h), (0, .ref b)] → g_P G w' H' → g_S G s.heap H' locs' → W p l e room_1 s m #[Value.ref b] below meth c H' locs' (cells + 400) (slots + 6500) Q (F0 m 1079 ls' [])) : W p l e room_1 s m #[Value.ref b] below meth c H locs cells slots Q (F0 m 100 ls []) := by
  have hT : ∀ w ∈ nw_T, w.before _ s = true := fun w h => hts w (List.mem_cons_of_mem _ h)
  have hB : g_b G ≤ s.heap.size := Nat.le_of_eq hG
  have hnb : ¬ xw_A (g_b G) b := fun z => absurd (show g_b G ≤ b from z) (by omega)
  obtain ⟨hSt, hM, ⟨fo0, ho0⟩, ⟨hOo, -⟩, hne⟩ := id hI
  refine lv_aload_n hx hb nd_L_law_100 rfl (lv_at hl 3 rfl) ?_
  refine lv_aload_n hx hb nd_L_law_101 rfl (lv_at hl 4 rfl) ?_
  refine lv_iload hx hb nd_L_law_102 (lv_at hl 0 rfl) ?_
  refine lv_iconst (v := 1) hx hb nd_L_law_104 (by decide) ?_
  refine lv_iadd hx hb nd_L_law_105 ?_
  refine lv_topi (fun y1 ey2 => ?_)
  obtain rfl : y1 = nI (i + 1) := ey2.trans (nI_add i 1)
  refine va_sld hx hb hX hbl hnb hS (vp_in_nI (by omega) (by omega)) nd_L_law_106 ?_
  refine lv_topi (fun y3 ey4 => ?_)
  obtain rfl : y3 = xs (i + 1) := ey4.trans (by rw [nI_clamp (by omega)])
  refine lv_aload_n hx hb nd_L_law_107 rfl (lv_at hl 4 rfl) ?_
  refine lv_iload hx hb nd_L_law_108 (lv_at hl 0 rfl) ?_
  refine lv_iconst (v := 2) hx hb nd_L_law_110 (by decide) ?_
  refine lv_iadd hx hb nd_L_law_111 ?_
  refine lv_topi (fun y5 ey6 => ?_)
  obtain rfl : y5 = nI (i + 2) := ey6.trans (nI_add i 2)
  refine va_sld hx hb hX hbl hnb hS (vp_in_nI (by omega) (by omega)) nd_L_law_112 ?_
  refine lv_topi (fun y7 ey8 => ?_)
  obtain rfl : y7 = xs (i + 2) := ey8.trans (by rw [nI_clamp (by omega)])
  refine lv_aload_n hx hb nd_L_law_113 rfl (lv_at hl 4 rfl) ?_
  refine lv_iload hx hb nd_L_law_114 (lv_at hl 0 rfl) ?_
  refine lv_iconst (v := 3) hx hb nd_L_law_116 (by decide) ?_
  refine lv_iadd hx hb nd_L_law_117 ?_
  refine lv_topi (fun y9 ey10 => ?_)
  obtain rfl : y9 = nI (i + 3) := ey10.trans (nI_add i 3)
  refine va_sld hx hb hX hbl hnb hS (vp_in_nI (by omega) (by omega)) nd_L_law_118 ?_
  refine lv_topi (fun y11 ey12 => ?_)
  obtain rfl : y11 = xs (i + 3) := ey12.trans (by rw [nI_clamp (by omega)])
  refine lv_i2l hx hb nd_L_law_119 rfl ?_
  refine lv_bipush (v := 32) hx hb nd_L_law_120 (by decide) ?_
  refine lv_lshl hx hb nd_L_law_122 rfl ?_
  refine lv_aload_n hx hb nd_L_law_123 rfl (lv_at hl 4 rfl) ?_
  refine lv_iload hx hb nd_L_law_124 (lv_at hl 0 rfl) ?_
  refine lv_iconst (v := 4) hx hb nd_L_law_126 (by decide) ?_
  refine lv_iadd hx hb nd_L_law_127 ?_
  refine lv_topi (fun y13 ey14 => ?_)
  obtain rfl : y13 = nI (i + 4) := ey14.trans (nI_add i 4)
  refine va_sld hx hb hX hbl hnb hS (vp_in_nI (by omega) (by omega)) nd_L_law_128 ?_
  refine lv_topi (fun y15 ey16 => ?_)
  obtain rfl : y15 = xs (i + 4) := ey16.trans (by rw [nI_clamp (by omega)])
  refine lv_i2l hx hb nd_L_law_129 rfl ?_
  refine lv_ldc2 hx hb hown (hT _ nh_kl_L_62) nd_L_law_130 ?_
  refine lv_land hx hb nd_L_law_133 ?_
  refine lv_lor hx hb nd_L_law_134 ?_
  refine lv_topl (fun y0 ey0 => ?_)
  refine lv_aload_n hx hb nd_L_law_135 rfl (lv_at hl 1 rfl) ?_
  obtain ⟨R, eR⟩ : ∃ z, z = sp_add S (xs (i + 1)) (xs (i + 2)) y0 := ⟨_, rfl⟩
  refine g_calli (vx_runSW (As := [.ref h, .int (xs (i + 1)), .int (xs (i + 2)), .long y0, .ref out]) (rest := []) ⟨hx, hb, hml, hown, hts⟩ (c_L_add l hl9 G w h e0 sl K S hSt hK9 out fo0 hOo ho0 (xs (i + 1)) (xs (i + 2)) y0) (vx_cwSW 5 hts (nw_of (nw_3 nh_ml_L_64 nh_st_L_add nh_in_L nh_co_L_add)) rfl rfl rfl (by decide +kernel) ⟨Nat.le_of_ble_eq_true rfl, Nat.le_of_ble_eq_true rfl⟩) (g_preS hK hw hS _) rfl rfl hl.1 rfl (lv_room (Nat.le_of_ble_eq_true rfl)) nd_L_law_136 ⟨by first | (show _ ≤ 601024; omega) | (show _ ≤ 7293034; omega), by first | (show _ ≤ 601024; omega) | (show _ ≤ 7293034; omega)⟩) hS (fun k9 w17 H locs hp hw hS => ?_)
  rw [← eR] at hp
  have hR4 : R.1 ≤ 4 := by rw [eR]; exact sp_add_b
  obtain rfl := hp.1
  obtain ⟨hS1, hM1, ⟨fo, ho1, hv1⟩, hO1⟩ := la_1 hI hp
  obtain ⟨f1, hJ1, -⟩ := id hM1
  have hm := hJ1.1
  refine lv_istore hx hb nd_L_law_139 hl (by decide) (lv' := [(5, .int (nI R.1)), (4, .int (nI i)), (3, .ref out), (2, .ref mo), (1, .ref h), (0, .ref b)]) rfl (fun ls hl => ?_)
  refine lv_aload_n hx hb nd_L_law_141 rfl (lv_at hl 3 rfl) ?_
  refine lv_aload_n hx hb nd_L_law_142 rfl (lv_at hl 5 rfl) ?_
  refine lv_iload hx hb nd_L_law_143 (lv_at hl 1 rfl) ?_
  refine lv_iconst (v := 1) hx hb nd_L_law_145 (by decide) ?_
  refine lv_iadd hx hb nd_L_law_146 ?_
  refine lv_topi (fun y18 ey19 => ?_)
  obtain rfl : y18 = nI (i + 1) := ey19.trans (nI_add i 1)
  refine va_sld hx hb hX hbl hnb hS (vp_in_nI (by omega) (by omega)) nd_L_law_147 ?_
  refine lv_topi (fun y20 ey21 => ?_)
  obtain rfl : y20 = xs (i + 1) := ey21.trans (by rw [nI_clamp (by omega)])
  refine lv_aload_n hx hb nd_L_law_148 rfl (lv_at hl 5 rfl) ?_
  refine lv_iload hx hb nd_L_law_149 (lv_at hl 1 rfl) ?_
  refine lv_iconst (v := 2) hx hb nd_L_law_151 (by decide) ?_
  refine lv_iadd hx hb nd_L_law_152 ?_
  refine lv_topi (fun y22 ey23 => ?_)
  obtain rfl : y22 = nI (i + 2) := ey23.trans (nI_add i 2)
  refine va_sld hx hb hX hbl hnb hS (vp_in_nI (by omega) (by omega)) nd_L_law_153 ?_
  refine lv_topi (fun y24 ey25 => ?_)
  obtain rfl : y24 = xs (i + 2) := ey25.trans (by rw [nI_clamp (by omega)])
  refine lv_aload_n hx hb nd_L_law_154 rfl (lv_at hl 5 rfl) ?_
  refine lv_iload hx hb nd_L_law_155 (lv_at hl 1 rfl) ?_
  refine lv_iconst (v := 3) hx hb nd_L_law_157 (by decide) ?_
  refine lv_iadd hx hb nd_L_law_158 ?_
  refine lv_topi (fun y26 ey27 => ?_)
  obtain rfl : y26 = nI (i + 3) := ey27.trans (nI_add i 3)
  refine va_sld hx hb hX hbl hnb hS (vp_in_nI (by omega) (by omega)) nd_L_law_159 ?_
  refine lv_topi (fun y28 ey29 => ?_)
  obtain rfl : y28 = xs (i + 3) := ey29.trans (by rw [nI_clamp (by omega)])
  refine lv_i2l hx hb nd_L_law_160 rfl ?_
  refine lv_bipush (v := 32) hx hb nd_L_law_161 (by decide) ?_
  refine lv_lshl hx hb nd_L_law_163 rfl ?_
  refine lv_aload_n hx hb nd_L_law_164 rfl (lv_at hl 5 rfl) ?_
  refine lv_iload hx hb nd_L_law_165 (lv_at hl 1 rfl) ?_
  refine lv_iconst (v := 4) hx hb nd_L_law_167 (by decide) ?_
  refine lv_iadd hx hb nd_L_law_168 ?_
  refine lv_topi (fun y30 ey31 => ?_)
  obtain rfl : y30 = nI (i + 4) := ey31.trans (nI_add i 4)
  refine va_sld hx hb hX hbl hnb hS (vp_in_nI (by omega) (by omega)) nd_L_law_169 ?_
  refine lv_topi (fun y32 ey33 => ?_)
  obtain rfl : y32 = xs (i + 4) := ey33.trans (by rw [nI_clamp (by omega)])
  refine lv_i2l hx hb nd_L_law_170 rfl ?_
  refine lv_ldc2 hx hb hown (hT _ nh_kl_L_62) nd_L_law_171 ?_
  refine lv_land hx hb nd_L_law_174 ?_
  refine lv_lor hx hb nd_L_law_175 ?_
  refine lv_topl (fun z0 ez0 => ?_)
  obtain rfl : y0 = z0 := ey0.trans ez0.symm
  refine g_calli (va_runV (As := [.int (xs (i + 1)), .int (xs (i + 2)), .long y0]) (rest := []) ⟨hx, hb, hml, hown, hts⟩ (c_M_add l G w17 mo ra sa rr S cd hM1 (xs (i + 1)) (xs (i + 2)) y0) (cwV (C := nR_M) 3 hts (nw_of (nw_4 nh_ml_L_69 nh_im_M_add nh_se_M_add nh_in_M nh_co_M_add)) rfl rfl rfl (by decide +kernel) ⟨Nat.le_of_ble_eq_true rfl, Nat.le_of_ble_eq_true rfl⟩) (g_preV (ci := 5) (q := (nR_M, nT_M, 4)) hK hw hS rfl hm _) rfl rfl hl.1 rfl (lv_room (Nat.le_of_ble_eq_true rfl)) nd_L_law_176 ⟨by first | (show _ ≤ 601024; omega) | (show _ ≤ 7293034; omega), by first | (show _ ≤ 601024; omega) | (show _ ≤ 7293034; omega)⟩) hS (fun v9 w34 H locs hp2 hw hS => ?_)
  rw [← eR] at hp2
  obtain ⟨hI2, ho2⟩ := la_2 hS1 hM1 ho1 hO1 hne hp2
  obtain ⟨f2, hJ2, -⟩ := id hI2.2.1
  have hm := hJ2.1
  refine lv_istore hx hb nd_L_law_179 hl (by decide) (lv' := [(6, .int v9), (5, .int (nI R.1)), (4, .int (nI i)), (3, .ref out), (2, .ref mo), (1, .ref h), (0, .ref b)]) rfl (fun ls hl => ?_)
  refine lv_aload_n hx hb nd_L_law_181 rfl (lv_at hl 4 rfl) ?_
  refine g_calli (va_runV (As := []) (rest := []) ⟨hx, hb, hml, hown, hts⟩ (c_M_thrown l G w34 mo ra sa (mo_b R.2.2.1) (nI R.1) hm) (cwV (C := nR_M) 0 hts (nw_of (nw_4 nh_ml_L_70 nh_im_M_thrown nh_se_M_thrown nh_in_M nh_co_M_thrown)) rfl rfl rfl (by decide +kernel) ⟨Nat.le_of_ble_eq_true rfl, Nat.le_of_ble_eq_true rfl⟩) (g_preV (ci := 5) (q := (nR_M, nT_M, 4)) hK hw hS rfl hm _) rfl rfl hl.1 rfl (lv_room (Nat.le_of_ble_eq_true rfl)) nd_L_law_182 ⟨by first | (show _ ≤ 601024; omega) | (show _ ≤ 7293034; omega), by first | (show _ ≤ 601024; omega) | (show _ ≤ 7293034; omega)⟩) hS (fun u9 w35 H locs hp3 hw hS => ?_)
  obtain ⟨rfl, hw9⟩ := hp3
  rw [hw9] at hw
  refine lv_iload hx hb nd_L_law_185 (lv_at hl 1 rfl) ?_
  refine lv_icmp_eq (tgt := 192) hx hb nd_L_law_187 (by decide) (fun hc => ?_) (fun hc => absurd rfl hc)
  refine lv_iload hx hb nd_L_law_192 (lv_at hl 1 rfl) ?_
  refine lv_if_ne (tgt := 209) hx hb nd_L_law_194 (by decide) (fun hc => ?_) (fun hc => ?_)
  · refine lv_goto (tgt := 1079) hx hb nd_L_law_209 (by decide) ?_
    exact W.widen (k := cells + 400) (n := slots + 6500) (by omega) (by omega) (kk R.2.2 (nI R.1) _ H locs ls hI2 (lv_sub hl [2, 3, 4, 5, 6] rfl) hw hS)
  · have h0 : R.1 = 0 := (nI_eq (b := 0) (by omega) (by omega)).mp (hc.trans nI_0.symm)
    refine lv_aload_n hx hb nd_L_law_197 rfl (lv_at hl 3 rfl) ?_
    refine lv_iconst (v := 0) hx hb nd_L_law_198 (by decide) ?_
    refine xw_lald hx hb hK.1 hw 0 ho2 rfl (by unfold vp_in; decide) nd_L_law_199 ?_
    refine lv_topl (fun y36 ey37 => ?_)
    obtain rfl : y36 = R.2.1 := ey37.trans (hv1 h0)
    refine lv_iload hx hb nd_L_law_200 (lv_at hl 0 rfl) ?_
    refine lv_i2l hx hb nd_L_law_202 rfl ?_
    refine lv_topl (fun y38 ey39 => ?_)
    obtain rfl : y38 = R.2.1 := ey39.trans (hp2.2.1)
    refine W.lcmp hx hb nd_L_law_203 ?_
    refine lv_topi (fun y40 ey41 => ?_)
    obtain rfl : y40 = 0 := ey41.trans (lg_cmp_rf _)
    refine lv_if_eq (tgt := 209) hx hb nd_L_law_204 (by decide) (fun hc => ?_) (fun hc => absurd rfl hc)
    refine lv_goto (tgt := 1079) hx hb nd_L_law_209 (by decide) ?_
    exact W.widen (k := cells + 400) (n := slots + 6500) (by omega) (by omega) (kk R.2.2 (nI R.1) _ H locs ls hI2 (lv_sub hl [2, 3, 4, 5, 6] rfl) hw hS)

set_option maxHeartbeats 4000000 in
set_option maxRecDepth 100000 in
theorem k_push {p : Program} {l : Launch} {e : Env} {s : State} {m : MethodId} {below : List Frame} {meth : Method} {c : Code} {H : Heap} {locs : List Loc} {cells slots : Nat} {Q : State → Prop} {ls : Array Slot} {b Ln : Nat} {xs : Nat → Int32} {G : g_G} {w : xw_W} {h e0 sl mo ra sa : Nat} {rr : Nat → Nat} {out : Nat} {S : sp_S} {K : Nat} {cd : Int32} {i : Nat}
    (hl9 : l.stackTraces = false) (hx : p.tables.exec = Jvm.exec) (hb : c.code = nb_L_law) (hml : c.maxLocals = 8) (hown : s.vm.findClass "RadixShelfLaw" = some m.cls) (hts : ∀ w ∈ Cond.initialized "RadixShelf" :: nw_T, w.before #[Value.ref b] s = true) (hX : va_X b Ln xs s s.heap) (hbl : b < s.heap.size) (hG : g_b G = s.heap.size) (hK : g_K G s) (hLn : Ln ≤ 3584) (hi : i + 7 ≤ Ln) (hK9 : K + 1 < 2 ^ 31) (hI : la_I G w h e0 sl mo ra sa rr out S K cd) (hl : lv_has ls 8 [(4, .int (nI i)), (3, .ref out), (2, .ref mo), (1, .ref h), (0, .ref b)]) (hw : g_P G w H) (hS : g_S G s.heap H locs) (hcl : cells + 400 ≤ 601024) (hsl9 : slots + 6500 ≤ 7293034)
    (kk : ∀ (S' : sp_S) (cd' : Int32) (w' : xw_W) (H' : Heap) (locs' : List Loc) (ls' : Array Slot), la_I G w' h e0 sl mo ra sa rr out S' (K + 1) cd' → lv_has ls' 8 [(4, .int (nI i)), (3, .ref out), (2, .ref mo), (1, .ref h), (0, .ref b)] → g_P G w' H' → g_S G s.heap H' locs' → W p l e room_1 s m #[Value.ref b] below meth c H' locs' (cells + 400) (slots + 6500) Q (F0 m 1079 ls' [])) : W p l e room_1 s m #[Value.ref b] below meth c H locs cells slots Q (F0 m 212 ls []) := by
  have hT : ∀ w ∈ nw_T, w.before _ s = true := fun w h => hts w (List.mem_cons_of_mem _ h)
  have hB : g_b G ≤ s.heap.size := Nat.le_of_eq hG
  have hnb : ¬ xw_A (g_b G) b := fun z => absurd (show g_b G ≤ b from z) (by omega)
  obtain ⟨hSt, hM, ⟨fo0, ho0⟩, ⟨hOo, -⟩, hne⟩ := id hI
  refine lv_aload_n hx hb nd_L_law_212 rfl (lv_at hl 3 rfl) ?_
  refine lv_aload_n hx hb nd_L_law_213 rfl (lv_at hl 4 rfl) ?_
  refine lv_iload hx hb nd_L_law_214 (lv_at hl 0 rfl) ?_
  refine lv_iconst (v := 1) hx hb nd_L_law_216 (by decide) ?_
  refine lv_iadd hx hb nd_L_law_217 ?_
  refine lv_topi (fun y1 ey2 => ?_)
  obtain rfl : y1 = nI (i + 1) := ey2.trans (nI_add i 1)
  refine va_sld hx hb hX hbl hnb hS (vp_in_nI (by omega) (by omega)) nd_L_law_218 ?_
  refine lv_topi (fun y3 ey4 => ?_)
  obtain rfl : y3 = xs (i + 1) := ey4.trans (by rw [nI_clamp (by omega)])
  refine lv_aload_n hx hb nd_L_law_219 rfl (lv_at hl 4 rfl) ?_
  refine lv_iload hx hb nd_L_law_220 (lv_at hl 0 rfl) ?_
  refine lv_iconst (v := 2) hx hb nd_L_law_222 (by decide) ?_
  refine lv_iadd hx hb nd_L_law_223 ?_
  refine lv_topi (fun y5 ey6 => ?_)
  obtain rfl : y5 = nI (i + 2) := ey6.trans (nI_add i 2)
  refine va_sld hx hb hX hbl hnb hS (vp_in_nI (by omega) (by omega)) nd_L_law_224 ?_
  refine lv_topi (fun y7 ey8 => ?_)
  obtain rfl : y7 = xs (i + 2) := ey8.trans (by rw [nI_clamp (by omega)])
  refine lv_aload_n hx hb nd_L_law_225 rfl (lv_at hl 4 rfl) ?_
  refine lv_iload hx hb nd_L_law_226 (lv_at hl 0 rfl) ?_
  refine lv_iconst (v := 3) hx hb nd_L_law_228 (by decide) ?_
  refine lv_iadd hx hb nd_L_law_229 ?_
  refine lv_topi (fun y9 ey10 => ?_)
  obtain rfl : y9 = nI (i + 3) := ey10.trans (nI_add i 3)
  refine va_sld hx hb hX hbl hnb hS (vp_in_nI (by omega) (by omega)) nd_L_law_230 ?_
  refine lv_topi (fun y11 ey12 => ?_)
  obtain rfl : y11 = xs (i + 3) := ey12.trans (by rw [nI_clamp (by omega)])
  refine lv_i2l hx hb nd_L_law_231 rfl ?_
  refine lv_bipush (v := 32) hx hb nd_L_law_232 (by decide) ?_
  refine lv_lshl hx hb nd_L_law_234 rfl ?_
  refine lv_aload_n hx hb nd_L_law_235 rfl (lv_at hl 4 rfl) ?_
  refine lv_iload hx hb nd_L_law_236 (lv_at hl 0 rfl) ?_
  refine lv_iconst (v := 4) hx hb nd_L_law_238 (by decide) ?_
  refine lv_iadd hx hb nd_L_law_239 ?_
  refine lv_topi (fun y13 ey14 => ?_)
  obtain rfl : y13 = nI (i + 4) := ey14.trans (nI_add i 4)
  refine va_sld hx hb hX hbl hnb hS (vp_in_nI (by omega) (by omega)) nd_L_law_240 ?_
  refine lv_topi (fun y15 ey16 => ?_)
  obtain rfl : y15 = xs (i + 4) := ey16.trans (by rw [nI_clamp (by omega)])
  refine lv_i2l hx hb nd_L_law_241 rfl ?_
  refine lv_ldc2 hx hb hown (hT _ nh_kl_L_62) nd_L_law_242 ?_
  refine lv_land hx hb nd_L_law_245 ?_
  refine lv_lor hx hb nd_L_law_246 ?_
  refine lv_topl (fun y0 ey0 => ?_)
  refine lv_aload_n hx hb nd_L_law_247 rfl (lv_at hl 1 rfl) ?_
  obtain ⟨R, eR⟩ : ∃ z, z = sp_push S (xs (i + 1)) (xs (i + 2)) y0 := ⟨_, rfl⟩
  refine g_calli (vx_runSW (As := [.ref h, .int (xs (i + 1)), .int (xs (i + 2)), .long y0, .ref out]) (rest := []) ⟨hx, hb, hml, hown, hts⟩ (c_L_push l hl9 G w h e0 sl K S hSt hK9 out fo0 hOo ho0 (xs (i + 1)) (xs (i + 2)) y0) (vx_cwSW 5 hts (nw_of (nw_3 nh_ml_L_74 nh_st_L_push nh_in_L nh_co_L_push)) rfl rfl rfl (by decide +kernel) ⟨Nat.le_of_ble_eq_true rfl, Nat.le_of_ble_eq_true rfl⟩) (g_preS hK hw hS _) rfl rfl hl.1 rfl (lv_room (Nat.le_of_ble_eq_true rfl)) nd_L_law_248 ⟨by first | (show _ ≤ 601024; omega) | (show _ ≤ 7293034; omega), by first | (show _ ≤ 601024; omega) | (show _ ≤ 7293034; omega)⟩) hS (fun k9 w17 H locs hp hw hS => ?_)
  rw [← eR] at hp
  have hR4 : R.1 ≤ 4 := by rw [eR]; exact sp_push_b
  obtain rfl := hp.1
  obtain ⟨hS1, hM1, ⟨fo, ho1, hv1⟩, hO1⟩ := la_1 hI hp
  obtain ⟨f1, hJ1, -⟩ := id hM1
  have hm := hJ1.1
  refine lv_istore hx hb nd_L_law_251 hl (by decide) (lv' := [(5, .int (nI R.1)), (4, .int (nI i)), (3, .ref out), (2, .ref mo), (1, .ref h), (0, .ref b)]) rfl (fun ls hl => ?_)
  refine lv_aload_n hx hb nd_L_law_253 rfl (lv_at hl 3 rfl) ?_
  refine lv_aload_n hx hb nd_L_law_254 rfl (lv_at hl 5 rfl) ?_
  refine lv_iload hx hb nd_L_law_255 (lv_at hl 1 rfl) ?_
  refine lv_iconst (v := 1) hx hb nd_L_law_257 (by decide) ?_
  refine lv_iadd hx hb nd_L_law_258 ?_
  refine lv_topi (fun y18 ey19 => ?_)
  obtain rfl : y18 = nI (i + 1) := ey19.trans (nI_add i 1)
  refine va_sld hx hb hX hbl hnb hS (vp_in_nI (by omega) (by omega)) nd_L_law_259 ?_
  refine lv_topi (fun y20 ey21 => ?_)
  obtain rfl : y20 = xs (i + 1) := ey21.trans (by rw [nI_clamp (by omega)])
  refine lv_aload_n hx hb nd_L_law_260 rfl (lv_at hl 5 rfl) ?_
  refine lv_iload hx hb nd_L_law_261 (lv_at hl 1 rfl) ?_
  refine lv_iconst (v := 2) hx hb nd_L_law_263 (by decide) ?_
  refine lv_iadd hx hb nd_L_law_264 ?_
  refine lv_topi (fun y22 ey23 => ?_)
  obtain rfl : y22 = nI (i + 2) := ey23.trans (nI_add i 2)
  refine va_sld hx hb hX hbl hnb hS (vp_in_nI (by omega) (by omega)) nd_L_law_265 ?_
  refine lv_topi (fun y24 ey25 => ?_)
  obtain rfl : y24 = xs (i + 2) := ey25.trans (by rw [nI_clamp (by omega)])
  refine lv_aload_n hx hb nd_L_law_266 rfl (lv_at hl 5 rfl) ?_
  refine lv_iload hx hb nd_L_law_267 (lv_at hl 1 rfl) ?_
  refine lv_iconst (v := 3) hx hb nd_L_law_269 (by decide) ?_
  refine lv_iadd hx hb nd_L_law_270 ?_
  refine lv_topi (fun y26 ey27 => ?_)
  obtain rfl : y26 = nI (i + 3) := ey27.trans (nI_add i 3)
  refine va_sld hx hb hX hbl hnb hS (vp_in_nI (by omega) (by omega)) nd_L_law_271 ?_
  refine lv_topi (fun y28 ey29 => ?_)
  obtain rfl : y28 = xs (i + 3) := ey29.trans (by rw [nI_clamp (by omega)])
  refine lv_i2l hx hb nd_L_law_272 rfl ?_
  refine lv_bipush (v := 32) hx hb nd_L_law_273 (by decide) ?_
  refine lv_lshl hx hb nd_L_law_275 rfl ?_
  refine lv_aload_n hx hb nd_L_law_276 rfl (lv_at hl 5 rfl) ?_
  refine lv_iload hx hb nd_L_law_277 (lv_at hl 1 rfl) ?_
  refine lv_iconst (v := 4) hx hb nd_L_law_279 (by decide) ?_
  refine lv_iadd hx hb nd_L_law_280 ?_
  refine lv_topi (fun y30 ey31 => ?_)
  obtain rfl : y30 = nI (i + 4) := ey31.trans (nI_add i 4)
  refine va_sld hx hb hX hbl hnb hS (vp_in_nI (by omega) (by omega)) nd_L_law_281 ?_
  refine lv_topi (fun y32 ey33 => ?_)
  obtain rfl : y32 = xs (i + 4) := ey33.trans (by rw [nI_clamp (by omega)])
  refine lv_i2l hx hb nd_L_law_282 rfl ?_
  refine lv_ldc2 hx hb hown (hT _ nh_kl_L_62) nd_L_law_283 ?_
  refine lv_land hx hb nd_L_law_286 ?_
  refine lv_lor hx hb nd_L_law_287 ?_
  refine lv_topl (fun z0 ez0 => ?_)
  obtain rfl : y0 = z0 := ey0.trans ez0.symm
  refine g_calli (va_runV (As := [.int (xs (i + 1)), .int (xs (i + 2)), .long y0]) (rest := []) ⟨hx, hb, hml, hown, hts⟩ (c_M_push l G w17 mo ra sa rr S cd hM1 (xs (i + 1)) (xs (i + 2)) y0) (cwV (C := nR_M) 3 hts (nw_of (nw_4 nh_ml_L_76 nh_im_M_push nh_se_M_push nh_in_M nh_co_M_push)) rfl rfl rfl (by decide +kernel) ⟨Nat.le_of_ble_eq_true rfl, Nat.le_of_ble_eq_true rfl⟩) (g_preV (ci := 5) (q := (nR_M, nT_M, 4)) hK hw hS rfl hm _) rfl rfl hl.1 rfl (lv_room (Nat.le_of_ble_eq_true rfl)) nd_L_law_288 ⟨by first | (show _ ≤ 601024; omega) | (show _ ≤ 7293034; omega), by first | (show _ ≤ 601024; omega) | (show _ ≤ 7293034; omega)⟩) hS (fun v9 w34 H locs hp2 hw hS => ?_)
  rw [← eR] at hp2
  obtain ⟨hI2, ho2⟩ := la_2 hS1 hM1 ho1 hO1 hne hp2
  obtain ⟨f2, hJ2, -⟩ := id hI2.2.1
  have hm := hJ2.1
  refine lv_istore hx hb nd_L_law_291 hl (by decide) (lv' := [(6, .int v9), (5, .int (nI R.1)), (4, .int (nI i)), (3, .ref out), (2, .ref mo), (1, .ref h), (0, .ref b)]) rfl (fun ls hl => ?_)
  refine lv_aload_n hx hb nd_L_law_293 rfl (lv_at hl 4 rfl) ?_
  refine g_calli (va_runV (As := []) (rest := []) ⟨hx, hb, hml, hown, hts⟩ (c_M_thrown l G w34 mo ra sa (mo_b R.2.2.1) (nI R.1) hm) (cwV (C := nR_M) 0 hts (nw_of (nw_4 nh_ml_L_70 nh_im_M_thrown nh_se_M_thrown nh_in_M nh_co_M_thrown)) rfl rfl rfl (by decide +kernel) ⟨Nat.le_of_ble_eq_true rfl, Nat.le_of_ble_eq_true rfl⟩) (g_preV (ci := 5) (q := (nR_M, nT_M, 4)) hK hw hS rfl hm _) rfl rfl hl.1 rfl (lv_room (Nat.le_of_ble_eq_true rfl)) nd_L_law_294 ⟨by first | (show _ ≤ 601024; omega) | (show _ ≤ 7293034; omega), by first | (show _ ≤ 601024; omega) | (show _ ≤ 7293034; omega)⟩) hS (fun u9 w35 H locs hp3 hw hS => ?_)
  obtain ⟨rfl, hw9⟩ := hp3
  rw [hw9] at hw
  refine lv_iload hx hb nd_L_law_297 (lv_at hl 1 rfl) ?_
  refine lv_icmp_eq (tgt := 304) hx hb nd_L_law_299 (by decide) (fun hc => ?_) (fun hc => absurd rfl hc)
  refine lv_iload hx hb nd_L_law_304 (lv_at hl 1 rfl) ?_
  refine lv_if_ne (tgt := 321) hx hb nd_L_law_306 (by decide) (fun hc => ?_) (fun hc => ?_)
  · refine lv_goto (tgt := 1079) hx hb nd_L_law_321 (by decide) ?_
    exact W.widen (k := cells + 400) (n := slots + 6500) (by omega) (by omega) (kk R.2.2 (nI R.1) _ H locs ls hI2 (lv_sub hl [2, 3, 4, 5, 6] rfl) hw hS)
  · have h0 : R.1 = 0 := (nI_eq (b := 0) (by omega) (by omega)).mp (hc.trans nI_0.symm)
    refine lv_aload_n hx hb nd_L_law_309 rfl (lv_at hl 3 rfl) ?_
    refine lv_iconst (v := 0) hx hb nd_L_law_310 (by decide) ?_
    refine xw_lald hx hb hK.1 hw 0 ho2 rfl (by unfold vp_in; decide) nd_L_law_311 ?_
    refine lv_topl (fun y36 ey37 => ?_)
    obtain rfl : y36 = R.2.1 := ey37.trans (hv1 h0)
    refine lv_iload hx hb nd_L_law_312 (lv_at hl 0 rfl) ?_
    refine lv_i2l hx hb nd_L_law_314 rfl ?_
    refine lv_topl (fun y38 ey39 => ?_)
    obtain rfl : y38 = R.2.1 := ey39.trans (hp2.2.1)
    refine W.lcmp hx hb nd_L_law_315 ?_
    refine lv_topi (fun y40 ey41 => ?_)
    obtain rfl : y40 = 0 := ey41.trans (lg_cmp_rf _)
    refine lv_if_eq (tgt := 321) hx hb nd_L_law_316 (by decide) (fun hc => ?_) (fun hc => absurd rfl hc)
    refine lv_goto (tgt := 1079) hx hb nd_L_law_321 (by decide) ?_
    exact W.widen (k := cells + 400) (n := slots + 6500) (by omega) (by omega) (kk R.2.2 (nI R.1) _ H locs ls hI2 (lv_sub hl [2, 3, 4, 5, 6] rfl) hw hS)

set_option maxHeartbeats 4000000 in
set_option maxRecDepth 100000 in
theorem k_set {p : Program} {l : Launch} {e : Env} {s : State} {m : MethodId} {below : List Frame} {meth : Method} {c : Code} {H : Heap} {locs : List Loc} {cells slots : Nat} {Q : State → Prop} {ls : Array Slot} {b Ln : Nat} {xs : Nat → Int32} {G : g_G} {w : xw_W} {h e0 sl mo ra sa : Nat} {rr : Nat → Nat} {out : Nat} {S : sp_S} {K : Nat} {cd : Int32} {i : Nat}
    (hl9 : l.stackTraces = false) (hx : p.tables.exec = Jvm.exec) (hb : c.code = nb_L_law) (hml : c.maxLocals = 8) (hown : s.vm.findClass "RadixShelfLaw" = some m.cls) (hts : ∀ w ∈ Cond.initialized "RadixShelf" :: nw_T, w.before #[Value.ref b] s = true) (hX : va_X b Ln xs s s.heap) (hbl : b < s.heap.size) (hG : g_b G = s.heap.size) (hK : g_K G s) (hLn : Ln ≤ 3584) (hi : i + 7 ≤ Ln) (hK9 : K + 1 < 2 ^ 31) (hI : la_I G w h e0 sl mo ra sa rr out S K cd) (hl : lv_has ls 8 [(4, .int (nI i)), (3, .ref out), (2, .ref mo), (1, .ref h), (0, .ref b)]) (hw : g_P G w H) (hS : g_S G s.heap H locs) (hcl : cells + 400 ≤ 601024) (hsl9 : slots + 6500 ≤ 7293034)
    (kk : ∀ (S' : sp_S) (cd' : Int32) (w' : xw_W) (H' : Heap) (locs' : List Loc) (ls' : Array Slot), la_I G w' h e0 sl mo ra sa rr out S' (K + 1) cd' → lv_has ls' 8 [(4, .int (nI i)), (3, .ref out), (2, .ref mo), (1, .ref h), (0, .ref b)] → g_P G w' H' → g_S G s.heap H' locs' → W p l e room_1 s m #[Value.ref b] below meth c H' locs' (cells + 400) (slots + 6500) Q (F0 m 1079 ls' [])) : W p l e room_1 s m #[Value.ref b] below meth c H locs cells slots Q (F0 m 324 ls []) := by
  have hT : ∀ w ∈ nw_T, w.before _ s = true := fun w h => hts w (List.mem_cons_of_mem _ h)
  have hB : g_b G ≤ s.heap.size := Nat.le_of_eq hG
  have hnb : ¬ xw_A (g_b G) b := fun z => absurd (show g_b G ≤ b from z) (by omega)
  obtain ⟨hSt, hM, ⟨fo0, ho0⟩, ⟨hOo, -⟩, hne⟩ := id hI
  refine lv_aload_n hx hb nd_L_law_324 rfl (lv_at hl 3 rfl) ?_
  refine lv_aload_n hx hb nd_L_law_325 rfl (lv_at hl 4 rfl) ?_
  refine lv_iload hx hb nd_L_law_326 (lv_at hl 0 rfl) ?_
  refine lv_iconst (v := 1) hx hb nd_L_law_328 (by decide) ?_
  refine lv_iadd hx hb nd_L_law_329 ?_
  refine lv_topi (fun y1 ey2 => ?_)
  obtain rfl : y1 = nI (i + 1) := ey2.trans (nI_add i 1)
  refine va_sld hx hb hX hbl hnb hS (vp_in_nI (by omega) (by omega)) nd_L_law_330 ?_
  refine lv_topi (fun y3 ey4 => ?_)
  obtain rfl : y3 = xs (i + 1) := ey4.trans (by rw [nI_clamp (by omega)])
  refine lv_aload_n hx hb nd_L_law_331 rfl (lv_at hl 4 rfl) ?_
  refine lv_iload hx hb nd_L_law_332 (lv_at hl 0 rfl) ?_
  refine lv_iconst (v := 2) hx hb nd_L_law_334 (by decide) ?_
  refine lv_iadd hx hb nd_L_law_335 ?_
  refine lv_topi (fun y5 ey6 => ?_)
  obtain rfl : y5 = nI (i + 2) := ey6.trans (nI_add i 2)
  refine va_sld hx hb hX hbl hnb hS (vp_in_nI (by omega) (by omega)) nd_L_law_336 ?_
  refine lv_topi (fun y7 ey8 => ?_)
  obtain rfl : y7 = xs (i + 2) := ey8.trans (by rw [nI_clamp (by omega)])
  refine lv_aload_n hx hb nd_L_law_337 rfl (lv_at hl 4 rfl) ?_
  refine lv_iload hx hb nd_L_law_338 (lv_at hl 0 rfl) ?_
  refine lv_iconst (v := 3) hx hb nd_L_law_340 (by decide) ?_
  refine lv_iadd hx hb nd_L_law_341 ?_
  refine lv_topi (fun y9 ey10 => ?_)
  obtain rfl : y9 = nI (i + 3) := ey10.trans (nI_add i 3)
  refine va_sld hx hb hX hbl hnb hS (vp_in_nI (by omega) (by omega)) nd_L_law_342 ?_
  refine lv_topi (fun y11 ey12 => ?_)
  obtain rfl : y11 = xs (i + 3) := ey12.trans (by rw [nI_clamp (by omega)])
  refine lv_aload_n hx hb nd_L_law_343 rfl (lv_at hl 4 rfl) ?_
  refine lv_iload hx hb nd_L_law_344 (lv_at hl 0 rfl) ?_
  refine lv_iconst (v := 4) hx hb nd_L_law_346 (by decide) ?_
  refine lv_iadd hx hb nd_L_law_347 ?_
  refine lv_topi (fun y13 ey14 => ?_)
  obtain rfl : y13 = nI (i + 4) := ey14.trans (nI_add i 4)
  refine va_sld hx hb hX hbl hnb hS (vp_in_nI (by omega) (by omega)) nd_L_law_348 ?_
  refine lv_topi (fun y15 ey16 => ?_)
  obtain rfl : y15 = xs (i + 4) := ey16.trans (by rw [nI_clamp (by omega)])
  refine lv_i2l hx hb nd_L_law_349 rfl ?_
  refine lv_bipush (v := 32) hx hb nd_L_law_350 (by decide) ?_
  refine lv_lshl hx hb nd_L_law_352 rfl ?_
  refine lv_aload_n hx hb nd_L_law_353 rfl (lv_at hl 4 rfl) ?_
  refine lv_iload hx hb nd_L_law_354 (lv_at hl 0 rfl) ?_
  refine lv_iconst (v := 5) hx hb nd_L_law_356 (by decide) ?_
  refine lv_iadd hx hb nd_L_law_357 ?_
  refine lv_topi (fun y17 ey18 => ?_)
  obtain rfl : y17 = nI (i + 5) := ey18.trans (nI_add i 5)
  refine va_sld hx hb hX hbl hnb hS (vp_in_nI (by omega) (by omega)) nd_L_law_358 ?_
  refine lv_topi (fun y19 ey20 => ?_)
  obtain rfl : y19 = xs (i + 5) := ey20.trans (by rw [nI_clamp (by omega)])
  refine lv_i2l hx hb nd_L_law_359 rfl ?_
  refine lv_ldc2 hx hb hown (hT _ nh_kl_L_62) nd_L_law_360 ?_
  refine lv_land hx hb nd_L_law_363 ?_
  refine lv_lor hx hb nd_L_law_364 ?_
  refine lv_topl (fun y0 ey0 => ?_)
  refine lv_aload_n hx hb nd_L_law_365 rfl (lv_at hl 1 rfl) ?_
  obtain ⟨R, eR⟩ : ∃ z, z = sp_set S (xs (i + 1)) (xs (i + 2)) (xs (i + 3)) y0 := ⟨_, rfl⟩
  refine g_calli (vx_runSW (As := [.ref h, .int (xs (i + 1)), .int (xs (i + 2)), .int (xs (i + 3)), .long y0, .ref out]) (rest := []) ⟨hx, hb, hml, hown, hts⟩ (c_L_set l hl9 G w h e0 sl K S hSt hK9 out fo0 hOo ho0 (xs (i + 1)) (xs (i + 2)) (xs (i + 3)) y0) (vx_cwSW 6 hts (nw_of (nw_3 nh_ml_L_77 nh_st_L_set nh_in_L nh_co_L_set)) rfl rfl rfl (by decide +kernel) ⟨Nat.le_of_ble_eq_true rfl, Nat.le_of_ble_eq_true rfl⟩) (g_preS hK hw hS _) rfl rfl hl.1 rfl (lv_room (Nat.le_of_ble_eq_true rfl)) nd_L_law_366 ⟨by first | (show _ ≤ 601024; omega) | (show _ ≤ 7293034; omega), by first | (show _ ≤ 601024; omega) | (show _ ≤ 7293034; omega)⟩) hS (fun k9 w21 H locs hp hw hS => ?_)
  rw [← eR] at hp
  have hR4 : R.1 ≤ 4 := by rw [eR]; exact sp_set_b
  obtain rfl := hp.1
  obtain ⟨hS1, hM1, ⟨fo, ho1, hv1⟩, hO1⟩ := la_1 hI hp
  obtain ⟨f1, hJ1, -⟩ := id hM1
  have hm := hJ1.1
  refine lv_istore hx hb nd_L_law_369 hl (by decide) (lv' := [(5, .int (nI R.1)), (4, .int (nI i)), (3, .ref out), (2, .ref mo), (1, .ref h), (0, .ref b)]) rfl (fun ls hl => ?_)
  refine lv_aload_n hx hb nd_L_law_371 rfl (lv_at hl 3 rfl) ?_
  refine lv_aload_n hx hb nd_L_law_372 rfl (lv_at hl 5 rfl) ?_
  refine lv_iload hx hb nd_L_law_373 (lv_at hl 1 rfl) ?_
  refine lv_iconst (v := 1) hx hb nd_L_law_375 (by decide) ?_
  refine lv_iadd hx hb nd_L_law_376 ?_
  refine lv_topi (fun y22 ey23 => ?_)
  obtain rfl : y22 = nI (i + 1) := ey23.trans (nI_add i 1)
  refine va_sld hx hb hX hbl hnb hS (vp_in_nI (by omega) (by omega)) nd_L_law_377 ?_
  refine lv_topi (fun y24 ey25 => ?_)
  obtain rfl : y24 = xs (i + 1) := ey25.trans (by rw [nI_clamp (by omega)])
  refine lv_aload_n hx hb nd_L_law_378 rfl (lv_at hl 5 rfl) ?_
  refine lv_iload hx hb nd_L_law_379 (lv_at hl 1 rfl) ?_
  refine lv_iconst (v := 2) hx hb nd_L_law_381 (by decide) ?_
  refine lv_iadd hx hb nd_L_law_382 ?_
  refine lv_topi (fun y26 ey27 => ?_)
  obtain rfl : y26 = nI (i + 2) := ey27.trans (nI_add i 2)
  refine va_sld hx hb hX hbl hnb hS (vp_in_nI (by omega) (by omega)) nd_L_law_383 ?_
  refine lv_topi (fun y28 ey29 => ?_)
  obtain rfl : y28 = xs (i + 2) := ey29.trans (by rw [nI_clamp (by omega)])
  refine lv_aload_n hx hb nd_L_law_384 rfl (lv_at hl 5 rfl) ?_
  refine lv_iload hx hb nd_L_law_385 (lv_at hl 1 rfl) ?_
  refine lv_iconst (v := 3) hx hb nd_L_law_387 (by decide) ?_
  refine lv_iadd hx hb nd_L_law_388 ?_
  refine lv_topi (fun y30 ey31 => ?_)
  obtain rfl : y30 = nI (i + 3) := ey31.trans (nI_add i 3)
  refine va_sld hx hb hX hbl hnb hS (vp_in_nI (by omega) (by omega)) nd_L_law_389 ?_
  refine lv_topi (fun y32 ey33 => ?_)
  obtain rfl : y32 = xs (i + 3) := ey33.trans (by rw [nI_clamp (by omega)])
  refine lv_aload_n hx hb nd_L_law_390 rfl (lv_at hl 5 rfl) ?_
  refine lv_iload hx hb nd_L_law_391 (lv_at hl 1 rfl) ?_
  refine lv_iconst (v := 4) hx hb nd_L_law_393 (by decide) ?_
  refine lv_iadd hx hb nd_L_law_394 ?_
  refine lv_topi (fun y34 ey35 => ?_)
  obtain rfl : y34 = nI (i + 4) := ey35.trans (nI_add i 4)
  refine va_sld hx hb hX hbl hnb hS (vp_in_nI (by omega) (by omega)) nd_L_law_395 ?_
  refine lv_topi (fun y36 ey37 => ?_)
  obtain rfl : y36 = xs (i + 4) := ey37.trans (by rw [nI_clamp (by omega)])
  refine lv_i2l hx hb nd_L_law_396 rfl ?_
  refine lv_bipush (v := 32) hx hb nd_L_law_397 (by decide) ?_
  refine lv_lshl hx hb nd_L_law_399 rfl ?_
  refine lv_aload_n hx hb nd_L_law_400 rfl (lv_at hl 5 rfl) ?_
  refine lv_iload hx hb nd_L_law_401 (lv_at hl 1 rfl) ?_
  refine lv_iconst (v := 5) hx hb nd_L_law_403 (by decide) ?_
  refine lv_iadd hx hb nd_L_law_404 ?_
  refine lv_topi (fun y38 ey39 => ?_)
  obtain rfl : y38 = nI (i + 5) := ey39.trans (nI_add i 5)
  refine va_sld hx hb hX hbl hnb hS (vp_in_nI (by omega) (by omega)) nd_L_law_405 ?_
  refine lv_topi (fun y40 ey41 => ?_)
  obtain rfl : y40 = xs (i + 5) := ey41.trans (by rw [nI_clamp (by omega)])
  refine lv_i2l hx hb nd_L_law_406 rfl ?_
  refine lv_ldc2 hx hb hown (hT _ nh_kl_L_62) nd_L_law_407 ?_
  refine lv_land hx hb nd_L_law_410 ?_
  refine lv_lor hx hb nd_L_law_411 ?_
  refine lv_topl (fun z0 ez0 => ?_)
  obtain rfl : y0 = z0 := ey0.trans ez0.symm
  refine g_calll (va_runV (As := [.int (xs (i + 1)), .int (xs (i + 2)), .int (xs (i + 3)), .long y0]) (rest := []) ⟨hx, hb, hml, hown, hts⟩ (c_M_set l G w21 mo ra sa rr S cd hM1 (xs (i + 1)) (xs (i + 2)) (xs (i + 3)) y0) (cwV (C := nR_M) 4 hts (nw_of (nw_4 nh_ml_L_80 nh_im_M_set nh_se_M_set nh_in_M nh_co_M_set)) rfl rfl rfl (by decide +kernel) ⟨Nat.le_of_ble_eq_true rfl, Nat.le_of_ble_eq_true rfl⟩) (g_preV (ci := 5) (q := (nR_M, nT_M, 4)) hK hw hS rfl hm _) rfl rfl hl.1 rfl (lv_room (Nat.le_of_ble_eq_true rfl)) nd_L_law_412 ⟨by first | (show _ ≤ 601024; omega) | (show _ ≤ 7293034; omega), by first | (show _ ≤ 601024; omega) | (show _ ≤ 7293034; omega)⟩) hS (fun v9 w42 H locs hp2 hw hS => ?_)
  rw [← eR] at hp2
  obtain ⟨hI2, ho2⟩ := la_2 hS1 hM1 ho1 hO1 hne hp2
  obtain ⟨f2, hJ2, -⟩ := id hI2.2.1
  have hm := hJ2.1
  refine lv_lstore hx hb nd_L_law_415 hl (by decide) (lv' := [(6, .long v9), (5, .int (nI R.1)), (4, .int (nI i)), (3, .ref out), (2, .ref mo), (1, .ref h), (0, .ref b)]) rfl (fun ls hl => ?_)
  refine lv_aload_n hx hb nd_L_law_417 rfl (lv_at hl 4 rfl) ?_
  refine g_calli (va_runV (As := []) (rest := []) ⟨hx, hb, hml, hown, hts⟩ (c_M_thrown l G w42 mo ra sa (mo_b R.2.2.1) (nI R.1) hm) (cwV (C := nR_M) 0 hts (nw_of (nw_4 nh_ml_L_70 nh_im_M_thrown nh_se_M_thrown nh_in_M nh_co_M_thrown)) rfl rfl rfl (by decide +kernel) ⟨Nat.le_of_ble_eq_true rfl, Nat.le_of_ble_eq_true rfl⟩) (g_preV (ci := 5) (q := (nR_M, nT_M, 4)) hK hw hS rfl hm _) rfl rfl hl.1 rfl (lv_room (Nat.le_of_ble_eq_true rfl)) nd_L_law_418 ⟨by first | (show _ ≤ 601024; omega) | (show _ ≤ 7293034; omega), by first | (show _ ≤ 601024; omega) | (show _ ≤ 7293034; omega)⟩) hS (fun u9 w43 H locs hp3 hw hS => ?_)
  obtain ⟨rfl, hw9⟩ := hp3
  rw [hw9] at hw
  refine lv_iload hx hb nd_L_law_421 (lv_at hl 1 rfl) ?_
  refine lv_icmp_eq (tgt := 428) hx hb nd_L_law_423 (by decide) (fun hc => ?_) (fun hc => absurd rfl hc)
  refine lv_iload hx hb nd_L_law_428 (lv_at hl 1 rfl) ?_
  refine lv_if_ne (tgt := 444) hx hb nd_L_law_430 (by decide) (fun hc => ?_) (fun hc => ?_)
  · refine lv_goto (tgt := 1079) hx hb nd_L_law_444 (by decide) ?_
    exact W.widen (k := cells + 400) (n := slots + 6500) (by omega) (by omega) (kk R.2.2 (nI R.1) _ H locs ls hI2 (lv_sub hl [2, 3, 4, 5, 6] rfl) hw hS)
  · have h0 : R.1 = 0 := (nI_eq (b := 0) (by omega) (by omega)).mp (hc.trans nI_0.symm)
    refine lv_aload_n hx hb nd_L_law_433 rfl (lv_at hl 3 rfl) ?_
    refine lv_iconst (v := 0) hx hb nd_L_law_434 (by decide) ?_
    refine xw_lald hx hb hK.1 hw 0 ho2 rfl (by unfold vp_in; decide) nd_L_law_435 ?_
    refine lv_topl (fun y44 ey45 => ?_)
    obtain rfl : y44 = R.2.1 := ey45.trans (hv1 h0)
    refine lv_lload hx hb nd_L_law_436 (lv_at hl 0 rfl) ?_
    refine lv_topl (fun y46 ey47 => ?_)
    obtain rfl : y46 = R.2.1 := ey47.trans (hp2.2.1)
    refine W.lcmp hx hb nd_L_law_438 ?_
    refine lv_topi (fun y48 ey49 => ?_)
    obtain rfl : y48 = 0 := ey49.trans (lg_cmp_rf _)
    refine lv_if_eq (tgt := 444) hx hb nd_L_law_439 (by decide) (fun hc => ?_) (fun hc => absurd rfl hc)
    refine lv_goto (tgt := 1079) hx hb nd_L_law_444 (by decide) ?_
    exact W.widen (k := cells + 400) (n := slots + 6500) (by omega) (by omega) (kk R.2.2 (nI R.1) _ H locs ls hI2 (lv_sub hl [2, 3, 4, 5, 6] rfl) hw hS)

set_option maxHeartbeats 4000000 in
set_option maxRecDepth 100000 in
theorem k_at {p : Program} {l : Launch} {e : Env} {s : State} {m : MethodId} {below : List Frame} {meth : Method} {c : Code} {H : Heap} {locs : List Loc} {cells slots : Nat} {Q : State → Prop} {ls : Array Slot} {b Ln : Nat} {xs : Nat → Int32} {G : g_G} {w : xw_W} {h e0 sl mo ra sa : Nat} {rr : Nat → Nat} {out : Nat} {S : sp_S} {K : Nat} {cd : Int32} {i : Nat}
    (hl9 : l.stackTraces = false) (hx : p.tables.exec = Jvm.exec) (hb : c.code = nb_L_law) (hml : c.maxLocals = 8) (hown : s.vm.findClass "RadixShelfLaw" = some m.cls) (hts : ∀ w ∈ Cond.initialized "RadixShelf" :: nw_T, w.before #[Value.ref b] s = true) (hX : va_X b Ln xs s s.heap) (hbl : b < s.heap.size) (hG : g_b G = s.heap.size) (hK : g_K G s) (hLn : Ln ≤ 3584) (hi : i + 7 ≤ Ln) (hK9 : K + 1 < 2 ^ 31) (hI : la_I G w h e0 sl mo ra sa rr out S K cd) (hl : lv_has ls 8 [(4, .int (nI i)), (3, .ref out), (2, .ref mo), (1, .ref h), (0, .ref b)]) (hw : g_P G w H) (hS : g_S G s.heap H locs) (hcl : cells + 400 ≤ 601024) (hsl9 : slots + 6500 ≤ 7293034)
    (kk : ∀ (S' : sp_S) (cd' : Int32) (w' : xw_W) (H' : Heap) (locs' : List Loc) (ls' : Array Slot), la_I G w' h e0 sl mo ra sa rr out S' (K + 1) cd' → lv_has ls' 8 [(4, .int (nI i)), (3, .ref out), (2, .ref mo), (1, .ref h), (0, .ref b)] → g_P G w' H' → g_S G s.heap H' locs' → W p l e room_1 s m #[Value.ref b] below meth c H' locs' (cells + 400) (slots + 6500) Q (F0 m 1079 ls' [])) : W p l e room_1 s m #[Value.ref b] below meth c H locs cells slots Q (F0 m 447 ls []) := by
  have hT : ∀ w ∈ nw_T, w.before _ s = true := fun w h => hts w (List.mem_cons_of_mem _ h)
  have hB : g_b G ≤ s.heap.size := Nat.le_of_eq hG
  have hnb : ¬ xw_A (g_b G) b := fun z => absurd (show g_b G ≤ b from z) (by omega)
  obtain ⟨hSt, hM, ⟨fo0, ho0⟩, ⟨hOo, -⟩, hne⟩ := id hI
  refine lv_aload_n hx hb nd_L_law_447 rfl (lv_at hl 3 rfl) ?_
  refine lv_aload_n hx hb nd_L_law_448 rfl (lv_at hl 4 rfl) ?_
  refine lv_iload hx hb nd_L_law_449 (lv_at hl 0 rfl) ?_
  refine lv_iconst (v := 1) hx hb nd_L_law_451 (by decide) ?_
  refine lv_iadd hx hb nd_L_law_452 ?_
  refine lv_topi (fun y1 ey2 => ?_)
  obtain rfl : y1 = nI (i + 1) := ey2.trans (nI_add i 1)
  refine va_sld hx hb hX hbl hnb hS (vp_in_nI (by omega) (by omega)) nd_L_law_453 ?_
  refine lv_topi (fun y3 ey4 => ?_)
  obtain rfl : y3 = xs (i + 1) := ey4.trans (by rw [nI_clamp (by omega)])
  refine lv_aload_n hx hb nd_L_law_454 rfl (lv_at hl 4 rfl) ?_
  refine lv_iload hx hb nd_L_law_455 (lv_at hl 0 rfl) ?_
  refine lv_iconst (v := 2) hx hb nd_L_law_457 (by decide) ?_
  refine lv_iadd hx hb nd_L_law_458 ?_
  refine lv_topi (fun y5 ey6 => ?_)
  obtain rfl : y5 = nI (i + 2) := ey6.trans (nI_add i 2)
  refine va_sld hx hb hX hbl hnb hS (vp_in_nI (by omega) (by omega)) nd_L_law_459 ?_
  refine lv_topi (fun y7 ey8 => ?_)
  obtain rfl : y7 = xs (i + 2) := ey8.trans (by rw [nI_clamp (by omega)])
  refine lv_aload_n hx hb nd_L_law_460 rfl (lv_at hl 1 rfl) ?_
  obtain ⟨R, eR⟩ : ∃ z, z = sp_at S (xs (i + 1)) (xs (i + 2)) := ⟨_, rfl⟩
  refine g_calli (vx_runSW (As := [.ref h, .int (xs (i + 1)), .int (xs (i + 2)), .ref out]) (rest := []) ⟨hx, hb, hml, hown, hts⟩ (c_L_at l hl9 G w h e0 sl K S hSt hK9 out fo0 hOo ho0 (xs (i + 1)) (xs (i + 2))) (vx_cwSW 4 hts (nw_of (nw_3 nh_ml_L_81 nh_st_L_at nh_in_L nh_co_L_at)) rfl rfl rfl (by decide +kernel) ⟨Nat.le_of_ble_eq_true rfl, Nat.le_of_ble_eq_true rfl⟩) (g_preS hK hw hS _) rfl rfl hl.1 rfl (lv_room (Nat.le_of_ble_eq_true rfl)) nd_L_law_461 ⟨by first | (show _ ≤ 601024; omega) | (show _ ≤ 7293034; omega), by first | (show _ ≤ 601024; omega) | (show _ ≤ 7293034; omega)⟩) hS (fun k9 w9 H locs hp hw hS => ?_)
  rw [← eR] at hp
  have hR4 : R.1 ≤ 4 := by rw [eR]; exact sp_at_b
  obtain rfl := hp.1
  obtain ⟨hS1, hM1, ⟨fo, ho1, hv1⟩, hO1⟩ := la_1 hI hp
  obtain ⟨f1, hJ1, -⟩ := id hM1
  have hm := hJ1.1
  refine lv_istore hx hb nd_L_law_464 hl (by decide) (lv' := [(5, .int (nI R.1)), (4, .int (nI i)), (3, .ref out), (2, .ref mo), (1, .ref h), (0, .ref b)]) rfl (fun ls hl => ?_)
  refine lv_aload_n hx hb nd_L_law_466 rfl (lv_at hl 3 rfl) ?_
  refine lv_aload_n hx hb nd_L_law_467 rfl (lv_at hl 5 rfl) ?_
  refine lv_iload hx hb nd_L_law_468 (lv_at hl 1 rfl) ?_
  refine lv_iconst (v := 1) hx hb nd_L_law_470 (by decide) ?_
  refine lv_iadd hx hb nd_L_law_471 ?_
  refine lv_topi (fun y10 ey11 => ?_)
  obtain rfl : y10 = nI (i + 1) := ey11.trans (nI_add i 1)
  refine va_sld hx hb hX hbl hnb hS (vp_in_nI (by omega) (by omega)) nd_L_law_472 ?_
  refine lv_topi (fun y12 ey13 => ?_)
  obtain rfl : y12 = xs (i + 1) := ey13.trans (by rw [nI_clamp (by omega)])
  refine lv_aload_n hx hb nd_L_law_473 rfl (lv_at hl 5 rfl) ?_
  refine lv_iload hx hb nd_L_law_474 (lv_at hl 1 rfl) ?_
  refine lv_iconst (v := 2) hx hb nd_L_law_476 (by decide) ?_
  refine lv_iadd hx hb nd_L_law_477 ?_
  refine lv_topi (fun y14 ey15 => ?_)
  obtain rfl : y14 = nI (i + 2) := ey15.trans (nI_add i 2)
  refine va_sld hx hb hX hbl hnb hS (vp_in_nI (by omega) (by omega)) nd_L_law_478 ?_
  refine lv_topi (fun y16 ey17 => ?_)
  obtain rfl : y16 = xs (i + 2) := ey17.trans (by rw [nI_clamp (by omega)])
  refine g_calll (va_runV (As := [.int (xs (i + 1)), .int (xs (i + 2))]) (rest := []) ⟨hx, hb, hml, hown, hts⟩ (c_M_at l G w9 mo ra sa rr S cd hM1 (xs (i + 1)) (xs (i + 2))) (cwV (C := nR_M) 2 hts (nw_of (nw_4 nh_ml_L_84 nh_im_M_at nh_se_M_at nh_in_M nh_co_M_at)) rfl rfl rfl (by decide +kernel) ⟨Nat.le_of_ble_eq_true rfl, Nat.le_of_ble_eq_true rfl⟩) (g_preV (ci := 5) (q := (nR_M, nT_M, 4)) hK hw hS rfl hm _) rfl rfl hl.1 rfl (lv_room (Nat.le_of_ble_eq_true rfl)) nd_L_law_479 ⟨by first | (show _ ≤ 601024; omega) | (show _ ≤ 7293034; omega), by first | (show _ ≤ 601024; omega) | (show _ ≤ 7293034; omega)⟩) hS (fun v9 w18 H locs hp2 hw hS => ?_)
  rw [← eR] at hp2
  obtain ⟨hI2, ho2⟩ := la_2 hS1 hM1 ho1 hO1 hne hp2
  obtain ⟨f2, hJ2, -⟩ := id hI2.2.1
  have hm := hJ2.1
  refine lv_lstore hx hb nd_L_law_482 hl (by decide) (lv' := [(6, .long v9), (5, .int (nI R.1)), (4, .int (nI i)), (3, .ref out), (2, .ref mo), (1, .ref h), (0, .ref b)]) rfl (fun ls hl => ?_)
  refine lv_aload_n hx hb nd_L_law_484 rfl (lv_at hl 4 rfl) ?_
  refine g_calli (va_runV (As := []) (rest := []) ⟨hx, hb, hml, hown, hts⟩ (c_M_thrown l G w18 mo ra sa (mo_b R.2.2.1) (nI R.1) hm) (cwV (C := nR_M) 0 hts (nw_of (nw_4 nh_ml_L_70 nh_im_M_thrown nh_se_M_thrown nh_in_M nh_co_M_thrown)) rfl rfl rfl (by decide +kernel) ⟨Nat.le_of_ble_eq_true rfl, Nat.le_of_ble_eq_true rfl⟩) (g_preV (ci := 5) (q := (nR_M, nT_M, 4)) hK hw hS rfl hm _) rfl rfl hl.1 rfl (lv_room (Nat.le_of_ble_eq_true rfl)) nd_L_law_485 ⟨by first | (show _ ≤ 601024; omega) | (show _ ≤ 7293034; omega), by first | (show _ ≤ 601024; omega) | (show _ ≤ 7293034; omega)⟩) hS (fun u9 w19 H locs hp3 hw hS => ?_)
  obtain ⟨rfl, hw9⟩ := hp3
  rw [hw9] at hw
  refine lv_iload hx hb nd_L_law_488 (lv_at hl 1 rfl) ?_
  refine lv_icmp_eq (tgt := 495) hx hb nd_L_law_490 (by decide) (fun hc => ?_) (fun hc => absurd rfl hc)
  refine lv_iload hx hb nd_L_law_495 (lv_at hl 1 rfl) ?_
  refine lv_if_ne (tgt := 511) hx hb nd_L_law_497 (by decide) (fun hc => ?_) (fun hc => ?_)
  · refine lv_goto (tgt := 1079) hx hb nd_L_law_511 (by decide) ?_
    exact W.widen (k := cells + 400) (n := slots + 6500) (by omega) (by omega) (kk R.2.2 (nI R.1) _ H locs ls hI2 (lv_sub hl [2, 3, 4, 5, 6] rfl) hw hS)
  · have h0 : R.1 = 0 := (nI_eq (b := 0) (by omega) (by omega)).mp (hc.trans nI_0.symm)
    refine lv_aload_n hx hb nd_L_law_500 rfl (lv_at hl 3 rfl) ?_
    refine lv_iconst (v := 0) hx hb nd_L_law_501 (by decide) ?_
    refine xw_lald hx hb hK.1 hw 0 ho2 rfl (by unfold vp_in; decide) nd_L_law_502 ?_
    refine lv_topl (fun y20 ey21 => ?_)
    obtain rfl : y20 = R.2.1 := ey21.trans (hv1 h0)
    refine lv_lload hx hb nd_L_law_503 (lv_at hl 0 rfl) ?_
    refine lv_topl (fun y22 ey23 => ?_)
    obtain rfl : y22 = R.2.1 := ey23.trans (hp2.2.1)
    refine W.lcmp hx hb nd_L_law_505 ?_
    refine lv_topi (fun y24 ey25 => ?_)
    obtain rfl : y24 = 0 := ey25.trans (lg_cmp_rf _)
    refine lv_if_eq (tgt := 511) hx hb nd_L_law_506 (by decide) (fun hc => ?_) (fun hc => absurd rfl hc)
    refine lv_goto (tgt := 1079) hx hb nd_L_law_511 (by decide) ?_
    exact W.widen (k := cells + 400) (n := slots + 6500) (by omega) (by omega) (kk R.2.2 (nI R.1) _ H locs ls hI2 (lv_sub hl [2, 3, 4, 5, 6] rfl) hw hS)

set_option maxHeartbeats 4000000 in
set_option maxRecDepth 100000 in
theorem k_cut {p : Program} {l : Launch} {e : Env} {s : State} {m : MethodId} {below : List Frame} {meth : Method} {c : Code} {H : Heap} {locs : List Loc} {cells slots : Nat} {Q : State → Prop} {ls : Array Slot} {b Ln : Nat} {xs : Nat → Int32} {G : g_G} {w : xw_W} {h e0 sl mo ra sa : Nat} {rr : Nat → Nat} {out : Nat} {S : sp_S} {K : Nat} {cd : Int32} {i : Nat}
    (hl9 : l.stackTraces = false) (hx : p.tables.exec = Jvm.exec) (hb : c.code = nb_L_law) (hml : c.maxLocals = 8) (hown : s.vm.findClass "RadixShelfLaw" = some m.cls) (hts : ∀ w ∈ Cond.initialized "RadixShelf" :: nw_T, w.before #[Value.ref b] s = true) (hX : va_X b Ln xs s s.heap) (hbl : b < s.heap.size) (hG : g_b G = s.heap.size) (hK : g_K G s) (hLn : Ln ≤ 3584) (hi : i + 7 ≤ Ln) (hK9 : K + 1 < 2 ^ 31) (hI : la_I G w h e0 sl mo ra sa rr out S K cd) (hl : lv_has ls 8 [(4, .int (nI i)), (3, .ref out), (2, .ref mo), (1, .ref h), (0, .ref b)]) (hw : g_P G w H) (hS : g_S G s.heap H locs) (hcl : cells + 400 ≤ 601024) (hsl9 : slots + 6500 ≤ 7293034)
    (kk : ∀ (S' : sp_S) (cd' : Int32) (w' : xw_W) (H' : Heap) (locs' : List Loc) (ls' : Array Slot), la_I G w' h e0 sl mo ra sa rr out S' (K + 1) cd' → lv_has ls' 8 [(4, .int (nI i)), (3, .ref out), (2, .ref mo), (1, .ref h), (0, .ref b)] → g_P G w' H' → g_S G s.heap H' locs' → W p l e room_1 s m #[Value.ref b] below meth c H' locs' (cells + 400) (slots + 6500) Q (F0 m 1079 ls' [])) : W p l e room_1 s m #[Value.ref b] below meth c H locs cells slots Q (F0 m 514 ls []) := by
  have hT : ∀ w ∈ nw_T, w.before _ s = true := fun w h => hts w (List.mem_cons_of_mem _ h)
  have hB : g_b G ≤ s.heap.size := Nat.le_of_eq hG
  have hnb : ¬ xw_A (g_b G) b := fun z => absurd (show g_b G ≤ b from z) (by omega)
  obtain ⟨hSt, hM, ⟨fo0, ho0⟩, ⟨hOo, -⟩, hne⟩ := id hI
  refine lv_aload_n hx hb nd_L_law_514 rfl (lv_at hl 3 rfl) ?_
  refine lv_aload_n hx hb nd_L_law_515 rfl (lv_at hl 4 rfl) ?_
  refine lv_iload hx hb nd_L_law_516 (lv_at hl 0 rfl) ?_
  refine lv_iconst (v := 1) hx hb nd_L_law_518 (by decide) ?_
  refine lv_iadd hx hb nd_L_law_519 ?_
  refine lv_topi (fun y1 ey2 => ?_)
  obtain rfl : y1 = nI (i + 1) := ey2.trans (nI_add i 1)
  refine va_sld hx hb hX hbl hnb hS (vp_in_nI (by omega) (by omega)) nd_L_law_520 ?_
  refine lv_topi (fun y3 ey4 => ?_)
  obtain rfl : y3 = xs (i + 1) := ey4.trans (by rw [nI_clamp (by omega)])
  refine lv_aload_n hx hb nd_L_law_521 rfl (lv_at hl 4 rfl) ?_
  refine lv_iload hx hb nd_L_law_522 (lv_at hl 0 rfl) ?_
  refine lv_iconst (v := 2) hx hb nd_L_law_524 (by decide) ?_
  refine lv_iadd hx hb nd_L_law_525 ?_
  refine lv_topi (fun y5 ey6 => ?_)
  obtain rfl : y5 = nI (i + 2) := ey6.trans (nI_add i 2)
  refine va_sld hx hb hX hbl hnb hS (vp_in_nI (by omega) (by omega)) nd_L_law_526 ?_
  refine lv_topi (fun y7 ey8 => ?_)
  obtain rfl : y7 = xs (i + 2) := ey8.trans (by rw [nI_clamp (by omega)])
  refine lv_aload_n hx hb nd_L_law_527 rfl (lv_at hl 4 rfl) ?_
  refine lv_iload hx hb nd_L_law_528 (lv_at hl 0 rfl) ?_
  refine lv_iconst (v := 3) hx hb nd_L_law_530 (by decide) ?_
  refine lv_iadd hx hb nd_L_law_531 ?_
  refine lv_topi (fun y9 ey10 => ?_)
  obtain rfl : y9 = nI (i + 3) := ey10.trans (nI_add i 3)
  refine va_sld hx hb hX hbl hnb hS (vp_in_nI (by omega) (by omega)) nd_L_law_532 ?_
  refine lv_topi (fun y11 ey12 => ?_)
  obtain rfl : y11 = xs (i + 3) := ey12.trans (by rw [nI_clamp (by omega)])
  refine lv_aload_n hx hb nd_L_law_533 rfl (lv_at hl 4 rfl) ?_
  refine lv_iload hx hb nd_L_law_534 (lv_at hl 0 rfl) ?_
  refine lv_iconst (v := 4) hx hb nd_L_law_536 (by decide) ?_
  refine lv_iadd hx hb nd_L_law_537 ?_
  refine lv_topi (fun y13 ey14 => ?_)
  obtain rfl : y13 = nI (i + 4) := ey14.trans (nI_add i 4)
  refine va_sld hx hb hX hbl hnb hS (vp_in_nI (by omega) (by omega)) nd_L_law_538 ?_
  refine lv_topi (fun y15 ey16 => ?_)
  obtain rfl : y15 = xs (i + 4) := ey16.trans (by rw [nI_clamp (by omega)])
  refine lv_aload_n hx hb nd_L_law_539 rfl (lv_at hl 1 rfl) ?_
  obtain ⟨R, eR⟩ : ∃ z, z = sp_cut S (xs (i + 1)) (xs (i + 2)) (xs (i + 3)) (xs (i + 4)) := ⟨_, rfl⟩
  refine g_calli (vx_runSW (As := [.ref h, .int (xs (i + 1)), .int (xs (i + 2)), .int (xs (i + 3)), .int (xs (i + 4)), .ref out]) (rest := []) ⟨hx, hb, hml, hown, hts⟩ (c_L_cut l hl9 G w h e0 sl K S hSt hK9 out fo0 hOo ho0 (xs (i + 1)) (xs (i + 2)) (xs (i + 3)) (xs (i + 4))) (vx_cwSW 6 hts (nw_of (nw_3 nh_ml_L_85 nh_st_L_cut nh_in_L nh_co_L_cut)) rfl rfl rfl (by decide +kernel) ⟨Nat.le_of_ble_eq_true rfl, Nat.le_of_ble_eq_true rfl⟩) (g_preS hK hw hS _) rfl rfl hl.1 rfl (lv_room (Nat.le_of_ble_eq_true rfl)) nd_L_law_540 ⟨by first | (show _ ≤ 601024; omega) | (show _ ≤ 7293034; omega), by first | (show _ ≤ 601024; omega) | (show _ ≤ 7293034; omega)⟩) hS (fun k9 w17 H locs hp hw hS => ?_)
  rw [← eR] at hp
  have hR4 : R.1 ≤ 4 := by rw [eR]; exact sp_cut_b
  obtain rfl := hp.1
  obtain ⟨hS1, hM1, ⟨fo, ho1, hv1⟩, hO1⟩ := la_1 hI hp
  obtain ⟨f1, hJ1, -⟩ := id hM1
  have hm := hJ1.1
  refine lv_istore hx hb nd_L_law_543 hl (by decide) (lv' := [(5, .int (nI R.1)), (4, .int (nI i)), (3, .ref out), (2, .ref mo), (1, .ref h), (0, .ref b)]) rfl (fun ls hl => ?_)
  refine lv_aload_n hx hb nd_L_law_545 rfl (lv_at hl 3 rfl) ?_
  refine lv_aload_n hx hb nd_L_law_546 rfl (lv_at hl 5 rfl) ?_
  refine lv_iload hx hb nd_L_law_547 (lv_at hl 1 rfl) ?_
  refine lv_iconst (v := 1) hx hb nd_L_law_549 (by decide) ?_
  refine lv_iadd hx hb nd_L_law_550 ?_
  refine lv_topi (fun y18 ey19 => ?_)
  obtain rfl : y18 = nI (i + 1) := ey19.trans (nI_add i 1)
  refine va_sld hx hb hX hbl hnb hS (vp_in_nI (by omega) (by omega)) nd_L_law_551 ?_
  refine lv_topi (fun y20 ey21 => ?_)
  obtain rfl : y20 = xs (i + 1) := ey21.trans (by rw [nI_clamp (by omega)])
  refine lv_aload_n hx hb nd_L_law_552 rfl (lv_at hl 5 rfl) ?_
  refine lv_iload hx hb nd_L_law_553 (lv_at hl 1 rfl) ?_
  refine lv_iconst (v := 2) hx hb nd_L_law_555 (by decide) ?_
  refine lv_iadd hx hb nd_L_law_556 ?_
  refine lv_topi (fun y22 ey23 => ?_)
  obtain rfl : y22 = nI (i + 2) := ey23.trans (nI_add i 2)
  refine va_sld hx hb hX hbl hnb hS (vp_in_nI (by omega) (by omega)) nd_L_law_557 ?_
  refine lv_topi (fun y24 ey25 => ?_)
  obtain rfl : y24 = xs (i + 2) := ey25.trans (by rw [nI_clamp (by omega)])
  refine lv_aload_n hx hb nd_L_law_558 rfl (lv_at hl 5 rfl) ?_
  refine lv_iload hx hb nd_L_law_559 (lv_at hl 1 rfl) ?_
  refine lv_iconst (v := 3) hx hb nd_L_law_561 (by decide) ?_
  refine lv_iadd hx hb nd_L_law_562 ?_
  refine lv_topi (fun y26 ey27 => ?_)
  obtain rfl : y26 = nI (i + 3) := ey27.trans (nI_add i 3)
  refine va_sld hx hb hX hbl hnb hS (vp_in_nI (by omega) (by omega)) nd_L_law_563 ?_
  refine lv_topi (fun y28 ey29 => ?_)
  obtain rfl : y28 = xs (i + 3) := ey29.trans (by rw [nI_clamp (by omega)])
  refine lv_aload_n hx hb nd_L_law_564 rfl (lv_at hl 5 rfl) ?_
  refine lv_iload hx hb nd_L_law_565 (lv_at hl 1 rfl) ?_
  refine lv_iconst (v := 4) hx hb nd_L_law_567 (by decide) ?_
  refine lv_iadd hx hb nd_L_law_568 ?_
  refine lv_topi (fun y30 ey31 => ?_)
  obtain rfl : y30 = nI (i + 4) := ey31.trans (nI_add i 4)
  refine va_sld hx hb hX hbl hnb hS (vp_in_nI (by omega) (by omega)) nd_L_law_569 ?_
  refine lv_topi (fun y32 ey33 => ?_)
  obtain rfl : y32 = xs (i + 4) := ey33.trans (by rw [nI_clamp (by omega)])
  refine g_calli (va_runV (As := [.int (xs (i + 1)), .int (xs (i + 2)), .int (xs (i + 3)), .int (xs (i + 4))]) (rest := []) ⟨hx, hb, hml, hown, hts⟩ (c_M_cut l G w17 mo ra sa rr S cd hM1 (xs (i + 1)) (xs (i + 2)) (xs (i + 3)) (xs (i + 4))) (cwV (C := nR_M) 4 hts (nw_of (nw_4 nh_ml_L_88 nh_im_M_cut nh_se_M_cut nh_in_M nh_co_M_cut)) rfl rfl rfl (by decide +kernel) ⟨Nat.le_of_ble_eq_true rfl, Nat.le_of_ble_eq_true rfl⟩) (g_preV (ci := 5) (q := (nR_M, nT_M, 4)) hK hw hS rfl hm _) rfl rfl hl.1 rfl (lv_room (Nat.le_of_ble_eq_true rfl)) nd_L_law_570 ⟨by first | (show _ ≤ 601024; omega) | (show _ ≤ 7293034; omega), by first | (show _ ≤ 601024; omega) | (show _ ≤ 7293034; omega)⟩) hS (fun v9 w34 H locs hp2 hw hS => ?_)
  rw [← eR] at hp2
  obtain ⟨hI2, ho2⟩ := la_2 hS1 hM1 ho1 hO1 hne hp2
  obtain ⟨f2, hJ2, -⟩ := id hI2.2.1
  have hm := hJ2.1
  refine lv_istore hx hb nd_L_law_573 hl (by decide) (lv' := [(6, .int v9), (5, .int (nI R.1)), (4, .int (nI i)), (3, .ref out), (2, .ref mo), (1, .ref h), (0, .ref b)]) rfl (fun ls hl => ?_)
  refine lv_aload_n hx hb nd_L_law_575 rfl (lv_at hl 4 rfl) ?_
  refine g_calli (va_runV (As := []) (rest := []) ⟨hx, hb, hml, hown, hts⟩ (c_M_thrown l G w34 mo ra sa (mo_b R.2.2.1) (nI R.1) hm) (cwV (C := nR_M) 0 hts (nw_of (nw_4 nh_ml_L_70 nh_im_M_thrown nh_se_M_thrown nh_in_M nh_co_M_thrown)) rfl rfl rfl (by decide +kernel) ⟨Nat.le_of_ble_eq_true rfl, Nat.le_of_ble_eq_true rfl⟩) (g_preV (ci := 5) (q := (nR_M, nT_M, 4)) hK hw hS rfl hm _) rfl rfl hl.1 rfl (lv_room (Nat.le_of_ble_eq_true rfl)) nd_L_law_576 ⟨by first | (show _ ≤ 601024; omega) | (show _ ≤ 7293034; omega), by first | (show _ ≤ 601024; omega) | (show _ ≤ 7293034; omega)⟩) hS (fun u9 w35 H locs hp3 hw hS => ?_)
  obtain ⟨rfl, hw9⟩ := hp3
  rw [hw9] at hw
  refine lv_iload hx hb nd_L_law_579 (lv_at hl 1 rfl) ?_
  refine lv_icmp_eq (tgt := 586) hx hb nd_L_law_581 (by decide) (fun hc => ?_) (fun hc => absurd rfl hc)
  refine lv_iload hx hb nd_L_law_586 (lv_at hl 1 rfl) ?_
  refine lv_if_ne (tgt := 603) hx hb nd_L_law_588 (by decide) (fun hc => ?_) (fun hc => ?_)
  · refine lv_goto (tgt := 1079) hx hb nd_L_law_603 (by decide) ?_
    exact W.widen (k := cells + 400) (n := slots + 6500) (by omega) (by omega) (kk R.2.2 (nI R.1) _ H locs ls hI2 (lv_sub hl [2, 3, 4, 5, 6] rfl) hw hS)
  · have h0 : R.1 = 0 := (nI_eq (b := 0) (by omega) (by omega)).mp (hc.trans nI_0.symm)
    refine lv_aload_n hx hb nd_L_law_591 rfl (lv_at hl 3 rfl) ?_
    refine lv_iconst (v := 0) hx hb nd_L_law_592 (by decide) ?_
    refine xw_lald hx hb hK.1 hw 0 ho2 rfl (by unfold vp_in; decide) nd_L_law_593 ?_
    refine lv_topl (fun y36 ey37 => ?_)
    obtain rfl : y36 = R.2.1 := ey37.trans (hv1 h0)
    refine lv_iload hx hb nd_L_law_594 (lv_at hl 0 rfl) ?_
    refine lv_i2l hx hb nd_L_law_596 rfl ?_
    refine lv_topl (fun y38 ey39 => ?_)
    obtain rfl : y38 = R.2.1 := ey39.trans (hp2.2.1)
    refine W.lcmp hx hb nd_L_law_597 ?_
    refine lv_topi (fun y40 ey41 => ?_)
    obtain rfl : y40 = 0 := ey41.trans (lg_cmp_rf _)
    refine lv_if_eq (tgt := 603) hx hb nd_L_law_598 (by decide) (fun hc => ?_) (fun hc => absurd rfl hc)
    refine lv_goto (tgt := 1079) hx hb nd_L_law_603 (by decide) ?_
    exact W.widen (k := cells + 400) (n := slots + 6500) (by omega) (by omega) (kk R.2.2 (nI R.1) _ H locs ls hI2 (lv_sub hl [2, 3, 4, 5, 6] rfl) hw hS)

set_option maxHeartbeats 4000000 in
set_option maxRecDepth 100000 in
theorem k_fill {p : Program} {l : Launch} {e : Env} {s : State} {m : MethodId} {below : List Frame} {meth : Method} {c : Code} {H : Heap} {locs : List Loc} {cells slots : Nat} {Q : State → Prop} {ls : Array Slot} {b Ln : Nat} {xs : Nat → Int32} {G : g_G} {w : xw_W} {h e0 sl mo ra sa : Nat} {rr : Nat → Nat} {out : Nat} {S : sp_S} {K : Nat} {cd : Int32} {i : Nat}
    (hl9 : l.stackTraces = false) (hx : p.tables.exec = Jvm.exec) (hb : c.code = nb_L_law) (hml : c.maxLocals = 8) (hown : s.vm.findClass "RadixShelfLaw" = some m.cls) (hts : ∀ w ∈ Cond.initialized "RadixShelf" :: nw_T, w.before #[Value.ref b] s = true) (hX : va_X b Ln xs s s.heap) (hbl : b < s.heap.size) (hG : g_b G = s.heap.size) (hK : g_K G s) (hLn : Ln ≤ 3584) (hi : i + 7 ≤ Ln) (hK9 : K + 1 < 2 ^ 31) (hI : la_I G w h e0 sl mo ra sa rr out S K cd) (hl : lv_has ls 8 [(4, .int (nI i)), (3, .ref out), (2, .ref mo), (1, .ref h), (0, .ref b)]) (hw : g_P G w H) (hS : g_S G s.heap H locs) (hcl : cells + 400 ≤ 601024) (hsl9 : slots + 6500 ≤ 7293034)
    (kk : ∀ (S' : sp_S) (cd' : Int32) (w' : xw_W) (H' : Heap) (locs' : List Loc) (ls' : Array Slot), la_I G w' h e0 sl mo ra sa rr out S' (K + 1) cd' → lv_has ls' 8 [(4, .int (nI i)), (3, .ref out), (2, .ref mo), (1, .ref h), (0, .ref b)] → g_P G w' H' → g_S G s.heap H' locs' → W p l e room_1 s m #[Value.ref b] below meth c H' locs' (cells + 400) (slots + 6500) Q (F0 m 1079 ls' [])) : W p l e room_1 s m #[Value.ref b] below meth c H locs cells slots Q (F0 m 606 ls []) := by
  have hT : ∀ w ∈ nw_T, w.before _ s = true := fun w h => hts w (List.mem_cons_of_mem _ h)
  have hB : g_b G ≤ s.heap.size := Nat.le_of_eq hG
  have hnb : ¬ xw_A (g_b G) b := fun z => absurd (show g_b G ≤ b from z) (by omega)
  obtain ⟨hSt, hM, ⟨fo0, ho0⟩, ⟨hOo, -⟩, hne⟩ := id hI
  refine lv_aload_n hx hb nd_L_law_606 rfl (lv_at hl 3 rfl) ?_
  refine lv_aload_n hx hb nd_L_law_607 rfl (lv_at hl 4 rfl) ?_
  refine lv_iload hx hb nd_L_law_608 (lv_at hl 0 rfl) ?_
  refine lv_iconst (v := 1) hx hb nd_L_law_610 (by decide) ?_
  refine lv_iadd hx hb nd_L_law_611 ?_
  refine lv_topi (fun y1 ey2 => ?_)
  obtain rfl : y1 = nI (i + 1) := ey2.trans (nI_add i 1)
  refine va_sld hx hb hX hbl hnb hS (vp_in_nI (by omega) (by omega)) nd_L_law_612 ?_
  refine lv_topi (fun y3 ey4 => ?_)
  obtain rfl : y3 = xs (i + 1) := ey4.trans (by rw [nI_clamp (by omega)])
  refine lv_aload_n hx hb nd_L_law_613 rfl (lv_at hl 4 rfl) ?_
  refine lv_iload hx hb nd_L_law_614 (lv_at hl 0 rfl) ?_
  refine lv_iconst (v := 2) hx hb nd_L_law_616 (by decide) ?_
  refine lv_iadd hx hb nd_L_law_617 ?_
  refine lv_topi (fun y5 ey6 => ?_)
  obtain rfl : y5 = nI (i + 2) := ey6.trans (nI_add i 2)
  refine va_sld hx hb hX hbl hnb hS (vp_in_nI (by omega) (by omega)) nd_L_law_618 ?_
  refine lv_topi (fun y7 ey8 => ?_)
  obtain rfl : y7 = xs (i + 2) := ey8.trans (by rw [nI_clamp (by omega)])
  refine lv_i2l hx hb nd_L_law_619 rfl ?_
  refine lv_bipush (v := 32) hx hb nd_L_law_620 (by decide) ?_
  refine lv_lshl hx hb nd_L_law_622 rfl ?_
  refine lv_aload_n hx hb nd_L_law_623 rfl (lv_at hl 4 rfl) ?_
  refine lv_iload hx hb nd_L_law_624 (lv_at hl 0 rfl) ?_
  refine lv_iconst (v := 3) hx hb nd_L_law_626 (by decide) ?_
  refine lv_iadd hx hb nd_L_law_627 ?_
  refine lv_topi (fun y9 ey10 => ?_)
  obtain rfl : y9 = nI (i + 3) := ey10.trans (nI_add i 3)
  refine va_sld hx hb hX hbl hnb hS (vp_in_nI (by omega) (by omega)) nd_L_law_628 ?_
  refine lv_topi (fun y11 ey12 => ?_)
  obtain rfl : y11 = xs (i + 3) := ey12.trans (by rw [nI_clamp (by omega)])
  refine lv_i2l hx hb nd_L_law_629 rfl ?_
  refine lv_ldc2 hx hb hown (hT _ nh_kl_L_62) nd_L_law_630 ?_
  refine lv_land hx hb nd_L_law_633 ?_
  refine lv_lor hx hb nd_L_law_634 ?_
  refine lv_topl (fun y0 ey0 => ?_)
  refine lv_aload_n hx hb nd_L_law_635 rfl (lv_at hl 4 rfl) ?_
  refine lv_iload hx hb nd_L_law_636 (lv_at hl 0 rfl) ?_
  refine lv_iconst (v := 4) hx hb nd_L_law_638 (by decide) ?_
  refine lv_iadd hx hb nd_L_law_639 ?_
  refine lv_topi (fun y13 ey14 => ?_)
  obtain rfl : y13 = nI (i + 4) := ey14.trans (nI_add i 4)
  refine va_sld hx hb hX hbl hnb hS (vp_in_nI (by omega) (by omega)) nd_L_law_640 ?_
  refine lv_topi (fun y15 ey16 => ?_)
  obtain rfl : y15 = xs (i + 4) := ey16.trans (by rw [nI_clamp (by omega)])
  refine lv_i2l hx hb nd_L_law_641 rfl ?_
  refine lv_bipush (v := 32) hx hb nd_L_law_642 (by decide) ?_
  refine lv_lshl hx hb nd_L_law_644 rfl ?_
  refine lv_aload_n hx hb nd_L_law_645 rfl (lv_at hl 4 rfl) ?_
  refine lv_iload hx hb nd_L_law_646 (lv_at hl 0 rfl) ?_
  refine lv_iconst (v := 5) hx hb nd_L_law_648 (by decide) ?_
  refine lv_iadd hx hb nd_L_law_649 ?_
  refine lv_topi (fun y17 ey18 => ?_)
  obtain rfl : y17 = nI (i + 5) := ey18.trans (nI_add i 5)
  refine va_sld hx hb hX hbl hnb hS (vp_in_nI (by omega) (by omega)) nd_L_law_650 ?_
  refine lv_topi (fun y19 ey20 => ?_)
  obtain rfl : y19 = xs (i + 5) := ey20.trans (by rw [nI_clamp (by omega)])
  refine lv_i2l hx hb nd_L_law_651 rfl ?_
  refine lv_ldc2 hx hb hown (hT _ nh_kl_L_62) nd_L_law_652 ?_
  refine lv_land hx hb nd_L_law_655 ?_
  refine lv_lor hx hb nd_L_law_656 ?_
  refine lv_topl (fun y1 ey1 => ?_)
  refine lv_aload_n hx hb nd_L_law_657 rfl (lv_at hl 4 rfl) ?_
  refine lv_iload hx hb nd_L_law_658 (lv_at hl 0 rfl) ?_
  refine lv_bipush (v := 6) hx hb nd_L_law_660 (by decide) ?_
  refine lv_iadd hx hb nd_L_law_662 ?_
  refine lv_topi (fun y21 ey22 => ?_)
  obtain rfl : y21 = nI (i + 6) := ey22.trans (nI_add i 6)
  refine va_sld hx hb hX hbl hnb hS (vp_in_nI (by omega) (by omega)) nd_L_law_663 ?_
  refine lv_topi (fun y23 ey24 => ?_)
  obtain rfl : y23 = xs (i + 6) := ey24.trans (by rw [nI_clamp (by omega)])
  refine lv_aload_n hx hb nd_L_law_664 rfl (lv_at hl 1 rfl) ?_
  obtain ⟨R, eR⟩ : ∃ z, z = sp_fill S (xs (i + 1)) y0 y1 (xs (i + 6)) := ⟨_, rfl⟩
  refine g_calli (vx_runSW (As := [.ref h, .int (xs (i + 1)), .long y0, .long y1, .int (xs (i + 6)), .ref out]) (rest := []) ⟨hx, hb, hml, hown, hts⟩ (c_L_fill l hl9 G w h e0 sl K S hSt hK9 out fo0 hOo ho0 (xs (i + 1)) y0 y1 (xs (i + 6))) (vx_cwSW 6 hts (nw_of (nw_3 nh_ml_L_89 nh_st_L_fill nh_in_L nh_co_L_fill)) rfl rfl rfl (by decide +kernel) ⟨Nat.le_of_ble_eq_true rfl, Nat.le_of_ble_eq_true rfl⟩) (g_preS hK hw hS _) rfl rfl hl.1 rfl (lv_room (Nat.le_of_ble_eq_true rfl)) nd_L_law_665 ⟨by first | (show _ ≤ 601024; omega) | (show _ ≤ 7293034; omega), by first | (show _ ≤ 601024; omega) | (show _ ≤ 7293034; omega)⟩) hS (fun k9 w25 H locs hp hw hS => ?_)
  rw [← eR] at hp
  have hR4 : R.1 ≤ 4 := by rw [eR]; exact sp_fill_b
  obtain rfl := hp.1
  obtain ⟨hS1, hM1, ⟨fo, ho1, hv1⟩, hO1⟩ := la_1 hI hp
  obtain ⟨f1, hJ1, -⟩ := id hM1
  have hm := hJ1.1
  refine lv_istore hx hb nd_L_law_668 hl (by decide) (lv' := [(5, .int (nI R.1)), (4, .int (nI i)), (3, .ref out), (2, .ref mo), (1, .ref h), (0, .ref b)]) rfl (fun ls hl => ?_)
  refine lv_aload_n hx hb nd_L_law_670 rfl (lv_at hl 3 rfl) ?_
  refine lv_aload_n hx hb nd_L_law_671 rfl (lv_at hl 5 rfl) ?_
  refine lv_iload hx hb nd_L_law_672 (lv_at hl 1 rfl) ?_
  refine lv_iconst (v := 1) hx hb nd_L_law_674 (by decide) ?_
  refine lv_iadd hx hb nd_L_law_675 ?_
  refine lv_topi (fun y26 ey27 => ?_)
  obtain rfl : y26 = nI (i + 1) := ey27.trans (nI_add i 1)
  refine va_sld hx hb hX hbl hnb hS (vp_in_nI (by omega) (by omega)) nd_L_law_676 ?_
  refine lv_topi (fun y28 ey29 => ?_)
  obtain rfl : y28 = xs (i + 1) := ey29.trans (by rw [nI_clamp (by omega)])
  refine lv_aload_n hx hb nd_L_law_677 rfl (lv_at hl 5 rfl) ?_
  refine lv_iload hx hb nd_L_law_678 (lv_at hl 1 rfl) ?_
  refine lv_iconst (v := 2) hx hb nd_L_law_680 (by decide) ?_
  refine lv_iadd hx hb nd_L_law_681 ?_
  refine lv_topi (fun y30 ey31 => ?_)
  obtain rfl : y30 = nI (i + 2) := ey31.trans (nI_add i 2)
  refine va_sld hx hb hX hbl hnb hS (vp_in_nI (by omega) (by omega)) nd_L_law_682 ?_
  refine lv_topi (fun y32 ey33 => ?_)
  obtain rfl : y32 = xs (i + 2) := ey33.trans (by rw [nI_clamp (by omega)])
  refine lv_i2l hx hb nd_L_law_683 rfl ?_
  refine lv_bipush (v := 32) hx hb nd_L_law_684 (by decide) ?_
  refine lv_lshl hx hb nd_L_law_686 rfl ?_
  refine lv_aload_n hx hb nd_L_law_687 rfl (lv_at hl 5 rfl) ?_
  refine lv_iload hx hb nd_L_law_688 (lv_at hl 1 rfl) ?_
  refine lv_iconst (v := 3) hx hb nd_L_law_690 (by decide) ?_
  refine lv_iadd hx hb nd_L_law_691 ?_
  refine lv_topi (fun y34 ey35 => ?_)
  obtain rfl : y34 = nI (i + 3) := ey35.trans (nI_add i 3)
  refine va_sld hx hb hX hbl hnb hS (vp_in_nI (by omega) (by omega)) nd_L_law_692 ?_
  refine lv_topi (fun y36 ey37 => ?_)
  obtain rfl : y36 = xs (i + 3) := ey37.trans (by rw [nI_clamp (by omega)])
  refine lv_i2l hx hb nd_L_law_693 rfl ?_
  refine lv_ldc2 hx hb hown (hT _ nh_kl_L_62) nd_L_law_694 ?_
  refine lv_land hx hb nd_L_law_697 ?_
  refine lv_lor hx hb nd_L_law_698 ?_
  refine lv_topl (fun z0 ez0 => ?_)
  refine lv_aload_n hx hb nd_L_law_699 rfl (lv_at hl 5 rfl) ?_
  refine lv_iload hx hb nd_L_law_700 (lv_at hl 1 rfl) ?_
  refine lv_iconst (v := 4) hx hb nd_L_law_702 (by decide) ?_
  refine lv_iadd hx hb nd_L_law_703 ?_
  refine lv_topi (fun y38 ey39 => ?_)
  obtain rfl : y38 = nI (i + 4) := ey39.trans (nI_add i 4)
  refine va_sld hx hb hX hbl hnb hS (vp_in_nI (by omega) (by omega)) nd_L_law_704 ?_
  refine lv_topi (fun y40 ey41 => ?_)
  obtain rfl : y40 = xs (i + 4) := ey41.trans (by rw [nI_clamp (by omega)])
  refine lv_i2l hx hb nd_L_law_705 rfl ?_
  refine lv_bipush (v := 32) hx hb nd_L_law_706 (by decide) ?_
  refine lv_lshl hx hb nd_L_law_708 rfl ?_
  refine lv_aload_n hx hb nd_L_law_709 rfl (lv_at hl 5 rfl) ?_
  refine lv_iload hx hb nd_L_law_710 (lv_at hl 1 rfl) ?_
  refine lv_iconst (v := 5) hx hb nd_L_law_712 (by decide) ?_
  refine lv_iadd hx hb nd_L_law_713 ?_
  refine lv_topi (fun y42 ey43 => ?_)
  obtain rfl : y42 = nI (i + 5) := ey43.trans (nI_add i 5)
  refine va_sld hx hb hX hbl hnb hS (vp_in_nI (by omega) (by omega)) nd_L_law_714 ?_
  refine lv_topi (fun y44 ey45 => ?_)
  obtain rfl : y44 = xs (i + 5) := ey45.trans (by rw [nI_clamp (by omega)])
  refine lv_i2l hx hb nd_L_law_715 rfl ?_
  refine lv_ldc2 hx hb hown (hT _ nh_kl_L_62) nd_L_law_716 ?_
  refine lv_land hx hb nd_L_law_719 ?_
  refine lv_lor hx hb nd_L_law_720 ?_
  refine lv_topl (fun z1 ez1 => ?_)
  refine lv_aload_n hx hb nd_L_law_721 rfl (lv_at hl 5 rfl) ?_
  refine lv_iload hx hb nd_L_law_722 (lv_at hl 1 rfl) ?_
  refine lv_bipush (v := 6) hx hb nd_L_law_724 (by decide) ?_
  refine lv_iadd hx hb nd_L_law_726 ?_
  refine lv_topi (fun y46 ey47 => ?_)
  obtain rfl : y46 = nI (i + 6) := ey47.trans (nI_add i 6)
  refine va_sld hx hb hX hbl hnb hS (vp_in_nI (by omega) (by omega)) nd_L_law_727 ?_
  refine lv_topi (fun y48 ey49 => ?_)
  obtain rfl : y48 = xs (i + 6) := ey49.trans (by rw [nI_clamp (by omega)])
  obtain rfl : y0 = z0 := ey0.trans ez0.symm
  obtain rfl : y1 = z1 := ey1.trans ez1.symm
  refine g_calli (va_runV (As := [.int (xs (i + 1)), .long y0, .long y1, .int (xs (i + 6))]) (rest := []) ⟨hx, hb, hml, hown, hts⟩ (c_M_fill l G w25 mo ra sa rr S cd hM1 (xs (i + 1)) y0 y1 (xs (i + 6))) (cwV (C := nR_M) 4 hts (nw_of (nw_4 nh_ml_L_92 nh_im_M_fill nh_se_M_fill nh_in_M nh_co_M_fill)) rfl rfl rfl (by decide +kernel) ⟨Nat.le_of_ble_eq_true rfl, Nat.le_of_ble_eq_true rfl⟩) (g_preV (ci := 5) (q := (nR_M, nT_M, 4)) hK hw hS rfl hm _) rfl rfl hl.1 rfl (lv_room (Nat.le_of_ble_eq_true rfl)) nd_L_law_728 ⟨by first | (show _ ≤ 601024; omega) | (show _ ≤ 7293034; omega), by first | (show _ ≤ 601024; omega) | (show _ ≤ 7293034; omega)⟩) hS (fun v9 w50 H locs hp2 hw hS => ?_)
  rw [← eR] at hp2
  obtain ⟨hI2, ho2⟩ := la_2 hS1 hM1 ho1 hO1 hne hp2
  obtain ⟨f2, hJ2, -⟩ := id hI2.2.1
  have hm := hJ2.1
  refine lv_istore hx hb nd_L_law_731 hl (by decide) (lv' := [(6, .int v9), (5, .int (nI R.1)), (4, .int (nI i)), (3, .ref out), (2, .ref mo), (1, .ref h), (0, .ref b)]) rfl (fun ls hl => ?_)
  refine lv_aload_n hx hb nd_L_law_733 rfl (lv_at hl 4 rfl) ?_
  refine g_calli (va_runV (As := []) (rest := []) ⟨hx, hb, hml, hown, hts⟩ (c_M_thrown l G w50 mo ra sa (mo_b R.2.2.1) (nI R.1) hm) (cwV (C := nR_M) 0 hts (nw_of (nw_4 nh_ml_L_70 nh_im_M_thrown nh_se_M_thrown nh_in_M nh_co_M_thrown)) rfl rfl rfl (by decide +kernel) ⟨Nat.le_of_ble_eq_true rfl, Nat.le_of_ble_eq_true rfl⟩) (g_preV (ci := 5) (q := (nR_M, nT_M, 4)) hK hw hS rfl hm _) rfl rfl hl.1 rfl (lv_room (Nat.le_of_ble_eq_true rfl)) nd_L_law_734 ⟨by first | (show _ ≤ 601024; omega) | (show _ ≤ 7293034; omega), by first | (show _ ≤ 601024; omega) | (show _ ≤ 7293034; omega)⟩) hS (fun u9 w51 H locs hp3 hw hS => ?_)
  obtain ⟨rfl, hw9⟩ := hp3
  rw [hw9] at hw
  refine lv_iload hx hb nd_L_law_737 (lv_at hl 1 rfl) ?_
  refine lv_icmp_eq (tgt := 744) hx hb nd_L_law_739 (by decide) (fun hc => ?_) (fun hc => absurd rfl hc)
  refine lv_iload hx hb nd_L_law_744 (lv_at hl 1 rfl) ?_
  refine lv_if_ne (tgt := 761) hx hb nd_L_law_746 (by decide) (fun hc => ?_) (fun hc => ?_)
  · refine lv_goto (tgt := 1079) hx hb nd_L_law_761 (by decide) ?_
    exact W.widen (k := cells + 400) (n := slots + 6500) (by omega) (by omega) (kk R.2.2 (nI R.1) _ H locs ls hI2 (lv_sub hl [2, 3, 4, 5, 6] rfl) hw hS)
  · have h0 : R.1 = 0 := (nI_eq (b := 0) (by omega) (by omega)).mp (hc.trans nI_0.symm)
    refine lv_aload_n hx hb nd_L_law_749 rfl (lv_at hl 3 rfl) ?_
    refine lv_iconst (v := 0) hx hb nd_L_law_750 (by decide) ?_
    refine xw_lald hx hb hK.1 hw 0 ho2 rfl (by unfold vp_in; decide) nd_L_law_751 ?_
    refine lv_topl (fun y52 ey53 => ?_)
    obtain rfl : y52 = R.2.1 := ey53.trans (hv1 h0)
    refine lv_iload hx hb nd_L_law_752 (lv_at hl 0 rfl) ?_
    refine lv_i2l hx hb nd_L_law_754 rfl ?_
    refine lv_topl (fun y54 ey55 => ?_)
    obtain rfl : y54 = R.2.1 := ey55.trans (hp2.2.1)
    refine W.lcmp hx hb nd_L_law_755 ?_
    refine lv_topi (fun y56 ey57 => ?_)
    obtain rfl : y56 = 0 := ey57.trans (lg_cmp_rf _)
    refine lv_if_eq (tgt := 761) hx hb nd_L_law_756 (by decide) (fun hc => ?_) (fun hc => absurd rfl hc)
    refine lv_goto (tgt := 1079) hx hb nd_L_law_761 (by decide) ?_
    exact W.widen (k := cells + 400) (n := slots + 6500) (by omega) (by omega) (kk R.2.2 (nI R.1) _ H locs ls hI2 (lv_sub hl [2, 3, 4, 5, 6] rfl) hw hS)

set_option maxHeartbeats 4000000 in
set_option maxRecDepth 100000 in
theorem k_size {p : Program} {l : Launch} {e : Env} {s : State} {m : MethodId} {below : List Frame} {meth : Method} {c : Code} {H : Heap} {locs : List Loc} {cells slots : Nat} {Q : State → Prop} {ls : Array Slot} {b Ln : Nat} {xs : Nat → Int32} {G : g_G} {w : xw_W} {h e0 sl mo ra sa : Nat} {rr : Nat → Nat} {out : Nat} {S : sp_S} {K : Nat} {cd : Int32} {i : Nat}
    (hl9 : l.stackTraces = false) (hx : p.tables.exec = Jvm.exec) (hb : c.code = nb_L_law) (hml : c.maxLocals = 8) (hown : s.vm.findClass "RadixShelfLaw" = some m.cls) (hts : ∀ w ∈ Cond.initialized "RadixShelf" :: nw_T, w.before #[Value.ref b] s = true) (hX : va_X b Ln xs s s.heap) (hbl : b < s.heap.size) (hG : g_b G = s.heap.size) (hK : g_K G s) (hLn : Ln ≤ 3584) (hi : i + 7 ≤ Ln) (hK9 : K + 1 < 2 ^ 31) (hI : la_I G w h e0 sl mo ra sa rr out S K cd) (hl : lv_has ls 8 [(4, .int (nI i)), (3, .ref out), (2, .ref mo), (1, .ref h), (0, .ref b)]) (hw : g_P G w H) (hS : g_S G s.heap H locs) (hcl : cells + 400 ≤ 601024) (hsl9 : slots + 6500 ≤ 7293034)
    (kk : ∀ (S' : sp_S) (cd' : Int32) (w' : xw_W) (H' : Heap) (locs' : List Loc) (ls' : Array Slot), la_I G w' h e0 sl mo ra sa rr out S' (K + 1) cd' → lv_has ls' 8 [(4, .int (nI i)), (3, .ref out), (2, .ref mo), (1, .ref h), (0, .ref b)] → g_P G w' H' → g_S G s.heap H' locs' → W p l e room_1 s m #[Value.ref b] below meth c H' locs' (cells + 400) (slots + 6500) Q (F0 m 1079 ls' [])) : W p l e room_1 s m #[Value.ref b] below meth c H locs cells slots Q (F0 m 764 ls []) := by
  have hT : ∀ w ∈ nw_T, w.before _ s = true := fun w h => hts w (List.mem_cons_of_mem _ h)
  have hB : g_b G ≤ s.heap.size := Nat.le_of_eq hG
  have hnb : ¬ xw_A (g_b G) b := fun z => absurd (show g_b G ≤ b from z) (by omega)
  obtain ⟨hSt, hM, ⟨fo0, ho0⟩, ⟨hOo, -⟩, hne⟩ := id hI
  refine lv_aload_n hx hb nd_L_law_764 rfl (lv_at hl 3 rfl) ?_
  refine lv_aload_n hx hb nd_L_law_765 rfl (lv_at hl 4 rfl) ?_
  refine lv_iload hx hb nd_L_law_766 (lv_at hl 0 rfl) ?_
  refine lv_iconst (v := 1) hx hb nd_L_law_768 (by decide) ?_
  refine lv_iadd hx hb nd_L_law_769 ?_
  refine lv_topi (fun y1 ey2 => ?_)
  obtain rfl : y1 = nI (i + 1) := ey2.trans (nI_add i 1)
  refine va_sld hx hb hX hbl hnb hS (vp_in_nI (by omega) (by omega)) nd_L_law_770 ?_
  refine lv_topi (fun y3 ey4 => ?_)
  obtain rfl : y3 = xs (i + 1) := ey4.trans (by rw [nI_clamp (by omega)])
  refine lv_aload_n hx hb nd_L_law_771 rfl (lv_at hl 1 rfl) ?_
  obtain ⟨R, eR⟩ : ∃ z, z = sp_size S (xs (i + 1)) := ⟨_, rfl⟩
  refine g_calli (vx_runSW (As := [.ref h, .int (xs (i + 1)), .ref out]) (rest := []) ⟨hx, hb, hml, hown, hts⟩ (c_L_size l hl9 G w h e0 sl K S hSt hK9 out fo0 hOo ho0 (xs (i + 1))) (vx_cwSW 3 hts (nw_of (nw_3 nh_ml_L_93 nh_st_L_size nh_in_L nh_co_L_size)) rfl rfl rfl (by decide +kernel) ⟨Nat.le_of_ble_eq_true rfl, Nat.le_of_ble_eq_true rfl⟩) (g_preS hK hw hS _) rfl rfl hl.1 rfl (lv_room (Nat.le_of_ble_eq_true rfl)) nd_L_law_772 ⟨by first | (show _ ≤ 601024; omega) | (show _ ≤ 7293034; omega), by first | (show _ ≤ 601024; omega) | (show _ ≤ 7293034; omega)⟩) hS (fun k9 w5 H locs hp hw hS => ?_)
  rw [← eR] at hp
  have hR4 : R.1 ≤ 4 := by rw [eR]; exact sp_size_b
  obtain rfl := hp.1
  obtain ⟨hS1, hM1, ⟨fo, ho1, hv1⟩, hO1⟩ := la_1 hI hp
  obtain ⟨f1, hJ1, -⟩ := id hM1
  have hm := hJ1.1
  refine lv_istore hx hb nd_L_law_775 hl (by decide) (lv' := [(5, .int (nI R.1)), (4, .int (nI i)), (3, .ref out), (2, .ref mo), (1, .ref h), (0, .ref b)]) rfl (fun ls hl => ?_)
  refine lv_aload_n hx hb nd_L_law_777 rfl (lv_at hl 3 rfl) ?_
  refine lv_aload_n hx hb nd_L_law_778 rfl (lv_at hl 5 rfl) ?_
  refine lv_iload hx hb nd_L_law_779 (lv_at hl 1 rfl) ?_
  refine lv_iconst (v := 1) hx hb nd_L_law_781 (by decide) ?_
  refine lv_iadd hx hb nd_L_law_782 ?_
  refine lv_topi (fun y6 ey7 => ?_)
  obtain rfl : y6 = nI (i + 1) := ey7.trans (nI_add i 1)
  refine va_sld hx hb hX hbl hnb hS (vp_in_nI (by omega) (by omega)) nd_L_law_783 ?_
  refine lv_topi (fun y8 ey9 => ?_)
  obtain rfl : y8 = xs (i + 1) := ey9.trans (by rw [nI_clamp (by omega)])
  refine g_calli (va_runV (As := [.int (xs (i + 1))]) (rest := []) ⟨hx, hb, hml, hown, hts⟩ (c_M_size l G w5 mo ra sa rr S cd hM1 (xs (i + 1))) (cwV (C := nR_M) 1 hts (nw_of (nw_4 nh_ml_L_96 nh_im_M_size nh_se_M_size nh_in_M nh_co_M_size)) rfl rfl rfl (by decide +kernel) ⟨Nat.le_of_ble_eq_true rfl, Nat.le_of_ble_eq_true rfl⟩) (g_preV (ci := 5) (q := (nR_M, nT_M, 4)) hK hw hS rfl hm _) rfl rfl hl.1 rfl (lv_room (Nat.le_of_ble_eq_true rfl)) nd_L_law_784 ⟨by first | (show _ ≤ 601024; omega) | (show _ ≤ 7293034; omega), by first | (show _ ≤ 601024; omega) | (show _ ≤ 7293034; omega)⟩) hS (fun v9 w10 H locs hp2 hw hS => ?_)
  rw [← eR] at hp2
  obtain ⟨hI2, ho2⟩ := la_2 hS1 hM1 ho1 hO1 hne hp2
  obtain ⟨f2, hJ2, -⟩ := id hI2.2.1
  have hm := hJ2.1
  refine lv_istore hx hb nd_L_law_787 hl (by decide) (lv' := [(6, .int v9), (5, .int (nI R.1)), (4, .int (nI i)), (3, .ref out), (2, .ref mo), (1, .ref h), (0, .ref b)]) rfl (fun ls hl => ?_)
  refine lv_aload_n hx hb nd_L_law_789 rfl (lv_at hl 4 rfl) ?_
  refine g_calli (va_runV (As := []) (rest := []) ⟨hx, hb, hml, hown, hts⟩ (c_M_thrown l G w10 mo ra sa (mo_b R.2.2.1) (nI R.1) hm) (cwV (C := nR_M) 0 hts (nw_of (nw_4 nh_ml_L_70 nh_im_M_thrown nh_se_M_thrown nh_in_M nh_co_M_thrown)) rfl rfl rfl (by decide +kernel) ⟨Nat.le_of_ble_eq_true rfl, Nat.le_of_ble_eq_true rfl⟩) (g_preV (ci := 5) (q := (nR_M, nT_M, 4)) hK hw hS rfl hm _) rfl rfl hl.1 rfl (lv_room (Nat.le_of_ble_eq_true rfl)) nd_L_law_790 ⟨by first | (show _ ≤ 601024; omega) | (show _ ≤ 7293034; omega), by first | (show _ ≤ 601024; omega) | (show _ ≤ 7293034; omega)⟩) hS (fun u9 w11 H locs hp3 hw hS => ?_)
  obtain ⟨rfl, hw9⟩ := hp3
  rw [hw9] at hw
  refine lv_iload hx hb nd_L_law_793 (lv_at hl 1 rfl) ?_
  refine lv_icmp_eq (tgt := 800) hx hb nd_L_law_795 (by decide) (fun hc => ?_) (fun hc => absurd rfl hc)
  refine lv_iload hx hb nd_L_law_800 (lv_at hl 1 rfl) ?_
  refine lv_if_ne (tgt := 817) hx hb nd_L_law_802 (by decide) (fun hc => ?_) (fun hc => ?_)
  · refine lv_goto (tgt := 1079) hx hb nd_L_law_817 (by decide) ?_
    exact W.widen (k := cells + 400) (n := slots + 6500) (by omega) (by omega) (kk R.2.2 (nI R.1) _ H locs ls hI2 (lv_sub hl [2, 3, 4, 5, 6] rfl) hw hS)
  · have h0 : R.1 = 0 := (nI_eq (b := 0) (by omega) (by omega)).mp (hc.trans nI_0.symm)
    refine lv_aload_n hx hb nd_L_law_805 rfl (lv_at hl 3 rfl) ?_
    refine lv_iconst (v := 0) hx hb nd_L_law_806 (by decide) ?_
    refine xw_lald hx hb hK.1 hw 0 ho2 rfl (by unfold vp_in; decide) nd_L_law_807 ?_
    refine lv_topl (fun y12 ey13 => ?_)
    obtain rfl : y12 = R.2.1 := ey13.trans (hv1 h0)
    refine lv_iload hx hb nd_L_law_808 (lv_at hl 0 rfl) ?_
    refine lv_i2l hx hb nd_L_law_810 rfl ?_
    refine lv_topl (fun y14 ey15 => ?_)
    obtain rfl : y14 = R.2.1 := ey15.trans (hp2.2.1)
    refine W.lcmp hx hb nd_L_law_811 ?_
    refine lv_topi (fun y16 ey17 => ?_)
    obtain rfl : y16 = 0 := ey17.trans (lg_cmp_rf _)
    refine lv_if_eq (tgt := 817) hx hb nd_L_law_812 (by decide) (fun hc => ?_) (fun hc => absurd rfl hc)
    refine lv_goto (tgt := 1079) hx hb nd_L_law_817 (by decide) ?_
    exact W.widen (k := cells + 400) (n := slots + 6500) (by omega) (by omega) (kk R.2.2 (nI R.1) _ H locs ls hI2 (lv_sub hl [2, 3, 4, 5, 6] rfl) hw hS)

set_option maxHeartbeats 4000000 in
set_option maxRecDepth 100000 in
theorem k_hash {p : Program} {l : Launch} {e : Env} {s : State} {m : MethodId} {below : List Frame} {meth : Method} {c : Code} {H : Heap} {locs : List Loc} {cells slots : Nat} {Q : State → Prop} {ls : Array Slot} {b Ln : Nat} {xs : Nat → Int32} {G : g_G} {w : xw_W} {h e0 sl mo ra sa : Nat} {rr : Nat → Nat} {out : Nat} {S : sp_S} {K : Nat} {cd : Int32} {i : Nat}
    (hl9 : l.stackTraces = false) (hx : p.tables.exec = Jvm.exec) (hb : c.code = nb_L_law) (hml : c.maxLocals = 8) (hown : s.vm.findClass "RadixShelfLaw" = some m.cls) (hts : ∀ w ∈ Cond.initialized "RadixShelf" :: nw_T, w.before #[Value.ref b] s = true) (hX : va_X b Ln xs s s.heap) (hbl : b < s.heap.size) (hG : g_b G = s.heap.size) (hK : g_K G s) (hLn : Ln ≤ 3584) (hi : i + 7 ≤ Ln) (hK9 : K + 1 < 2 ^ 31) (hI : la_I G w h e0 sl mo ra sa rr out S K cd) (hl : lv_has ls 8 [(4, .int (nI i)), (3, .ref out), (2, .ref mo), (1, .ref h), (0, .ref b)]) (hw : g_P G w H) (hS : g_S G s.heap H locs) (hcl : cells + 400 ≤ 601024) (hsl9 : slots + 6500 ≤ 7293034)
    (kk : ∀ (S' : sp_S) (cd' : Int32) (w' : xw_W) (H' : Heap) (locs' : List Loc) (ls' : Array Slot), la_I G w' h e0 sl mo ra sa rr out S' (K + 1) cd' → lv_has ls' 8 [(4, .int (nI i)), (3, .ref out), (2, .ref mo), (1, .ref h), (0, .ref b)] → g_P G w' H' → g_S G s.heap H' locs' → W p l e room_1 s m #[Value.ref b] below meth c H' locs' (cells + 400) (slots + 6500) Q (F0 m 1079 ls' [])) : W p l e room_1 s m #[Value.ref b] below meth c H locs cells slots Q (F0 m 820 ls []) := by
  have hT : ∀ w ∈ nw_T, w.before _ s = true := fun w h => hts w (List.mem_cons_of_mem _ h)
  have hB : g_b G ≤ s.heap.size := Nat.le_of_eq hG
  have hnb : ¬ xw_A (g_b G) b := fun z => absurd (show g_b G ≤ b from z) (by omega)
  obtain ⟨hSt, hM, ⟨fo0, ho0⟩, ⟨hOo, -⟩, hne⟩ := id hI
  refine lv_aload_n hx hb nd_L_law_820 rfl (lv_at hl 3 rfl) ?_
  refine lv_aload_n hx hb nd_L_law_821 rfl (lv_at hl 4 rfl) ?_
  refine lv_iload hx hb nd_L_law_822 (lv_at hl 0 rfl) ?_
  refine lv_iconst (v := 1) hx hb nd_L_law_824 (by decide) ?_
  refine lv_iadd hx hb nd_L_law_825 ?_
  refine lv_topi (fun y1 ey2 => ?_)
  obtain rfl : y1 = nI (i + 1) := ey2.trans (nI_add i 1)
  refine va_sld hx hb hX hbl hnb hS (vp_in_nI (by omega) (by omega)) nd_L_law_826 ?_
  refine lv_topi (fun y3 ey4 => ?_)
  obtain rfl : y3 = xs (i + 1) := ey4.trans (by rw [nI_clamp (by omega)])
  refine lv_aload_n hx hb nd_L_law_827 rfl (lv_at hl 1 rfl) ?_
  obtain ⟨R, eR⟩ : ∃ z, z = sp_hash S (xs (i + 1)) := ⟨_, rfl⟩
  refine g_calli (vx_runSW (As := [.ref h, .int (xs (i + 1)), .ref out]) (rest := []) ⟨hx, hb, hml, hown, hts⟩ (c_L_hash l hl9 G w h e0 sl K S hSt hK9 out fo0 hOo ho0 (xs (i + 1))) (vx_cwSW 3 hts (nw_of (nw_3 nh_ml_L_97 nh_st_L_hash nh_in_L nh_co_L_hash)) rfl rfl rfl (by decide +kernel) ⟨Nat.le_of_ble_eq_true rfl, Nat.le_of_ble_eq_true rfl⟩) (g_preS hK hw hS _) rfl rfl hl.1 rfl (lv_room (Nat.le_of_ble_eq_true rfl)) nd_L_law_828 ⟨by first | (show _ ≤ 601024; omega) | (show _ ≤ 7293034; omega), by first | (show _ ≤ 601024; omega) | (show _ ≤ 7293034; omega)⟩) hS (fun k9 w5 H locs hp hw hS => ?_)
  rw [← eR] at hp
  have hR4 : R.1 ≤ 4 := by rw [eR]; exact sp_hash_b
  obtain rfl := hp.1
  obtain ⟨hS1, hM1, ⟨fo, ho1, hv1⟩, hO1⟩ := la_1 hI hp
  obtain ⟨f1, hJ1, -⟩ := id hM1
  have hm := hJ1.1
  refine lv_istore hx hb nd_L_law_831 hl (by decide) (lv' := [(5, .int (nI R.1)), (4, .int (nI i)), (3, .ref out), (2, .ref mo), (1, .ref h), (0, .ref b)]) rfl (fun ls hl => ?_)
  refine lv_aload_n hx hb nd_L_law_833 rfl (lv_at hl 3 rfl) ?_
  refine lv_aload_n hx hb nd_L_law_834 rfl (lv_at hl 5 rfl) ?_
  refine lv_iload hx hb nd_L_law_835 (lv_at hl 1 rfl) ?_
  refine lv_iconst (v := 1) hx hb nd_L_law_837 (by decide) ?_
  refine lv_iadd hx hb nd_L_law_838 ?_
  refine lv_topi (fun y6 ey7 => ?_)
  obtain rfl : y6 = nI (i + 1) := ey7.trans (nI_add i 1)
  refine va_sld hx hb hX hbl hnb hS (vp_in_nI (by omega) (by omega)) nd_L_law_839 ?_
  refine lv_topi (fun y8 ey9 => ?_)
  obtain rfl : y8 = xs (i + 1) := ey9.trans (by rw [nI_clamp (by omega)])
  refine g_calll (va_runV (As := [.int (xs (i + 1))]) (rest := []) ⟨hx, hb, hml, hown, hts⟩ (c_M_hash l G w5 mo ra sa rr S cd hM1 (xs (i + 1))) (cwV (C := nR_M) 1 hts (nw_of (nw_4 nh_ml_L_99 nh_im_M_hash nh_se_M_hash nh_in_M nh_co_M_hash)) rfl rfl rfl (by decide +kernel) ⟨Nat.le_of_ble_eq_true rfl, Nat.le_of_ble_eq_true rfl⟩) (g_preV (ci := 5) (q := (nR_M, nT_M, 4)) hK hw hS rfl hm _) rfl rfl hl.1 rfl (lv_room (Nat.le_of_ble_eq_true rfl)) nd_L_law_840 ⟨by first | (show _ ≤ 601024; omega) | (show _ ≤ 7293034; omega), by first | (show _ ≤ 601024; omega) | (show _ ≤ 7293034; omega)⟩) hS (fun v9 w10 H locs hp2 hw hS => ?_)
  rw [← eR] at hp2
  obtain ⟨hI2, ho2⟩ := la_2 hS1 hM1 ho1 hO1 hne hp2
  obtain ⟨f2, hJ2, -⟩ := id hI2.2.1
  have hm := hJ2.1
  refine lv_lstore hx hb nd_L_law_843 hl (by decide) (lv' := [(6, .long v9), (5, .int (nI R.1)), (4, .int (nI i)), (3, .ref out), (2, .ref mo), (1, .ref h), (0, .ref b)]) rfl (fun ls hl => ?_)
  refine lv_aload_n hx hb nd_L_law_845 rfl (lv_at hl 4 rfl) ?_
  refine g_calli (va_runV (As := []) (rest := []) ⟨hx, hb, hml, hown, hts⟩ (c_M_thrown l G w10 mo ra sa (mo_b R.2.2.1) (nI R.1) hm) (cwV (C := nR_M) 0 hts (nw_of (nw_4 nh_ml_L_70 nh_im_M_thrown nh_se_M_thrown nh_in_M nh_co_M_thrown)) rfl rfl rfl (by decide +kernel) ⟨Nat.le_of_ble_eq_true rfl, Nat.le_of_ble_eq_true rfl⟩) (g_preV (ci := 5) (q := (nR_M, nT_M, 4)) hK hw hS rfl hm _) rfl rfl hl.1 rfl (lv_room (Nat.le_of_ble_eq_true rfl)) nd_L_law_846 ⟨by first | (show _ ≤ 601024; omega) | (show _ ≤ 7293034; omega), by first | (show _ ≤ 601024; omega) | (show _ ≤ 7293034; omega)⟩) hS (fun u9 w11 H locs hp3 hw hS => ?_)
  obtain ⟨rfl, hw9⟩ := hp3
  rw [hw9] at hw
  refine lv_iload hx hb nd_L_law_849 (lv_at hl 1 rfl) ?_
  refine lv_icmp_eq (tgt := 856) hx hb nd_L_law_851 (by decide) (fun hc => ?_) (fun hc => absurd rfl hc)
  refine lv_iload hx hb nd_L_law_856 (lv_at hl 1 rfl) ?_
  refine lv_if_ne (tgt := 872) hx hb nd_L_law_858 (by decide) (fun hc => ?_) (fun hc => ?_)
  · refine lv_goto (tgt := 1079) hx hb nd_L_law_872 (by decide) ?_
    exact W.widen (k := cells + 400) (n := slots + 6500) (by omega) (by omega) (kk R.2.2 (nI R.1) _ H locs ls hI2 (lv_sub hl [2, 3, 4, 5, 6] rfl) hw hS)
  · have h0 : R.1 = 0 := (nI_eq (b := 0) (by omega) (by omega)).mp (hc.trans nI_0.symm)
    refine lv_aload_n hx hb nd_L_law_861 rfl (lv_at hl 3 rfl) ?_
    refine lv_iconst (v := 0) hx hb nd_L_law_862 (by decide) ?_
    refine xw_lald hx hb hK.1 hw 0 ho2 rfl (by unfold vp_in; decide) nd_L_law_863 ?_
    refine lv_topl (fun y12 ey13 => ?_)
    obtain rfl : y12 = R.2.1 := ey13.trans (hv1 h0)
    refine lv_lload hx hb nd_L_law_864 (lv_at hl 0 rfl) ?_
    refine lv_topl (fun y14 ey15 => ?_)
    obtain rfl : y14 = R.2.1 := ey15.trans (hp2.2.1)
    refine W.lcmp hx hb nd_L_law_866 ?_
    refine lv_topi (fun y16 ey17 => ?_)
    obtain rfl : y16 = 0 := ey17.trans (lg_cmp_rf _)
    refine lv_if_eq (tgt := 872) hx hb nd_L_law_867 (by decide) (fun hc => ?_) (fun hc => absurd rfl hc)
    refine lv_goto (tgt := 1079) hx hb nd_L_law_872 (by decide) ?_
    exact W.widen (k := cells + 400) (n := slots + 6500) (by omega) (by omega) (kk R.2.2 (nI R.1) _ H locs ls hI2 (lv_sub hl [2, 3, 4, 5, 6] rfl) hw hS)

set_option maxHeartbeats 4000000 in
set_option maxRecDepth 100000 in
theorem k_open {p : Program} {l : Launch} {e : Env} {s : State} {m : MethodId} {below : List Frame} {meth : Method} {c : Code} {H : Heap} {locs : List Loc} {cells slots : Nat} {Q : State → Prop} {ls : Array Slot} {b Ln : Nat} {xs : Nat → Int32} {G : g_G} {w : xw_W} {h e0 sl mo ra sa : Nat} {rr : Nat → Nat} {out : Nat} {S : sp_S} {K : Nat} {cd : Int32} {i : Nat}
    (hl9 : l.stackTraces = false) (hx : p.tables.exec = Jvm.exec) (hb : c.code = nb_L_law) (hml : c.maxLocals = 8) (hown : s.vm.findClass "RadixShelfLaw" = some m.cls) (hts : ∀ w ∈ Cond.initialized "RadixShelf" :: nw_T, w.before #[Value.ref b] s = true) (hX : va_X b Ln xs s s.heap) (hbl : b < s.heap.size) (hG : g_b G = s.heap.size) (hK : g_K G s) (hLn : Ln ≤ 3584) (hi : i + 7 ≤ Ln) (hK9 : K + 1 < 2 ^ 31) (hI : la_I G w h e0 sl mo ra sa rr out S K cd) (hl : lv_has ls 8 [(4, .int (nI i)), (3, .ref out), (2, .ref mo), (1, .ref h), (0, .ref b)]) (hw : g_P G w H) (hS : g_S G s.heap H locs) (hcl : cells + 400 ≤ 601024) (hsl9 : slots + 6500 ≤ 7293034)
    (kk : ∀ (S' : sp_S) (cd' : Int32) (w' : xw_W) (H' : Heap) (locs' : List Loc) (ls' : Array Slot), la_I G w' h e0 sl mo ra sa rr out S' (K + 1) cd' → lv_has ls' 8 [(4, .int (nI i)), (3, .ref out), (2, .ref mo), (1, .ref h), (0, .ref b)] → g_P G w' H' → g_S G s.heap H' locs' → W p l e room_1 s m #[Value.ref b] below meth c H' locs' (cells + 400) (slots + 6500) Q (F0 m 1079 ls' [])) : W p l e room_1 s m #[Value.ref b] below meth c H locs cells slots Q (F0 m 875 ls []) := by
  have hT : ∀ w ∈ nw_T, w.before _ s = true := fun w h => hts w (List.mem_cons_of_mem _ h)
  have hB : g_b G ≤ s.heap.size := Nat.le_of_eq hG
  have hnb : ¬ xw_A (g_b G) b := fun z => absurd (show g_b G ≤ b from z) (by omega)
  obtain ⟨hSt, hM, ⟨fo0, ho0⟩, ⟨hOo, -⟩, hne⟩ := id hI
  refine lv_aload_n hx hb nd_L_law_875 rfl (lv_at hl 3 rfl) ?_
  refine lv_aload_n hx hb nd_L_law_876 rfl (lv_at hl 4 rfl) ?_
  refine lv_iload hx hb nd_L_law_877 (lv_at hl 0 rfl) ?_
  refine lv_iconst (v := 1) hx hb nd_L_law_879 (by decide) ?_
  refine lv_iadd hx hb nd_L_law_880 ?_
  refine lv_topi (fun y1 ey2 => ?_)
  obtain rfl : y1 = nI (i + 1) := ey2.trans (nI_add i 1)
  refine va_sld hx hb hX hbl hnb hS (vp_in_nI (by omega) (by omega)) nd_L_law_881 ?_
  refine lv_topi (fun y3 ey4 => ?_)
  obtain rfl : y3 = xs (i + 1) := ey4.trans (by rw [nI_clamp (by omega)])
  obtain ⟨R, eR⟩ : ∃ z, z = sp_opn S (xs (i + 1)) := ⟨_, rfl⟩
  refine g_calli (vx_runSW (As := [.ref h, .int (xs (i + 1))]) (rest := []) ⟨hx, hb, hml, hown, hts⟩ (c_L_open l hl9 G w h e0 sl K S hSt hK9 (xs (i + 1))) (vx_cwSW 2 hts (nw_of (nw_3 nh_ml_L_100 nh_st_L_open nh_in_L nh_co_L_open)) rfl rfl rfl (by decide +kernel) ⟨Nat.le_of_ble_eq_true rfl, Nat.le_of_ble_eq_true rfl⟩) (g_preS hK hw hS _) rfl rfl hl.1 rfl (lv_room (Nat.le_of_ble_eq_true rfl)) nd_L_law_882 ⟨by first | (show _ ≤ 601024; omega) | (show _ ≤ 7293034; omega), by first | (show _ ≤ 601024; omega) | (show _ ≤ 7293034; omega)⟩) hS (fun k9 w5 H locs hp hw hS => ?_)
  rw [← eR] at hp
  have hR4 : R.1 ≤ 4 := by rw [eR]; exact sp_opn_b
  obtain rfl := hp.1
  obtain ⟨hS1, hM1, ⟨fo, ho1⟩, hO1⟩ := la_3 hI hp
  obtain ⟨f1, hJ1, -⟩ := id hM1
  have hm := hJ1.1
  refine lv_istore hx hb nd_L_law_885 hl (by decide) (lv' := [(5, .int (nI R.1)), (4, .int (nI i)), (3, .ref out), (2, .ref mo), (1, .ref h), (0, .ref b)]) rfl (fun ls hl => ?_)
  refine lv_aload_n hx hb nd_L_law_887 rfl (lv_at hl 3 rfl) ?_
  refine lv_aload_n hx hb nd_L_law_888 rfl (lv_at hl 5 rfl) ?_
  refine lv_iload hx hb nd_L_law_889 (lv_at hl 1 rfl) ?_
  refine lv_iconst (v := 1) hx hb nd_L_law_891 (by decide) ?_
  refine lv_iadd hx hb nd_L_law_892 ?_
  refine lv_topi (fun y6 ey7 => ?_)
  obtain rfl : y6 = nI (i + 1) := ey7.trans (nI_add i 1)
  refine va_sld hx hb hX hbl hnb hS (vp_in_nI (by omega) (by omega)) nd_L_law_893 ?_
  refine lv_topi (fun y8 ey9 => ?_)
  obtain rfl : y8 = xs (i + 1) := ey9.trans (by rw [nI_clamp (by omega)])
  refine g_callv (va_runV (As := [.int (xs (i + 1))]) (rest := []) ⟨hx, hb, hml, hown, hts⟩ (c_M_open l G w5 mo ra sa rr S cd hM1 (xs (i + 1))) (cwV (C := nR_M) 1 hts (nw_of (nw_4 nh_ml_L_103 nh_im_M_open nh_se_M_open nh_in_M nh_co_M_open)) rfl rfl rfl (by decide +kernel) ⟨Nat.le_of_ble_eq_true rfl, Nat.le_of_ble_eq_true rfl⟩) (g_preV (ci := 5) (q := (nR_M, nT_M, 4)) hK hw hS rfl hm _) rfl rfl hl.1 rfl (lv_room (Nat.le_of_ble_eq_true rfl)) nd_L_law_894 ⟨by first | (show _ ≤ 601024; omega) | (show _ ≤ 7293034; omega), by first | (show _ ≤ 601024; omega) | (show _ ≤ 7293034; omega)⟩) hS (fun w10 H locs hp2 hw hS => ?_)
  rw [← eR] at hp2
  obtain ⟨hI2, ho2⟩ := la_2 hS1 hM1 ho1 hO1 hne hp2
  obtain ⟨f2, hJ2, -⟩ := id hI2.2.1
  have hm := hJ2.1
  refine lv_aload_n hx hb nd_L_law_897 rfl (lv_at hl 3 rfl) ?_
  refine g_calli (va_runV (As := []) (rest := []) ⟨hx, hb, hml, hown, hts⟩ (c_M_thrown l G w10 mo ra sa (mo_b R.2.2.1) (nI R.1) hm) (cwV (C := nR_M) 0 hts (nw_of (nw_4 nh_ml_L_70 nh_im_M_thrown nh_se_M_thrown nh_in_M nh_co_M_thrown)) rfl rfl rfl (by decide +kernel) ⟨Nat.le_of_ble_eq_true rfl, Nat.le_of_ble_eq_true rfl⟩) (g_preV (ci := 5) (q := (nR_M, nT_M, 4)) hK hw hS rfl hm _) rfl rfl hl.1 rfl (lv_room (Nat.le_of_ble_eq_true rfl)) nd_L_law_898 ⟨by first | (show _ ≤ 601024; omega) | (show _ ≤ 7293034; omega), by first | (show _ ≤ 601024; omega) | (show _ ≤ 7293034; omega)⟩) hS (fun u9 w11 H locs hp3 hw hS => ?_)
  obtain ⟨rfl, hw9⟩ := hp3
  rw [hw9] at hw
  refine lv_iload hx hb nd_L_law_901 (lv_at hl 0 rfl) ?_
  refine lv_icmp_eq (tgt := 908) hx hb nd_L_law_903 (by decide) (fun hc => ?_) (fun hc => absurd rfl hc)
  refine lv_goto (tgt := 1079) hx hb nd_L_law_908 (by decide) ?_
  exact W.widen (k := cells + 400) (n := slots + 6500) (by omega) (by omega) (kk R.2.2 (nI R.1) _ H locs ls hI2 (lv_sub hl [1, 2, 3, 4, 5] rfl) hw hS)

set_option maxHeartbeats 4000000 in
set_option maxRecDepth 100000 in
theorem k_build {p : Program} {l : Launch} {e : Env} {s : State} {m : MethodId} {below : List Frame} {meth : Method} {c : Code} {H : Heap} {locs : List Loc} {cells slots : Nat} {Q : State → Prop} {ls : Array Slot} {b Ln : Nat} {xs : Nat → Int32} {G : g_G} {w : xw_W} {h e0 sl mo ra sa : Nat} {rr : Nat → Nat} {out : Nat} {S : sp_S} {K : Nat} {cd : Int32} {i : Nat}
    (hl9 : l.stackTraces = false) (hx : p.tables.exec = Jvm.exec) (hb : c.code = nb_L_law) (hml : c.maxLocals = 8) (hown : s.vm.findClass "RadixShelfLaw" = some m.cls) (hts : ∀ w ∈ Cond.initialized "RadixShelf" :: nw_T, w.before #[Value.ref b] s = true) (hX : va_X b Ln xs s s.heap) (hbl : b < s.heap.size) (hG : g_b G = s.heap.size) (hK : g_K G s) (hLn : Ln ≤ 3584) (hi : i + 7 ≤ Ln) (hK9 : K + 1 < 2 ^ 31) (hI : la_I G w h e0 sl mo ra sa rr out S K cd) (hl : lv_has ls 8 [(4, .int (nI i)), (3, .ref out), (2, .ref mo), (1, .ref h), (0, .ref b)]) (hw : g_P G w H) (hS : g_S G s.heap H locs) (hcl : cells + 400 ≤ 601024) (hsl9 : slots + 6500 ≤ 7293034)
    (kk : ∀ (S' : sp_S) (cd' : Int32) (w' : xw_W) (H' : Heap) (locs' : List Loc) (ls' : Array Slot), la_I G w' h e0 sl mo ra sa rr out S' (K + 1) cd' → lv_has ls' 8 [(4, .int (nI i)), (3, .ref out), (2, .ref mo), (1, .ref h), (0, .ref b)] → g_P G w' H' → g_S G s.heap H' locs' → W p l e room_1 s m #[Value.ref b] below meth c H' locs' (cells + 400) (slots + 6500) Q (F0 m 1079 ls' [])) : W p l e room_1 s m #[Value.ref b] below meth c H locs cells slots Q (F0 m 911 ls []) := by
  have hT : ∀ w ∈ nw_T, w.before _ s = true := fun w h => hts w (List.mem_cons_of_mem _ h)
  have hB : g_b G ≤ s.heap.size := Nat.le_of_eq hG
  have hnb : ¬ xw_A (g_b G) b := fun z => absurd (show g_b G ≤ b from z) (by omega)
  obtain ⟨hSt, hM, ⟨fo0, ho0⟩, ⟨hOo, -⟩, hne⟩ := id hI
  refine lv_aload_n hx hb nd_L_law_911 rfl (lv_at hl 3 rfl) ?_
  refine lv_aload_n hx hb nd_L_law_912 rfl (lv_at hl 4 rfl) ?_
  refine lv_iload hx hb nd_L_law_913 (lv_at hl 0 rfl) ?_
  refine lv_iconst (v := 1) hx hb nd_L_law_915 (by decide) ?_
  refine lv_iadd hx hb nd_L_law_916 ?_
  refine lv_topi (fun y1 ey2 => ?_)
  obtain rfl : y1 = nI (i + 1) := ey2.trans (nI_add i 1)
  refine va_sld hx hb hX hbl hnb hS (vp_in_nI (by omega) (by omega)) nd_L_law_917 ?_
  refine lv_topi (fun y3 ey4 => ?_)
  obtain rfl : y3 = xs (i + 1) := ey4.trans (by rw [nI_clamp (by omega)])
  refine lv_aload_n hx hb nd_L_law_918 rfl (lv_at hl 4 rfl) ?_
  refine lv_iload hx hb nd_L_law_919 (lv_at hl 0 rfl) ?_
  refine lv_iconst (v := 2) hx hb nd_L_law_921 (by decide) ?_
  refine lv_iadd hx hb nd_L_law_922 ?_
  refine lv_topi (fun y5 ey6 => ?_)
  obtain rfl : y5 = nI (i + 2) := ey6.trans (nI_add i 2)
  refine va_sld hx hb hX hbl hnb hS (vp_in_nI (by omega) (by omega)) nd_L_law_923 ?_
  refine lv_topi (fun y7 ey8 => ?_)
  obtain rfl : y7 = xs (i + 2) := ey8.trans (by rw [nI_clamp (by omega)])
  refine lv_aload_n hx hb nd_L_law_924 rfl (lv_at hl 4 rfl) ?_
  refine lv_iload hx hb nd_L_law_925 (lv_at hl 0 rfl) ?_
  refine lv_iconst (v := 3) hx hb nd_L_law_927 (by decide) ?_
  refine lv_iadd hx hb nd_L_law_928 ?_
  refine lv_topi (fun y9 ey10 => ?_)
  obtain rfl : y9 = nI (i + 3) := ey10.trans (nI_add i 3)
  refine va_sld hx hb hX hbl hnb hS (vp_in_nI (by omega) (by omega)) nd_L_law_929 ?_
  refine lv_topi (fun y11 ey12 => ?_)
  obtain rfl : y11 = xs (i + 3) := ey12.trans (by rw [nI_clamp (by omega)])
  refine lv_i2l hx hb nd_L_law_930 rfl ?_
  refine lv_bipush (v := 32) hx hb nd_L_law_931 (by decide) ?_
  refine lv_lshl hx hb nd_L_law_933 rfl ?_
  refine lv_aload_n hx hb nd_L_law_934 rfl (lv_at hl 4 rfl) ?_
  refine lv_iload hx hb nd_L_law_935 (lv_at hl 0 rfl) ?_
  refine lv_iconst (v := 4) hx hb nd_L_law_937 (by decide) ?_
  refine lv_iadd hx hb nd_L_law_938 ?_
  refine lv_topi (fun y13 ey14 => ?_)
  obtain rfl : y13 = nI (i + 4) := ey14.trans (nI_add i 4)
  refine va_sld hx hb hX hbl hnb hS (vp_in_nI (by omega) (by omega)) nd_L_law_939 ?_
  refine lv_topi (fun y15 ey16 => ?_)
  obtain rfl : y15 = xs (i + 4) := ey16.trans (by rw [nI_clamp (by omega)])
  refine lv_i2l hx hb nd_L_law_940 rfl ?_
  refine lv_ldc2 hx hb hown (hT _ nh_kl_L_62) nd_L_law_941 ?_
  refine lv_land hx hb nd_L_law_944 ?_
  refine lv_lor hx hb nd_L_law_945 ?_
  refine lv_topl (fun y0 ey0 => ?_)
  refine lv_aload_n hx hb nd_L_law_946 rfl (lv_at hl 1 rfl) ?_
  obtain ⟨R, eR⟩ : ∃ z, z = sp_build S (xs (i + 1)) (xs (i + 2)) y0 := ⟨_, rfl⟩
  refine g_calli (vx_runSW (As := [.ref h, .int (xs (i + 1)), .int (xs (i + 2)), .long y0, .ref out]) (rest := []) ⟨hx, hb, hml, hown, hts⟩ (c_L_build l hl9 G w h e0 sl K S hSt hK9 out fo0 hOo ho0 (xs (i + 1)) (xs (i + 2)) y0) (vx_cwSW 5 hts (nw_of (nw_3 nh_ml_L_104 nh_st_L_build nh_in_L nh_co_L_build)) rfl rfl rfl (by decide +kernel) ⟨Nat.le_of_ble_eq_true rfl, Nat.le_of_ble_eq_true rfl⟩) (g_preS hK hw hS _) rfl rfl hl.1 rfl (lv_room (Nat.le_of_ble_eq_true rfl)) nd_L_law_947 ⟨by first | (show _ ≤ 601024; omega) | (show _ ≤ 7293034; omega), by first | (show _ ≤ 601024; omega) | (show _ ≤ 7293034; omega)⟩) hS (fun k9 w17 H locs hp hw hS => ?_)
  rw [← eR] at hp
  have hR4 : R.1 ≤ 4 := by rw [eR]; exact sp_build_b
  obtain rfl := hp.1
  obtain ⟨hS1, hM1, ⟨fo, ho1, hv1⟩, hO1⟩ := la_1 hI hp
  obtain ⟨f1, hJ1, -⟩ := id hM1
  have hm := hJ1.1
  refine lv_istore hx hb nd_L_law_950 hl (by decide) (lv' := [(5, .int (nI R.1)), (4, .int (nI i)), (3, .ref out), (2, .ref mo), (1, .ref h), (0, .ref b)]) rfl (fun ls hl => ?_)
  refine lv_aload_n hx hb nd_L_law_952 rfl (lv_at hl 3 rfl) ?_
  refine lv_aload_n hx hb nd_L_law_953 rfl (lv_at hl 5 rfl) ?_
  refine lv_iload hx hb nd_L_law_954 (lv_at hl 1 rfl) ?_
  refine lv_iconst (v := 1) hx hb nd_L_law_956 (by decide) ?_
  refine lv_iadd hx hb nd_L_law_957 ?_
  refine lv_topi (fun y18 ey19 => ?_)
  obtain rfl : y18 = nI (i + 1) := ey19.trans (nI_add i 1)
  refine va_sld hx hb hX hbl hnb hS (vp_in_nI (by omega) (by omega)) nd_L_law_958 ?_
  refine lv_topi (fun y20 ey21 => ?_)
  obtain rfl : y20 = xs (i + 1) := ey21.trans (by rw [nI_clamp (by omega)])
  refine lv_aload_n hx hb nd_L_law_959 rfl (lv_at hl 5 rfl) ?_
  refine lv_iload hx hb nd_L_law_960 (lv_at hl 1 rfl) ?_
  refine lv_iconst (v := 2) hx hb nd_L_law_962 (by decide) ?_
  refine lv_iadd hx hb nd_L_law_963 ?_
  refine lv_topi (fun y22 ey23 => ?_)
  obtain rfl : y22 = nI (i + 2) := ey23.trans (nI_add i 2)
  refine va_sld hx hb hX hbl hnb hS (vp_in_nI (by omega) (by omega)) nd_L_law_964 ?_
  refine lv_topi (fun y24 ey25 => ?_)
  obtain rfl : y24 = xs (i + 2) := ey25.trans (by rw [nI_clamp (by omega)])
  refine lv_aload_n hx hb nd_L_law_965 rfl (lv_at hl 5 rfl) ?_
  refine lv_iload hx hb nd_L_law_966 (lv_at hl 1 rfl) ?_
  refine lv_iconst (v := 3) hx hb nd_L_law_968 (by decide) ?_
  refine lv_iadd hx hb nd_L_law_969 ?_
  refine lv_topi (fun y26 ey27 => ?_)
  obtain rfl : y26 = nI (i + 3) := ey27.trans (nI_add i 3)
  refine va_sld hx hb hX hbl hnb hS (vp_in_nI (by omega) (by omega)) nd_L_law_970 ?_
  refine lv_topi (fun y28 ey29 => ?_)
  obtain rfl : y28 = xs (i + 3) := ey29.trans (by rw [nI_clamp (by omega)])
  refine lv_i2l hx hb nd_L_law_971 rfl ?_
  refine lv_bipush (v := 32) hx hb nd_L_law_972 (by decide) ?_
  refine lv_lshl hx hb nd_L_law_974 rfl ?_
  refine lv_aload_n hx hb nd_L_law_975 rfl (lv_at hl 5 rfl) ?_
  refine lv_iload hx hb nd_L_law_976 (lv_at hl 1 rfl) ?_
  refine lv_iconst (v := 4) hx hb nd_L_law_978 (by decide) ?_
  refine lv_iadd hx hb nd_L_law_979 ?_
  refine lv_topi (fun y30 ey31 => ?_)
  obtain rfl : y30 = nI (i + 4) := ey31.trans (nI_add i 4)
  refine va_sld hx hb hX hbl hnb hS (vp_in_nI (by omega) (by omega)) nd_L_law_980 ?_
  refine lv_topi (fun y32 ey33 => ?_)
  obtain rfl : y32 = xs (i + 4) := ey33.trans (by rw [nI_clamp (by omega)])
  refine lv_i2l hx hb nd_L_law_981 rfl ?_
  refine lv_ldc2 hx hb hown (hT _ nh_kl_L_62) nd_L_law_982 ?_
  refine lv_land hx hb nd_L_law_985 ?_
  refine lv_lor hx hb nd_L_law_986 ?_
  refine lv_topl (fun z0 ez0 => ?_)
  obtain rfl : y0 = z0 := ey0.trans ez0.symm
  refine g_calli (va_runV (As := [.int (xs (i + 1)), .int (xs (i + 2)), .long y0]) (rest := []) ⟨hx, hb, hml, hown, hts⟩ (c_M_build l G w17 mo ra sa rr S cd hM1 (xs (i + 1)) (xs (i + 2)) y0) (cwV (C := nR_M) 3 hts (nw_of (nw_4 nh_ml_L_106 nh_im_M_build nh_se_M_build nh_in_M nh_co_M_build)) rfl rfl rfl (by decide +kernel) ⟨Nat.le_of_ble_eq_true rfl, Nat.le_of_ble_eq_true rfl⟩) (g_preV (ci := 5) (q := (nR_M, nT_M, 4)) hK hw hS rfl hm _) rfl rfl hl.1 rfl (lv_room (Nat.le_of_ble_eq_true rfl)) nd_L_law_987 ⟨by first | (show _ ≤ 601024; omega) | (show _ ≤ 7293034; omega), by first | (show _ ≤ 601024; omega) | (show _ ≤ 7293034; omega)⟩) hS (fun v9 w34 H locs hp2 hw hS => ?_)
  rw [← eR] at hp2
  obtain ⟨hI2, ho2⟩ := la_2 hS1 hM1 ho1 hO1 hne hp2
  obtain ⟨f2, hJ2, -⟩ := id hI2.2.1
  have hm := hJ2.1
  refine lv_istore hx hb nd_L_law_990 hl (by decide) (lv' := [(6, .int v9), (5, .int (nI R.1)), (4, .int (nI i)), (3, .ref out), (2, .ref mo), (1, .ref h), (0, .ref b)]) rfl (fun ls hl => ?_)
  refine lv_aload_n hx hb nd_L_law_992 rfl (lv_at hl 4 rfl) ?_
  refine g_calli (va_runV (As := []) (rest := []) ⟨hx, hb, hml, hown, hts⟩ (c_M_thrown l G w34 mo ra sa (mo_b R.2.2.1) (nI R.1) hm) (cwV (C := nR_M) 0 hts (nw_of (nw_4 nh_ml_L_70 nh_im_M_thrown nh_se_M_thrown nh_in_M nh_co_M_thrown)) rfl rfl rfl (by decide +kernel) ⟨Nat.le_of_ble_eq_true rfl, Nat.le_of_ble_eq_true rfl⟩) (g_preV (ci := 5) (q := (nR_M, nT_M, 4)) hK hw hS rfl hm _) rfl rfl hl.1 rfl (lv_room (Nat.le_of_ble_eq_true rfl)) nd_L_law_993 ⟨by first | (show _ ≤ 601024; omega) | (show _ ≤ 7293034; omega), by first | (show _ ≤ 601024; omega) | (show _ ≤ 7293034; omega)⟩) hS (fun u9 w35 H locs hp3 hw hS => ?_)
  obtain ⟨rfl, hw9⟩ := hp3
  rw [hw9] at hw
  refine lv_iload hx hb nd_L_law_996 (lv_at hl 1 rfl) ?_
  refine lv_icmp_eq (tgt := 1003) hx hb nd_L_law_998 (by decide) (fun hc => ?_) (fun hc => absurd rfl hc)
  refine lv_iload hx hb nd_L_law_1003 (lv_at hl 1 rfl) ?_
  refine lv_if_ne (tgt := 1020) hx hb nd_L_law_1005 (by decide) (fun hc => ?_) (fun hc => ?_)
  · refine lv_goto (tgt := 1079) hx hb nd_L_law_1020 (by decide) ?_
    exact W.widen (k := cells + 400) (n := slots + 6500) (by omega) (by omega) (kk R.2.2 (nI R.1) _ H locs ls hI2 (lv_sub hl [2, 3, 4, 5, 6] rfl) hw hS)
  · have h0 : R.1 = 0 := (nI_eq (b := 0) (by omega) (by omega)).mp (hc.trans nI_0.symm)
    refine lv_aload_n hx hb nd_L_law_1008 rfl (lv_at hl 3 rfl) ?_
    refine lv_iconst (v := 0) hx hb nd_L_law_1009 (by decide) ?_
    refine xw_lald hx hb hK.1 hw 0 ho2 rfl (by unfold vp_in; decide) nd_L_law_1010 ?_
    refine lv_topl (fun y36 ey37 => ?_)
    obtain rfl : y36 = R.2.1 := ey37.trans (hv1 h0)
    refine lv_iload hx hb nd_L_law_1011 (lv_at hl 0 rfl) ?_
    refine lv_i2l hx hb nd_L_law_1013 rfl ?_
    refine lv_topl (fun y38 ey39 => ?_)
    obtain rfl : y38 = R.2.1 := ey39.trans (hp2.2.1)
    refine W.lcmp hx hb nd_L_law_1014 ?_
    refine lv_topi (fun y40 ey41 => ?_)
    obtain rfl : y40 = 0 := ey41.trans (lg_cmp_rf _)
    refine lv_if_eq (tgt := 1020) hx hb nd_L_law_1015 (by decide) (fun hc => ?_) (fun hc => absurd rfl hc)
    refine lv_goto (tgt := 1079) hx hb nd_L_law_1020 (by decide) ?_
    exact W.widen (k := cells + 400) (n := slots + 6500) (by omega) (by omega) (kk R.2.2 (nI R.1) _ H locs ls hI2 (lv_sub hl [2, 3, 4, 5, 6] rfl) hw hS)

set_option maxHeartbeats 4000000 in
set_option maxRecDepth 100000 in
theorem k_freeze {p : Program} {l : Launch} {e : Env} {s : State} {m : MethodId} {below : List Frame} {meth : Method} {c : Code} {H : Heap} {locs : List Loc} {cells slots : Nat} {Q : State → Prop} {ls : Array Slot} {b Ln : Nat} {xs : Nat → Int32} {G : g_G} {w : xw_W} {h e0 sl mo ra sa : Nat} {rr : Nat → Nat} {out : Nat} {S : sp_S} {K : Nat} {cd : Int32} {i : Nat}
    (hl9 : l.stackTraces = false) (hx : p.tables.exec = Jvm.exec) (hb : c.code = nb_L_law) (hml : c.maxLocals = 8) (hown : s.vm.findClass "RadixShelfLaw" = some m.cls) (hts : ∀ w ∈ Cond.initialized "RadixShelf" :: nw_T, w.before #[Value.ref b] s = true) (hX : va_X b Ln xs s s.heap) (hbl : b < s.heap.size) (hG : g_b G = s.heap.size) (hK : g_K G s) (hLn : Ln ≤ 3584) (hi : i + 7 ≤ Ln) (hK9 : K + 1 < 2 ^ 31) (hI : la_I G w h e0 sl mo ra sa rr out S K cd) (hl : lv_has ls 8 [(4, .int (nI i)), (3, .ref out), (2, .ref mo), (1, .ref h), (0, .ref b)]) (hw : g_P G w H) (hS : g_S G s.heap H locs) (hcl : cells + 400 ≤ 601024) (hsl9 : slots + 6500 ≤ 7293034)
    (kk : ∀ (S' : sp_S) (cd' : Int32) (w' : xw_W) (H' : Heap) (locs' : List Loc) (ls' : Array Slot), la_I G w' h e0 sl mo ra sa rr out S' (K + 1) cd' → lv_has ls' 8 [(4, .int (nI i)), (3, .ref out), (2, .ref mo), (1, .ref h), (0, .ref b)] → g_P G w' H' → g_S G s.heap H' locs' → W p l e room_1 s m #[Value.ref b] below meth c H' locs' (cells + 400) (slots + 6500) Q (F0 m 1079 ls' [])) : W p l e room_1 s m #[Value.ref b] below meth c H locs cells slots Q (F0 m 1023 ls []) := by
  have hT : ∀ w ∈ nw_T, w.before _ s = true := fun w h => hts w (List.mem_cons_of_mem _ h)
  have hB : g_b G ≤ s.heap.size := Nat.le_of_eq hG
  have hnb : ¬ xw_A (g_b G) b := fun z => absurd (show g_b G ≤ b from z) (by omega)
  obtain ⟨hSt, hM, ⟨fo0, ho0⟩, ⟨hOo, -⟩, hne⟩ := id hI
  refine lv_aload_n hx hb nd_L_law_1023 rfl (lv_at hl 3 rfl) ?_
  refine lv_aload_n hx hb nd_L_law_1024 rfl (lv_at hl 4 rfl) ?_
  refine lv_iload hx hb nd_L_law_1025 (lv_at hl 0 rfl) ?_
  refine lv_iconst (v := 1) hx hb nd_L_law_1027 (by decide) ?_
  refine lv_iadd hx hb nd_L_law_1028 ?_
  refine lv_topi (fun y1 ey2 => ?_)
  obtain rfl : y1 = nI (i + 1) := ey2.trans (nI_add i 1)
  refine va_sld hx hb hX hbl hnb hS (vp_in_nI (by omega) (by omega)) nd_L_law_1029 ?_
  refine lv_topi (fun y3 ey4 => ?_)
  obtain rfl : y3 = xs (i + 1) := ey4.trans (by rw [nI_clamp (by omega)])
  refine lv_aload_n hx hb nd_L_law_1030 rfl (lv_at hl 1 rfl) ?_
  obtain ⟨R, eR⟩ : ∃ z, z = sp_freeze S (xs (i + 1)) := ⟨_, rfl⟩
  refine g_calli (vx_runSW (As := [.ref h, .int (xs (i + 1)), .ref out]) (rest := []) ⟨hx, hb, hml, hown, hts⟩ (c_L_freeze l hl9 G w h e0 sl K S hSt hK9 out fo0 hOo ho0 (xs (i + 1))) (vx_cwSW 3 hts (nw_of (nw_3 nh_ml_L_107 nh_st_L_freeze nh_in_L nh_co_L_freeze)) rfl rfl rfl (by decide +kernel) ⟨Nat.le_of_ble_eq_true rfl, Nat.le_of_ble_eq_true rfl⟩) (g_preS hK hw hS _) rfl rfl hl.1 rfl (lv_room (Nat.le_of_ble_eq_true rfl)) nd_L_law_1031 ⟨by first | (show _ ≤ 601024; omega) | (show _ ≤ 7293034; omega), by first | (show _ ≤ 601024; omega) | (show _ ≤ 7293034; omega)⟩) hS (fun k9 w5 H locs hp hw hS => ?_)
  rw [← eR] at hp
  have hR4 : R.1 ≤ 4 := by rw [eR]; exact sp_freeze_b
  obtain rfl := hp.1
  obtain ⟨hS1, hM1, ⟨fo, ho1, hv1⟩, hO1⟩ := la_1 hI hp
  obtain ⟨f1, hJ1, -⟩ := id hM1
  have hm := hJ1.1
  refine lv_istore hx hb nd_L_law_1034 hl (by decide) (lv' := [(5, .int (nI R.1)), (4, .int (nI i)), (3, .ref out), (2, .ref mo), (1, .ref h), (0, .ref b)]) rfl (fun ls hl => ?_)
  refine lv_aload_n hx hb nd_L_law_1036 rfl (lv_at hl 3 rfl) ?_
  refine lv_aload_n hx hb nd_L_law_1037 rfl (lv_at hl 5 rfl) ?_
  refine lv_iload hx hb nd_L_law_1038 (lv_at hl 1 rfl) ?_
  refine lv_iconst (v := 1) hx hb nd_L_law_1040 (by decide) ?_
  refine lv_iadd hx hb nd_L_law_1041 ?_
  refine lv_topi (fun y6 ey7 => ?_)
  obtain rfl : y6 = nI (i + 1) := ey7.trans (nI_add i 1)
  refine va_sld hx hb hX hbl hnb hS (vp_in_nI (by omega) (by omega)) nd_L_law_1042 ?_
  refine lv_topi (fun y8 ey9 => ?_)
  obtain rfl : y8 = xs (i + 1) := ey9.trans (by rw [nI_clamp (by omega)])
  refine g_calli (va_runV (As := [.int (xs (i + 1))]) (rest := []) ⟨hx, hb, hml, hown, hts⟩ (c_M_freeze l G w5 mo ra sa rr S cd hM1 (xs (i + 1))) (cwV (C := nR_M) 1 hts (nw_of (nw_4 nh_ml_L_109 nh_im_M_freeze nh_se_M_freeze nh_in_M nh_co_M_freeze)) rfl rfl rfl (by decide +kernel) ⟨Nat.le_of_ble_eq_true rfl, Nat.le_of_ble_eq_true rfl⟩) (g_preV (ci := 5) (q := (nR_M, nT_M, 4)) hK hw hS rfl hm _) rfl rfl hl.1 rfl (lv_room (Nat.le_of_ble_eq_true rfl)) nd_L_law_1043 ⟨by first | (show _ ≤ 601024; omega) | (show _ ≤ 7293034; omega), by first | (show _ ≤ 601024; omega) | (show _ ≤ 7293034; omega)⟩) hS (fun v9 w10 H locs hp2 hw hS => ?_)
  rw [← eR] at hp2
  obtain ⟨hI2, ho2⟩ := la_2 hS1 hM1 ho1 hO1 hne hp2
  obtain ⟨f2, hJ2, -⟩ := id hI2.2.1
  have hm := hJ2.1
  refine lv_istore hx hb nd_L_law_1046 hl (by decide) (lv' := [(6, .int v9), (5, .int (nI R.1)), (4, .int (nI i)), (3, .ref out), (2, .ref mo), (1, .ref h), (0, .ref b)]) rfl (fun ls hl => ?_)
  refine lv_aload_n hx hb nd_L_law_1048 rfl (lv_at hl 4 rfl) ?_
  refine g_calli (va_runV (As := []) (rest := []) ⟨hx, hb, hml, hown, hts⟩ (c_M_thrown l G w10 mo ra sa (mo_b R.2.2.1) (nI R.1) hm) (cwV (C := nR_M) 0 hts (nw_of (nw_4 nh_ml_L_70 nh_im_M_thrown nh_se_M_thrown nh_in_M nh_co_M_thrown)) rfl rfl rfl (by decide +kernel) ⟨Nat.le_of_ble_eq_true rfl, Nat.le_of_ble_eq_true rfl⟩) (g_preV (ci := 5) (q := (nR_M, nT_M, 4)) hK hw hS rfl hm _) rfl rfl hl.1 rfl (lv_room (Nat.le_of_ble_eq_true rfl)) nd_L_law_1049 ⟨by first | (show _ ≤ 601024; omega) | (show _ ≤ 7293034; omega), by first | (show _ ≤ 601024; omega) | (show _ ≤ 7293034; omega)⟩) hS (fun u9 w11 H locs hp3 hw hS => ?_)
  obtain ⟨rfl, hw9⟩ := hp3
  rw [hw9] at hw
  refine lv_iload hx hb nd_L_law_1052 (lv_at hl 1 rfl) ?_
  refine lv_icmp_eq (tgt := 1059) hx hb nd_L_law_1054 (by decide) (fun hc => ?_) (fun hc => absurd rfl hc)
  refine lv_iload hx hb nd_L_law_1059 (lv_at hl 1 rfl) ?_
  refine lv_if_ne (tgt := 1076) hx hb nd_L_law_1061 (by decide) (fun hc => ?_) (fun hc => ?_)
  · refine lv_goto (tgt := 1079) hx hb nd_L_law_1076 (by decide) ?_
    exact W.widen (k := cells + 400) (n := slots + 6500) (by omega) (by omega) (kk R.2.2 (nI R.1) _ H locs ls hI2 (lv_sub hl [2, 3, 4, 5, 6] rfl) hw hS)
  · have h0 : R.1 = 0 := (nI_eq (b := 0) (by omega) (by omega)).mp (hc.trans nI_0.symm)
    refine lv_aload_n hx hb nd_L_law_1064 rfl (lv_at hl 3 rfl) ?_
    refine lv_iconst (v := 0) hx hb nd_L_law_1065 (by decide) ?_
    refine xw_lald hx hb hK.1 hw 0 ho2 rfl (by unfold vp_in; decide) nd_L_law_1066 ?_
    refine lv_topl (fun y12 ey13 => ?_)
    obtain rfl : y12 = R.2.1 := ey13.trans (hv1 h0)
    refine lv_iload hx hb nd_L_law_1067 (lv_at hl 0 rfl) ?_
    refine lv_i2l hx hb nd_L_law_1069 rfl ?_
    refine lv_topl (fun y14 ey15 => ?_)
    obtain rfl : y14 = R.2.1 := ey15.trans (hp2.2.1)
    refine W.lcmp hx hb nd_L_law_1070 ?_
    refine lv_topi (fun y16 ey17 => ?_)
    obtain rfl : y16 = 0 := ey17.trans (lg_cmp_rf _)
    refine lv_if_eq (tgt := 1076) hx hb nd_L_law_1071 (by decide) (fun hc => ?_) (fun hc => absurd rfl hc)
    refine lv_goto (tgt := 1079) hx hb nd_L_law_1076 (by decide) ?_
    exact W.widen (k := cells + 400) (n := slots + 6500) (by omega) (by omega) (kk R.2.2 (nI R.1) _ H locs ls hI2 (lv_sub hl [2, 3, 4, 5, 6] rfl) hw hS)
