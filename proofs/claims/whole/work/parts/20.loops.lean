theorem sp_nx (x st : Int64) (i : Nat) : x + lN i * st + st = x + lN (i + 1) * st := by rw [← lN_1, Int64.add_mul, Int64.one_mul, Int64.add_assoc]
theorem tr_tb0 {i : Nat} (h : i ≤ 3000) (h1 : i % 32 ≠ 0) : tr_tb 0 (i + 1) = tr_tb 0 i := by unfold tr_tb; omega

set_option maxHeartbeats 4000000 in
set_option maxRecDepth 100000 in
theorem c_S_hash (l : Launch) (hl9 : l.stackTraces = false) (G : g_G) (w : xw_W) (h e0 sl K : Nat) (S : sp_S) (hSt : sh_S G w h e0 sl S K) (hK9 : K + 1 < 2 ^ 31) (a : Int32) : vx_Met l ny_S_hash nw_S_hash ({ frames := 8, cells := 16, slots := 200, locals := 160 }) (g_Pc G w [.ref h, .int a]) (g_Ql G (fun v9 w' => sh_Post G w h e0 sl K (sp_hash S a) v9 w')) (g_X G (sh_T S w (sp_hash S a) [g_IAE])) 16 200 (xw_A (g_b G)) := by
  refine g_xmet (by decide) (Nat.le_of_ble_eq_true rfl) rfl ?_
  intro p e s m below meth c ls hx hb hr hts hown hlocks hne hml hl hK hB hw hS
  have hT : ∀ w ∈ nw_T, w.before _ s = true := fun w h => hts w (List.mem_cons_of_mem _ h)
  have hown : s.vm.findClass "RadixShelf" = some m.cls := hown
  have hl : lv_has ls 6 [(0, .ref h), (1, .int a)] := hl
  obtain ⟨op, sz, vs⟩ := S
  obtain ⟨L, bd, g, hLK, hI⟩ := hSt
  have hI : sh_I G w h e0 sl op sz vs L bd g := hI
  obtain ⟨hh, hsl, hW, hfr, hop, hsq, he0, hbd⟩ := id hI
  refine lv_iload_n hx hb nd_S_hash_0 rfl (lv_at hl 1 rfl) ?_
  refine g_xcallv (vx_runS (As := [.int a]) (rest := []) ⟨hx, hb, hml, hown, hts⟩ (c_S_checkSlot l hl9 G w a) (cwS 1 hts (nw_of (nw_3 nh_ml_S_30 nh_st_S_checkSlot nh_in_S nh_co_S_checkSlot)) rfl rfl rfl (by decide +kernel) ⟨Nat.le_of_ble_eq_true rfl, Nat.le_of_ble_eq_true rfl⟩) (g_preS hK hw hS _) rfl rfl hl.1 rfl (lv_room (Nat.le_of_ble_eq_true rfl)) nd_S_hash_1 ⟨by exact Nat.le_of_ble_eq_true rfl, by exact Nat.le_of_ble_eq_true rfl⟩) hS (fun E ce q9 w1 H locs hthr hw hS h1 h2 h3 => g_out hne hlocks hw hS h1 h2 h3 (⟨hthr.2.1, 0, by rw [hthr.1]; rfl, sp_hash_1 hthr.2.2⟩) (by exact Nat.le_of_ble_eq_true rfl) (by exact Nat.le_of_ble_eq_true rfl)) (fun w1 H locs hp hw hS => ?_)
  obtain ⟨hw9, hr9⟩ := hp
  rw [hw9] at hw
  obtain ⟨j, hj, rfl⟩ := sp_sl_of hr9
  refine lv_aload_n hx hb nd_S_hash_4 rfl (lv_at hl 0 rfl) ?_
  refine xw_get (T := nT_S) (N := 4) (ci := 4) hx hb hT nu_S hown hK.1 hw hh rfl 1 (by decide) (hT _ nh_fl_S_19) (fun _ h9 => h9) rfl nd_S_hash_5 ?_
  refine lv_iload_n hx hb nd_S_hash_8 rfl (lv_at hl 1 rfl) ?_
  obtain ⟨q, hg, hnb, s0, r, t, o, hSo⟩ := hsq j hj
  have hq := hSo.1
  refine xw_aald (y := q) hx hb hK.1 hw 3 hsl rfl (vp_in_nI (by omega) (by decide)) (by rw [nI_clamp (by omega)]; exact hg) nd_S_hash_9 ?_
  have hn3 : sz j ≤ 3000 := hSo.2.2.1
  refine lv_astore_n hx hb nd_S_hash_10 rfl hl (by decide) (lv' := [(2, .ref q), (0, .ref h), (1, .int (nI j))]) rfl (fun ls hl => ?_)
  refine lv_lconst (v := 1) hx hb nd_S_hash_11 (by decide) ?_
  refine lv_lstore_n hx hb nd_S_hash_12 rfl hl (by decide) (lv' := [(3, .long 1), (2, .ref q), (0, .ref h), (1, .int (nI j))]) rfl (fun ls hl => ?_)
  refine lv_iconst (v := 0) hx hb nd_S_hash_13 (by decide) ?_
  refine lv_istore hx hb nd_S_hash_14 hl (by decide) (lv' := [(5, .int 0), (3, .long 1), (2, .ref q), (0, .ref h), (1, .int (nI j))]) rfl (fun ls hl => ?_)
  rw [show (0 : Int32) = nI 0 from nI_0.symm] at hl
  have loop : ∀ (m9 i : Nat) (ls : Array Slot) (H : Heap) (locs : List Loc), m9 + i = sz j → lv_has ls 6 [(5, .int (nI i)), (3, .long (sp_hs (vs j) i)), (2, .ref q), (0, .ref h), (1, .int (nI j))] → g_P G w H → g_S G s.heap H locs → W p l e ({ frames := 8, cells := 16, slots := 200, locals := 160 }) s m [.ref h, .int (nI j)].toArray below meth c H locs (1) (6) (vx_MQ below (g_Ql G (fun v9 w' => sh_Post G w h e0 sl K (sp_hash (op, sz, vs) (nI j)) v9 w')) (g_X G (sh_T (op, sz, vs) w (sp_hash (op, sz, vs) (nI j)) [g_IAE])) [.ref h, .int (nI j)].toArray s 16 200 (xw_A (g_b G))) (F0 m 16 ls []) := by
    intro m9
    induction m9 with
    | zero =>
      intro i ls H locs hmi hl hw hS
      refine lv_iload hx hb nd_S_hash_16 (lv_at hl 0 rfl) ?_
      refine lv_aload_n hx hb nd_S_hash_18 rfl (lv_at hl 2 rfl) ?_
      refine xw_get (T := nT_Q) (N := 5) (ci := 3) hx hb hT nu_Q hown hK.1 hw hq rfl 4 (by decide) (hT _ nh_fl_S_46) (fun _ h9 => h9) rfl nd_S_hash_19 ?_
      refine lv_icmp_ge (tgt := 44) hx hb nd_S_hash_22 (by decide) (fun hc => ?_) (fun hc => ?_)
      · obtain rfl : i = sz j := by omega
        refine lv_lload_n hx hb nd_S_hash_44 rfl (lv_at hl 1 rfl) ?_
        exact vx_ret (g_lret hx hb hr hlocks hw hS (by rw [sp_hash_0 hj]; exact ⟨rfl, rfl, ⟨L, bd, g, by omega, hI⟩, sh_F.rf⟩) (by exact Nat.le_of_ble_eq_true rfl) (by exact Nat.le_of_ble_eq_true rfl) nd_S_hash_45)
      · exact absurd (nI_le (by omega) (by omega)) hc
    | succ m9 ih =>
      intro i ls H locs hmi hl hw hS
      refine lv_iload hx hb nd_S_hash_16 (lv_at hl 0 rfl) ?_
      refine lv_aload_n hx hb nd_S_hash_18 rfl (lv_at hl 2 rfl) ?_
      refine xw_get (T := nT_Q) (N := 5) (ci := 3) hx hb hT nu_Q hown hK.1 hw hq rfl 4 (by decide) (hT _ nh_fl_S_46) (fun _ h9 => h9) rfl nd_S_hash_19 ?_
      refine lv_icmp_ge (tgt := 44) hx hb nd_S_hash_22 (by decide) (fun hc => ?_) (fun hc => ?_)
      · exact absurd hc (nI_ge (by omega) (by omega))
      · refine lv_ldc2 hx hb hown (hT _ nh_kl_S_82) nd_S_hash_25 ?_
        refine lv_lload_n hx hb nd_S_hash_28 rfl (lv_at hl 1 rfl) ?_
        refine lv_lmul hx hb nd_S_hash_29 ?_
        refine lv_aload_n hx hb nd_S_hash_30 rfl (lv_at hl 2 rfl) ?_
        refine lv_iload hx hb nd_S_hash_31 (lv_at hl 0 rfl) ?_
        refine g_calll (va_runV (As := [.int (nI i)]) (rest := [.long (31 * (sp_hs (vs j) i))]) ⟨hx, hb, hml, hown, hts⟩ (c_Q_element l G w q r t o (sz j) i s0 hSo.2.1 hn3 (by omega) hq hSo.2.2.2.1 hSo.2.2.2.2.1) (cwV (C := nR_Q) 1 hts (nw_of (nw_4 nh_ml_S_56 nh_im_Q_element nh_se_Q_element nh_in_Q nh_co_Q_element)) rfl rfl rfl (by decide +kernel) ⟨Nat.le_of_ble_eq_true rfl, Nat.le_of_ble_eq_true rfl⟩) (g_preV (ci := 3) (q := (nR_Q, nT_Q, 5)) hK hw hS rfl hq _) rfl rfl hl.1 rfl (lv_room (Nat.le_of_ble_eq_true rfl)) nd_S_hash_33 ⟨by exact Nat.le_of_ble_eq_true rfl, by exact Nat.le_of_ble_eq_true rfl⟩) hS (fun v9 w2 H locs hp hw hS => ?_)
        obtain ⟨rfl, hw9⟩ := hp
        rw [hw9] at hw
        refine lv_topl (fun y3 ey4 => ?_)
        obtain rfl : y3 = vs j i := ey4.trans (hSo.2.2.2.2.2.2 i (by omega))
        refine lv_ladd hx hb nd_S_hash_36 ?_
        refine lv_lstore_n hx hb nd_S_hash_37 rfl hl (by decide) (lv' := [(3, .long ((31 * (sp_hs (vs j) i)) + (vs j i))), (5, .int (nI i)), (2, .ref q), (0, .ref h), (1, .int (nI j))]) rfl (fun ls hl => ?_)
        refine lv_iinc (k := 1) hx hb nd_S_hash_38 hl rfl rfl (by decide) (lv' := [(5, .int ((nI i) + 1)), (3, .long ((31 * (sp_hs (vs j) i)) + (vs j i))), (2, .ref q), (0, .ref h), (1, .int (nI j))]) rfl (fun ls hl => ?_)
        rw [nI_1] at hl
        refine lv_goto (tgt := 16) hx hb nd_S_hash_41 (by decide) ?_
        exact ih (i + 1) ls H locs (by omega) hl hw hS
  exact loop (sz j) 0 ls H locs (by omega) hl hw hS

set_option maxHeartbeats 4000000 in
set_option maxRecDepth 100000 in
theorem c_S_fill (l : Launch) (hl9 : l.stackTraces = false) (G : g_G) (w : xw_W) (h e0 sl K : Nat) (S : sp_S) (hSt : sh_S G w h e0 sl S K) (hK9 : K + 1 < 2 ^ 31) (a : Int32) (x0 st : Int64) (n : Int32) : vx_Met l ny_S_fill nw_S_fill ({ frames := 8, cells := 400, slots := 6500, locals := 160 }) (g_Pc G w [.ref h, .int a, .long x0, .long st, .int n]) (g_Qi G (fun v9 w' => sh_Post G w h e0 sl K (sp_fill S a x0 st n) v9.toInt64 w')) (g_X G (sh_T S w (sp_fill S a x0 st n) [g_IAE])) 400 6500 (xw_A (g_b G)) := by
  refine g_xmet (by decide) (Nat.le_of_ble_eq_true rfl) rfl ?_
  intro p e s m below meth c ls hx hb hr hts hown hlocks hne hml hl hK hB hw hS
  have hT : ∀ w ∈ nw_T, w.before _ s = true := fun w h => hts w (List.mem_cons_of_mem _ h)
  have hown : s.vm.findClass "RadixShelf" = some m.cls := hown
  have hl : lv_has ls 11 [(0, .ref h), (1, .int a), (2, .long x0), (4, .long st), (6, .int n)] := hl
  obtain ⟨op, sz, vs⟩ := S
  obtain ⟨L, bd, g, hLK, hI⟩ := hSt
  have hI : sh_I G w h e0 sl op sz vs L bd g := hI
  obtain ⟨hh, hsl, hW, hfr, hop, hsq, he0, hbd⟩ := id hI
  refine lv_iload_n hx hb nd_S_fill_0 rfl (lv_at hl 1 rfl) ?_
  refine g_xcallv (vx_runS (As := [.int a]) (rest := []) ⟨hx, hb, hml, hown, hts⟩ (c_S_checkSlot l hl9 G w a) (cwS 1 hts (nw_of (nw_3 nh_ml_S_30 nh_st_S_checkSlot nh_in_S nh_co_S_checkSlot)) rfl rfl rfl (by decide +kernel) ⟨Nat.le_of_ble_eq_true rfl, Nat.le_of_ble_eq_true rfl⟩) (g_preS hK hw hS _) rfl rfl hl.1 rfl (lv_room (Nat.le_of_ble_eq_true rfl)) nd_S_fill_1 ⟨by exact Nat.le_of_ble_eq_true rfl, by exact Nat.le_of_ble_eq_true rfl⟩) hS (fun E ce q9 w1 H locs hthr hw hS h1 h2 h3 => g_out hne hlocks hw hS h1 h2 h3 (⟨hthr.2.1, 0, by rw [hthr.1]; rfl, sp_fill_1 (Or.inl hthr.2.2)⟩) (by exact Nat.le_of_ble_eq_true rfl) (by exact Nat.le_of_ble_eq_true rfl)) (fun w1 H locs hp hw hS => ?_)
  obtain ⟨hw9, hr9⟩ := hp
  rw [hw9] at hw
  obtain ⟨i0, hi0, rfl⟩ := sp_sl_of hr9
  refine lv_iload hx hb nd_S_fill_4 (lv_at hl 4 rfl) ?_
  refine lv_iconst (v := 0) hx hb nd_S_fill_6 (by decide) ?_
  refine lv_sipush (v := 2000) hx hb nd_S_fill_7 (by decide) ?_
  refine g_xcallv (vx_runS (As := [.int n, .int 0, .int 2000]) (rest := []) ⟨hx, hb, hml, hown, hts⟩ (c_S_checkRange l hl9 G w n 0 2000) (cwS 3 hts (nw_of (nw_3 nh_ml_S_78 nh_st_S_checkRange nh_in_S nh_co_S_checkRange)) rfl rfl rfl (by decide +kernel) ⟨Nat.le_of_ble_eq_true rfl, Nat.le_of_ble_eq_true rfl⟩) (g_preS hK hw hS _) rfl rfl hl.1 rfl (lv_room (Nat.le_of_ble_eq_true rfl)) nd_S_fill_10 ⟨by exact Nat.le_of_ble_eq_true rfl, by exact Nat.le_of_ble_eq_true rfl⟩) hS (fun E ce q9 w2 H locs hthr hw hS h1 h2 h3 => g_out hne hlocks hw hS h1 h2 h3 (⟨hthr.2.1, 0, by rw [hthr.1]; rfl, sp_fill_1 (Or.inr hthr.2.2)⟩) (by exact Nat.le_of_ble_eq_true rfl) (by exact Nat.le_of_ble_eq_true rfl)) (fun w2 H locs hp hw hS => ?_)
  obtain ⟨hw9, hr9⟩ := hp
  rw [hw9] at hw
  obtain ⟨y, hy, rfl⟩ := nI_of2 (n := 2000) (by decide) (Int32.not_lt.mpr hr9.1) hr9.2
  obtain ⟨hne0, s0, r, t, hSo⟩ := he0
  have hq := hSo.1
  refine lv_aload_n hx hb nd_S_fill_13 rfl (lv_at hl 0 rfl) ?_
  refine lv_aload_n hx hb nd_S_fill_14 rfl (lv_at hl 0 rfl) ?_
  refine xw_get (T := nT_S) (N := 4) (ci := 4) hx hb hT nu_S hown hK.1 hw hh rfl 0 (by decide) (hT _ nh_fl_S_13) (fun _ h9 => h9) rfl nd_S_fill_15 ?_
  refine g_callr (va_runV (As := [.ref e0]) (rest := []) ⟨hx, hb, hml, hown, hts⟩ (c_S_draftOf l G w h e0 sl L e0 r t (bd.map (·.1)) s0 (nI 0) (nI 0) hh hq) (cwV (C := nR_S) 1 hts (nw_of (nw_4 nh_ml_S_38 nh_im_S_draftOf nh_se_S_draftOf nh_in_S nh_co_S_draftOf)) rfl rfl rfl (by decide +kernel) ⟨Nat.le_of_ble_eq_true rfl, Nat.le_of_ble_eq_true rfl⟩) (g_preV (ci := 4) (q := (nR_S, nT_S, 4)) hK hw hS rfl hh _) rfl rfl hl.1 rfl (lv_room (Nat.le_of_ble_eq_true rfl)) nd_S_fill_18 ⟨by exact Nat.le_of_ble_eq_true rfl, by exact Nat.le_of_ble_eq_true rfl⟩) hS (fun qn w3 H locs hp hw hS => ?_)
  obtain ⟨hn, e1⟩ := hp
  obtain ⟨D1, v1, o1⟩ := sh_draft hI (by omega) hSo hn e1
  have hhA : w3 h = some (.inr (4, [.ref e0, .ref sl, va_rf (bd.map (·.1)), .int (nI (L + 1))])) := by rw [e1, va_up_ne _ _ (xw_nn hh hn)]; exact va_up_self _ _ _
  have hslA : w3 sl = some (.inl (G.2.1 3, 16, .inr (.inr (.inr (.inr g))))) := by rw [e1, va_up_ne _ _ (xw_nn hsl hn), va_up_ne _ _ (tr_ne_kind hsl hh)]; exact hsl
  refine lv_astore hx hb nd_S_fill_21 hl (by decide) (lv' := [(7, .ref qn), (0, .ref h), (1, .int (nI i0)), (2, .long x0), (4, .long st), (6, .int (nI y))]) rfl (fun ls hl => ?_)
  refine lv_lload_n hx hb nd_S_fill_23 rfl (lv_at hl 3 rfl) ?_
  refine lv_lstore hx hb nd_S_fill_24 hl (by decide) (lv' := [(8, .long x0), (7, .ref qn), (0, .ref h), (1, .int (nI i0)), (2, .long x0), (4, .long st), (6, .int (nI y))]) rfl (fun ls hl => ?_)
  refine lv_iconst (v := 0) hx hb nd_S_fill_26 (by decide) ?_
  refine lv_istore hx hb nd_S_fill_27 hl (by decide) (lv' := [(10, .int 0), (8, .long x0), (7, .ref qn), (0, .ref h), (1, .int (nI i0)), (2, .long x0), (4, .long st), (6, .int (nI y))]) rfl (fun ls hl => ?_)
  have ex0 : x0 = x0 + lN 0 * st := by rw [show lN 0 = 0 from rfl, Int64.zero_mul, Int64.add_zero]
  have loop : ∀ (m9 i r t : Nat) (wl : xw_W) (ls : Array Slot) (H : Heap) (locs : List Loc), m9 + i = y → tr_Df (G.2.1 0) (G.2.1 1) (G.2.1 2) (L + 1) (L + 1) (sh_Z bd) wl qn r t 0 i → tr_Kp (L + 1) qn w3 wl → (∀ z, z < i → tr_vl wl r t (tr_tb 0 i) ((0 + z) % 32768) = x0 + lN z * st) → (0 < i → tr_stp wl t = nI (L + 1)) → lv_has ls 11 [(10, .int (nI i)), (8, .long (x0 + lN i * st)), (7, .ref qn), (0, .ref h), (1, .int (nI i0)), (2, .long x0), (4, .long st), (6, .int (nI y))] → g_P G wl H → g_S G s.heap H locs → W p l e ({ frames := 8, cells := 400, slots := 6500, locals := 160 }) s m [.ref h, .int (nI i0), .long x0, .long st, .int (nI y)].toArray below meth c H locs (3 + 6 * ((i + 31) / 32)) (17 + 102 * ((i + 31) / 32)) (vx_MQ below (g_Qi G (fun v9 w' => sh_Post G w h e0 sl K (sp_fill (op, sz, vs) (nI i0) x0 st (nI y)) v9.toInt64 w')) (g_X G (sh_T (op, sz, vs) w (sp_fill (op, sz, vs) (nI i0) x0 st (nI y)) [g_IAE])) [.ref h, .int (nI i0), .long x0, .long st, .int (nI y)].toArray s 400 6500 (xw_A (g_b G))) (F0 m 29 ls []) := by
    intro m9
    induction m9 with
    | zero =>
      intro i r t wl ls H locs hmi D2 K2 V2 s2 hl hw hS
      have hqB := D2.2.2.1
      refine lv_iload hx hb nd_S_fill_29 (lv_at hl 0 rfl) ?_
      refine lv_iload hx hb nd_S_fill_31 (lv_at hl 7 rfl) ?_
      refine lv_icmp_ge (tgt := 56) hx hb nd_S_fill_33 (by decide) (fun hc => ?_) (fun hc => ?_)
      · obtain rfl : i = y := by omega
        have hhB := K2.1 _ _ hhA (xw_nn hh hn) (o1 h)
        have hslB := K2.1 _ _ hslA (xw_nn hsl hn) (o1 sl)
        refine lv_aload_n hx hb nd_S_fill_56 rfl (lv_at hl 3 rfl) ?_
        refine xw_get (T := nT_S) (N := 4) (ci := 4) hx hb hT nu_S hown hK.1 hw hhB rfl 1 (by decide) (hT _ nh_fl_S_19) (fun _ h9 => h9) rfl nd_S_fill_57 ?_
        refine lv_iload_n hx hb nd_S_fill_60 rfl (lv_at hl 4 rfl) ?_
        refine lv_aload hx hb nd_S_fill_61 (lv_at hl 2 rfl) ?_
        refine xw_aast (r := (nR_Q, nT_Q, 5)) hx hb hK.1 hB hw hS 3 3 hslB rfl hqB rfl (vp_in_nI (by omega) (by decide)) nd_S_fill_63 (fun H locs hw hS => ?_)
        rw [nI_clamp (by omega)] at hw
        obtain ⟨w4, ew5⟩ : ∃ z, z = va_up wl sl (some (.inl (G.2.1 3, 16, .inr (.inr (.inr (.inr (va_up g i0 (some qn)))))))) := ⟨_, rfl⟩
        have hw : g_P G w4 H := by rw [ew5]; exact hw
        have hhB : w4 h = some (.inr (4, [.ref e0, .ref sl, va_rf (bd.map (·.1)), .int (nI (L + 1))])) := by rw [ew5, va_up_ne _ _ (xw_ne hhB hslB (by simp))]; exact hhB
        have hqB : w4 qn = some (.inr (3, [.int (nI (L + 1)), .ref r, .ref t, .int (nI 0), .int (nI i)])) := by rw [ew5, va_up_ne _ _ (xw_ne hqB hslB (by simp))]; exact hqB
        have hslB : w4 sl = some (.inl (G.2.1 3, 16, .inr (.inr (.inr (.inr (va_up g i0 (some qn))))))) := by rw [ew5]; exact va_up_self _ _ _
        obtain ⟨hC, hF⟩ := sh_call (f' := fun z => x0 + lN z * st) hI hn e1 o1 K2 D2 V2 ew5 hi0
        refine lv_iload hx hb nd_S_fill_64 (lv_at hl 7 rfl) ?_
        exact vx_ret (g_iret hx hb hr hlocks hw hS (by rw [sp_fill_0 hi0 hy]; exact ⟨rfl, rfl, ⟨L + 1, bd, _, by omega, hC⟩, hF⟩) (by first | omega | (show _ ≤ 400; omega) | (show _ ≤ 6500; omega)) (by first | omega | (show _ ≤ 400; omega) | (show _ ≤ 6500; omega)) nd_S_fill_66)
      · exact absurd (nI_le (by omega) (by omega)) hc
    | succ m9 ih =>
      intro i r t wl ls H locs hmi D2 K2 V2 s2 hl hw hS
      have hqB := D2.2.2.1
      refine lv_iload hx hb nd_S_fill_29 (lv_at hl 0 rfl) ?_
      refine lv_iload hx hb nd_S_fill_31 (lv_at hl 7 rfl) ?_
      refine lv_icmp_ge (tgt := 56) hx hb nd_S_fill_33 (by decide) (fun hc => ?_) (fun hc => ?_)
      · exact absurd hc (nI_ge (by omega) (by omega))
      · refine lv_aload hx hb nd_S_fill_36 (lv_at hl 2 rfl) ?_
        refine lv_lload hx hb nd_S_fill_38 (lv_at hl 1 rfl) ?_
        by_cases h32 : i % 32 = 0
        · refine g_callv (va_runV (As := [.long (x0 + lN i * st)]) (rest := []) ⟨hx, hb, hml, hown, hts⟩ (c_Q_append l G wl (L + 1) (L + 1) qn r t 0 i (x0 + lN i * st) D2 (by omega)) (cwV (C := nR_Q) 1 hts (nw_of (nw_4 nh_ml_S_42 nh_im_Q_append nh_se_Q_append nh_in_Q nh_co_Q_append)) rfl rfl rfl (by decide +kernel) ⟨Nat.le_of_ble_eq_true rfl, Nat.le_of_ble_eq_true rfl⟩) (g_preV (ci := 3) (q := (nR_Q, nT_Q, 5)) hK hw hS rfl hqB _) rfl rfl hl.1 rfl (lv_room (Nat.le_of_ble_eq_true rfl)) nd_S_fill_40 ⟨by first | omega | (show _ ≤ 400; omega) | (show _ ≤ 6500; omega), by first | omega | (show _ ≤ 400; omega) | (show _ ≤ 6500; omega)⟩) hS (fun w4 H locs hp hw hS => ?_)
          obtain ⟨r1, t1, D3, K3, V3, s3⟩ := hp
          have V4 : ∀ z, z < i + 1 → tr_vl w4 r1 t1 (tr_tb 0 (i + 1)) ((0 + z) % 32768) = x0 + lN z * st := fun z hz => by
            rw [sh_app (by omega) V3 V2 z hz]
            by_cases ez : z = i
            · rw [ez, va_up_self]
            · rw [va_up_ne _ _ ez]
          refine lv_lload hx hb nd_S_fill_43 (lv_at hl 1 rfl) ?_
          refine lv_lload hx hb nd_S_fill_45 (lv_at hl 6 rfl) ?_
          refine lv_ladd hx hb nd_S_fill_47 ?_
          refine lv_topl (fun y5 ey6 => ?_)
          obtain rfl : y5 = x0 + lN (i + 1) * st := ey6.trans (sp_nx x0 st i)
          refine lv_lstore hx hb nd_S_fill_48 hl (by decide) (lv' := [(8, .long (x0 + lN (i + 1) * st)), (10, .int (nI i)), (7, .ref qn), (0, .ref h), (1, .int (nI i0)), (2, .long x0), (4, .long st), (6, .int (nI y))]) rfl (fun ls hl => ?_)
          refine lv_iinc (k := 1) hx hb nd_S_fill_50 hl rfl rfl (by decide) (lv' := [(10, .int ((nI i) + 1)), (8, .long (x0 + lN (i + 1) * st)), (7, .ref qn), (0, .ref h), (1, .int (nI i0)), (2, .long x0), (4, .long st), (6, .int (nI y))]) rfl (fun ls hl => ?_)
          rw [nI_1] at hl
          refine lv_goto (tgt := 29) hx hb nd_S_fill_53 (by decide) ?_
          refine W.widen (k := 3 + 6 * ((i + 1 + 31) / 32)) (n := 17 + 102 * ((i + 1 + 31) / 32)) (by omega) (by omega) ?_
          exact ih (i + 1) r1 t1 w4 ls H locs (by omega) D3 (K2.tr K3) V4 (fun _ => s3) hl hw hS
        · refine g_callv (va_runV (As := [.long (x0 + lN i * st)]) (rest := []) ⟨hx, hb, hml, hown, hts⟩ (c_Q_append0 l G wl (L + 1) (L + 1) qn r t 0 i (x0 + lN i * st) D2 (by omega) (tr_tb0 (by omega) h32) (s2 (by omega))) (cwV (C := nR_Q) 1 hts (nw_of (nw_4 nh_ml_S_42 nh_im_Q_append nh_se_Q_append nh_in_Q nh_co_Q_append)) rfl rfl rfl (by decide +kernel) ⟨Nat.le_of_ble_eq_true rfl, Nat.le_of_ble_eq_true rfl⟩) (g_preV (ci := 3) (q := (nR_Q, nT_Q, 5)) hK hw hS rfl hqB _) rfl rfl hl.1 rfl (lv_room (Nat.le_of_ble_eq_true rfl)) nd_S_fill_40 ⟨by first | omega | (show _ ≤ 400; omega) | (show _ ≤ 6500; omega), by first | omega | (show _ ≤ 400; omega) | (show _ ≤ 6500; omega)⟩) hS (fun w4 H locs hp hw hS => ?_)
          obtain ⟨r1, t1, D3, K3, V3, s3⟩ := hp
          have V4 : ∀ z, z < i + 1 → tr_vl w4 r1 t1 (tr_tb 0 (i + 1)) ((0 + z) % 32768) = x0 + lN z * st := fun z hz => by
            rw [sh_app (by omega) V3 V2 z hz]
            by_cases ez : z = i
            · rw [ez, va_up_self]
            · rw [va_up_ne _ _ ez]
          refine lv_lload hx hb nd_S_fill_43 (lv_at hl 1 rfl) ?_
          refine lv_lload hx hb nd_S_fill_45 (lv_at hl 6 rfl) ?_
          refine lv_ladd hx hb nd_S_fill_47 ?_
          refine lv_topl (fun y5 ey6 => ?_)
          obtain rfl : y5 = x0 + lN (i + 1) * st := ey6.trans (sp_nx x0 st i)
          refine lv_lstore hx hb nd_S_fill_48 hl (by decide) (lv' := [(8, .long (x0 + lN (i + 1) * st)), (10, .int (nI i)), (7, .ref qn), (0, .ref h), (1, .int (nI i0)), (2, .long x0), (4, .long st), (6, .int (nI y))]) rfl (fun ls hl => ?_)
          refine lv_iinc (k := 1) hx hb nd_S_fill_50 hl rfl rfl (by decide) (lv' := [(10, .int ((nI i) + 1)), (8, .long (x0 + lN (i + 1) * st)), (7, .ref qn), (0, .ref h), (1, .int (nI i0)), (2, .long x0), (4, .long st), (6, .int (nI y))]) rfl (fun ls hl => ?_)
          rw [nI_1] at hl
          refine lv_goto (tgt := 29) hx hb nd_S_fill_53 (by decide) ?_
          refine W.widen (k := 3 + 6 * ((i + 1 + 31) / 32)) (n := 17 + 102 * ((i + 1 + 31) / 32)) (by omega) (by omega) ?_
          exact ih (i + 1) r1 t1 w4 ls H locs (by omega) D3 (K2.tr K3) V4 (fun _ => s3) hl hw hS
  refine loop y 0 r t w3 ls H locs (by omega) D1 tr_Kp.rf (fun z hz => absurd hz (by omega)) (fun z => absurd z (by omega)) ?_ hw hS
  rw [← ex0]
  exact hl
