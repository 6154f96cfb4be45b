theorem sp_cmp {a b : Nat} (ha : a < 2 ^ 63) (hb : b < 2 ^ 63) : lg_cmp (lN a) (lN b) ≤ 0 ↔ a ≤ b := by
  unfold lg_cmp
  by_cases h1 : lN a > lN b
  · have h2 := (pk_lLT hb ha).mp h1
    rw [if_pos h1]
    exact ⟨fun z => absurd z (by decide), fun z => by omega⟩
  · have h2 : ¬ b < a := fun z => h1 ((pk_lLT hb ha).mpr z)
    rw [if_neg h1]
    by_cases h3 : lN a = lN b
    · rw [if_pos h3]; exact ⟨fun _ => by omega, fun _ => by decide⟩
    · rw [if_neg h3]; exact ⟨fun _ => by omega, fun _ => by decide⟩

set_option maxHeartbeats 4000000 in
set_option maxRecDepth 100000 in
theorem c_S_cut (l : Launch) (hl9 : l.stackTraces = false) (G : g_G) (w : xw_W) (h e0 sl K : Nat) (S : sp_S) (hSt : sh_S G w h e0 sl S K) (hK9 : K + 1 < 2 ^ 31) (a b f k : Int32) : vx_Met l ny_S_cut nw_S_cut ({ frames := 8, cells := 16, slots := 200, locals := 160 }) (g_Pc G w [.ref h, .int a, .int b, .int f, .int k]) (g_Qi G (fun v9 w' => sh_Post G w h e0 sl K (sp_cut S a b f k) v9.toInt64 w')) (g_X G (sh_T S w (sp_cut S a b f k) [g_IAE, g_NSE])) 16 200 (xw_A (g_b G)) := by
  refine g_xmet (by decide) (Nat.le_of_ble_eq_true rfl) rfl ?_
  intro p e s m below meth c ls hx hb hr hts hown hlocks hne hml hl hK hB hw hS
  have hT : ∀ w ∈ nw_T, w.before _ s = true := fun w h => hts w (List.mem_cons_of_mem _ h)
  have hown : s.vm.findClass "RadixShelf" = some m.cls := hown
  have hl : lv_has ls 6 [(0, .ref h), (1, .int a), (2, .int b), (3, .int f), (4, .int k)] := hl
  obtain ⟨op, sz, vs⟩ := S
  obtain ⟨L, bd, g, hLK, hI⟩ := hSt
  have hI : sh_I G w h e0 sl op sz vs L bd g := hI
  obtain ⟨hh, hsl, hW, hfr, hop, hsq, he0, hbd⟩ := id hI
  refine lv_iload_n hx hb nd_S_cut_0 rfl (lv_at hl 1 rfl) ?_
  refine g_xcallv (vx_runS (As := [.int a]) (rest := []) ⟨hx, hb, hml, hown, hts⟩ (c_S_checkSlot l hl9 G w a) (cwS 1 hts (nw_of (nw_3 nh_ml_S_30 nh_st_S_checkSlot nh_in_S nh_co_S_checkSlot)) rfl rfl rfl (by decide +kernel) ⟨Nat.le_of_ble_eq_true rfl, Nat.le_of_ble_eq_true rfl⟩) (g_preS hK hw hS _) rfl rfl hl.1 rfl (lv_room (Nat.le_of_ble_eq_true rfl)) nd_S_cut_1 ⟨by exact Nat.le_of_ble_eq_true rfl, by exact Nat.le_of_ble_eq_true rfl⟩) hS (fun E ce q9 w1 H locs hthr hw hS h1 h2 h3 => g_out hne hlocks hw hS h1 h2 h3 (⟨hthr.2.1, 0, by rw [hthr.1]; rfl, sp_cut_1 (Or.inl hthr.2.2)⟩) (by exact Nat.le_of_ble_eq_true rfl) (by exact Nat.le_of_ble_eq_true rfl)) (fun w1 H locs hp hw hS => ?_)
  obtain ⟨hw9, hr9⟩ := hp
  rw [hw9] at hw
  obtain ⟨i, hi, rfl⟩ := sp_sl_of hr9
  refine lv_iload_n hx hb nd_S_cut_4 rfl (lv_at hl 2 rfl) ?_
  refine g_xcallv (vx_runS (As := [.int b]) (rest := []) ⟨hx, hb, hml, hown, hts⟩ (c_S_checkSlot l hl9 G w b) (cwS 1 hts (nw_of (nw_3 nh_ml_S_30 nh_st_S_checkSlot nh_in_S nh_co_S_checkSlot)) rfl rfl rfl (by decide +kernel) ⟨Nat.le_of_ble_eq_true rfl, Nat.le_of_ble_eq_true rfl⟩) (g_preS hK hw hS _) rfl rfl hl.1 rfl (lv_room (Nat.le_of_ble_eq_true rfl)) nd_S_cut_5 ⟨by exact Nat.le_of_ble_eq_true rfl, by exact Nat.le_of_ble_eq_true rfl⟩) hS (fun E ce q9 w2 H locs hthr hw hS h1 h2 h3 => g_out hne hlocks hw hS h1 h2 h3 (⟨hthr.2.1, 0, by rw [hthr.1]; rfl, sp_cut_1 (Or.inr (Or.inl hthr.2.2))⟩) (by exact Nat.le_of_ble_eq_true rfl) (by exact Nat.le_of_ble_eq_true rfl)) (fun w2 H locs hp hw hS => ?_)
  obtain ⟨hw9, hr9⟩ := hp
  rw [hw9] at hw
  obtain ⟨j, hj, rfl⟩ := sp_sl_of hr9
  refine lv_iload_n hx hb nd_S_cut_8 rfl (lv_at hl 3 rfl) ?_
  refine g_xcallv (vx_runS (As := [.int f]) (rest := []) ⟨hx, hb, hml, hown, hts⟩ (c_S_checkNotNegative l hl9 G w f) (cwS 1 hts (nw_of (nw_3 nh_ml_S_64 nh_st_S_checkNotNegative nh_in_S nh_co_S_checkNotNegative)) rfl rfl rfl (by decide +kernel) ⟨Nat.le_of_ble_eq_true rfl, Nat.le_of_ble_eq_true rfl⟩) (g_preS hK hw hS _) rfl rfl hl.1 rfl (lv_room (Nat.le_of_ble_eq_true rfl)) nd_S_cut_9 ⟨by exact Nat.le_of_ble_eq_true rfl, by exact Nat.le_of_ble_eq_true rfl⟩) hS (fun E ce q9 w3 H locs hthr hw hS h1 h2 h3 => g_out hne hlocks hw hS h1 h2 h3 (⟨hthr.2.1, 0, by rw [hthr.1]; rfl, sp_cut_1 (Or.inr (Or.inr (Or.inl hthr.2.2)))⟩) (by exact Nat.le_of_ble_eq_true rfl) (by exact Nat.le_of_ble_eq_true rfl)) (fun w3 H locs hp hw hS => ?_)
  obtain ⟨hw9, hr9⟩ := hp
  rw [hw9] at hw
  obtain ⟨x, hx1, rfl⟩ := nI_of (Int32.not_lt.mpr hr9)
  refine lv_iload hx hb nd_S_cut_12 (lv_at hl 4 rfl) ?_
  refine g_xcallv (vx_runS (As := [.int k]) (rest := []) ⟨hx, hb, hml, hown, hts⟩ (c_S_checkNotNegative l hl9 G w k) (cwS 1 hts (nw_of (nw_3 nh_ml_S_64 nh_st_S_checkNotNegative nh_in_S nh_co_S_checkNotNegative)) rfl rfl rfl (by decide +kernel) ⟨Nat.le_of_ble_eq_true rfl, Nat.le_of_ble_eq_true rfl⟩) (g_preS hK hw hS _) rfl rfl hl.1 rfl (lv_room (Nat.le_of_ble_eq_true rfl)) nd_S_cut_14 ⟨by exact Nat.le_of_ble_eq_true rfl, by exact Nat.le_of_ble_eq_true rfl⟩) hS (fun E ce q9 w4 H locs hthr hw hS h1 h2 h3 => g_out hne hlocks hw hS h1 h2 h3 (⟨hthr.2.1, 0, by rw [hthr.1]; rfl, sp_cut_1 (Or.inr (Or.inr (Or.inr hthr.2.2)))⟩) (by exact Nat.le_of_ble_eq_true rfl) (by exact Nat.le_of_ble_eq_true rfl)) (fun w4 H locs hp hw hS => ?_)
  obtain ⟨hw9, hr9⟩ := hp
  rw [hw9] at hw
  obtain ⟨y, hy1, rfl⟩ := nI_of (Int32.not_lt.mpr hr9)
  refine lv_iload_n hx hb nd_S_cut_17 rfl (lv_at hl 3 rfl) ?_
  refine lv_i2l hx hb nd_S_cut_18 rfl ?_
  refine lv_iload hx hb nd_S_cut_19 (lv_at hl 4 rfl) ?_
  refine lv_i2l hx hb nd_S_cut_21 rfl ?_
  refine lv_ladd hx hb nd_S_cut_22 ?_
  refine lv_topl (fun y5 ey6 => ?_)
  obtain rfl : y5 = lN (x + y) := ey6.trans (by rw [nI_l hx1, nI_l hy1, lN_add])
  refine lv_aload_n hx hb nd_S_cut_23 rfl (lv_at hl 0 rfl) ?_
  refine xw_get (T := nT_S) (N := 4) (ci := 4) hx hb hT nu_S hown hK.1 hw hh rfl 1 (by decide) (hT _ nh_fl_S_19) (fun _ h9 => h9) rfl nd_S_cut_24 ?_
  refine lv_iload_n hx hb nd_S_cut_27 rfl (lv_at hl 2 rfl) ?_
  obtain ⟨q, hg, hnb, s0, r, t, o, hSo⟩ := hsq j hj
  have hq := hSo.1
  refine xw_aald (y := q) hx hb hK.1 hw 3 hsl rfl (vp_in_nI (by omega) (by decide)) (by rw [nI_clamp (by omega)]; exact hg) nd_S_cut_28 ?_
  have hn3 : sz j ≤ 3000 := hSo.2.2.1
  refine xw_get (T := nT_Q) (N := 5) (ci := 3) hx hb hT nu_Q hown hK.1 hw hq rfl 4 (by decide) (hT _ nh_fl_S_46) (fun _ h9 => h9) rfl nd_S_cut_29 ?_
  refine lv_i2l hx hb nd_S_cut_32 rfl ?_
  refine lv_topl (fun y7 ey8 => ?_)
  obtain rfl : y7 = lN (sz j) := ey8.trans (nI_l (by omega))
  refine W.lcmp hx hb nd_S_cut_33 ?_
  refine lv_if_le (tgt := 47) hx hb nd_S_cut_34 (by decide) (fun hc => ?_) (fun hc => ?_)
  · have hs : x + y ≤ sz j := (sp_cmp (by omega) (by omega)).mp hc
    refine lv_aload_n hx hb nd_S_cut_47 rfl (lv_at hl 0 rfl) ?_
    refine lv_aload_n hx hb nd_S_cut_48 rfl (lv_at hl 0 rfl) ?_
    refine xw_get (T := nT_S) (N := 4) (ci := 4) hx hb hT nu_S hown hK.1 hw hh rfl 1 (by decide) (hT _ nh_fl_S_19) (fun _ h9 => h9) rfl nd_S_cut_49 ?_
    refine lv_iload_n hx hb nd_S_cut_52 rfl (lv_at hl 2 rfl) ?_
    refine xw_aald (y := q) hx hb hK.1 hw 3 hsl rfl (vp_in_nI (by omega) (by decide)) (by rw [nI_clamp (by omega)]; exact hg) nd_S_cut_53 ?_
    refine g_callr (va_runV (As := [.ref q]) (rest := []) ⟨hx, hb, hml, hown, hts⟩ (c_S_draftOf l G w h e0 sl L q r t (bd.map (·.1)) s0 (nI o) (nI (sz j)) hh hq) (cwV (C := nR_S) 1 hts (nw_of (nw_4 nh_ml_S_38 nh_im_S_draftOf nh_se_S_draftOf nh_in_S nh_co_S_draftOf)) rfl rfl rfl (by decide +kernel) ⟨Nat.le_of_ble_eq_true rfl, Nat.le_of_ble_eq_true rfl⟩) (g_preV (ci := 4) (q := (nR_S, nT_S, 4)) hK hw hS rfl hh _) rfl rfl hl.1 rfl (lv_room (Nat.le_of_ble_eq_true rfl)) nd_S_cut_54 ⟨by exact Nat.le_of_ble_eq_true rfl, by exact Nat.le_of_ble_eq_true rfl⟩) hS (fun qn w9 H locs hp hw hS => ?_)
    obtain ⟨hn, e1⟩ := hp
    obtain ⟨D1, v1, o1⟩ := sh_draft hI (by omega) hSo hn e1
    have hhA : w9 h = some (.inr (4, [.ref e0, .ref sl, va_rf (bd.map (·.1)), .int (nI (L + 1))])) := by rw [e1, va_up_ne _ _ (xw_nn hh hn)]; exact va_up_self _ _ _
    have hslA : w9 sl = some (.inl (G.2.1 3, 16, .inr (.inr (.inr (.inr g))))) := by rw [e1, va_up_ne _ _ (xw_nn hsl hn), va_up_ne _ _ (tr_ne_kind hsl hh)]; exact hsl
    have hqA := D1.2.2.1
    refine lv_astore hx hb nd_S_cut_57 hl (by decide) (lv' := [(5, .ref qn), (0, .ref h), (1, .int (nI i)), (2, .int (nI j)), (3, .int (nI x)), (4, .int (nI y))]) rfl (fun ls hl => ?_)
    refine lv_aload hx hb nd_S_cut_59 (lv_at hl 0 rfl) ?_
    refine lv_iload_n hx hb nd_S_cut_61 rfl (lv_at hl 4 rfl) ?_
    refine lv_iload hx hb nd_S_cut_62 (lv_at hl 5 rfl) ?_
    refine g_callv (va_runV (As := [.int (nI x), .int (nI y)]) (rest := []) ⟨hx, hb, hml, hown, hts⟩ (c_Q_trim l G w9 (L + 1) (L + 1) qn r t o (sz j) x y D1 hs) (cwV (C := nR_Q) 2 hts (nw_of (nw_4 nh_ml_S_74 nh_im_Q_trim nh_se_Q_trim nh_in_Q nh_co_Q_trim)) rfl rfl rfl (by decide +kernel) ⟨Nat.le_of_ble_eq_true rfl, Nat.le_of_ble_eq_true rfl⟩) (g_preV (ci := 3) (q := (nR_Q, nT_Q, 5)) hK hw hS rfl hqA _) rfl rfl hl.1 rfl (lv_room (Nat.le_of_ble_eq_true rfl)) nd_S_cut_64 ⟨by exact Nat.le_of_ble_eq_true rfl, by exact Nat.le_of_ble_eq_true rfl⟩) hS (fun w10 H locs hp hw hS => ?_)
    obtain ⟨t1, D2, K2, V2⟩ := hp
    have hhB := K2.1 _ _ hhA (xw_nn hh hn) (o1 h)
    have hslB := K2.1 _ _ hslA (xw_nn hsl hn) (o1 sl)
    have hqB := D2.2.2.1
    refine lv_aload_n hx hb nd_S_cut_67 rfl (lv_at hl 1 rfl) ?_
    refine xw_get (T := nT_S) (N := 4) (ci := 4) hx hb hT nu_S hown hK.1 hw hhB rfl 1 (by decide) (hT _ nh_fl_S_19) (fun _ h9 => h9) rfl nd_S_cut_68 ?_
    refine lv_iload_n hx hb nd_S_cut_71 rfl (lv_at hl 2 rfl) ?_
    refine lv_aload hx hb nd_S_cut_72 (lv_at hl 0 rfl) ?_
    refine xw_aast (r := (nR_Q, nT_Q, 5)) hx hb hK.1 hB hw hS 3 3 hslB rfl hqB rfl (vp_in_nI (by omega) (by decide)) nd_S_cut_74 (fun H locs hw hS => ?_)
    rw [nI_clamp (by omega)] at hw
    obtain ⟨w11, ew12⟩ : ∃ z, z = va_up w10 sl (some (.inl (G.2.1 3, 16, .inr (.inr (.inr (.inr (va_up g i (some qn)))))))) := ⟨_, rfl⟩
    have hw : g_P G w11 H := by rw [ew12]; exact hw
    have hhB : w11 h = some (.inr (4, [.ref e0, .ref sl, va_rf (bd.map (·.1)), .int (nI (L + 1))])) := by rw [ew12, va_up_ne _ _ (xw_ne hhB hslB (by simp))]; exact hhB
    have hqB : w11 qn = some (.inr (3, [.int (nI (L + 1)), .ref r, .ref t1, .int (nI ((o + x) % 32768)), .int (nI (sz j - (x + y)))])) := by rw [ew12, va_up_ne _ _ (xw_ne hqB hslB (by simp))]; exact hqB
    have hslB : w11 sl = some (.inl (G.2.1 3, 16, .inr (.inr (.inr (.inr (va_up g i (some qn))))))) := by rw [ew12]; exact va_up_self _ _ _
    obtain ⟨hC, hF⟩ := sh_call (f' := fun z => vs j (x + z)) hI hn e1 o1 K2 D2 (fun z hz => (V2 z hz).trans (v1 (x + z) (by omega))) ew12 hi
    refine lv_aload hx hb nd_S_cut_75 (lv_at hl 0 rfl) ?_
    refine xw_get (T := nT_Q) (N := 5) (ci := 3) hx hb hT nu_Q hown hK.1 hw hqB rfl 4 (by decide) (hT _ nh_fl_S_46) (fun _ h9 => h9) rfl nd_S_cut_77 ?_
    exact vx_ret (g_iret hx hb hr hlocks hw hS (by rw [sp_cut_0 hi hj hx1 hy1 hs]; exact ⟨rfl, rfl, ⟨L + 1, bd, _, by omega, hC⟩, hF⟩) (by exact Nat.le_of_ble_eq_true rfl) (by exact Nat.le_of_ble_eq_true rfl) nd_S_cut_80)
  · exact g_throw (cls := g_NSE) 4 hx hb hl9 hown hT hK hw hS (by rw [hml]; exact hl.1) (by decide +kernel) (i1 := 13) (b1 := prog_16_method_4_code) ⟨by decide +kernel, by decide +kernel, by decide +kernel, by decide +kernel⟩ nh_cl_S_67 nh_in_NSE (by decide) rfl (by decide +kernel) (by decide +kernel) (by decide +kernel) (by decide) nd_S_cut_37 nd_S_cut_40 nd_S_cut_41 nd_S_cut_43 nd_S_cut_46 hne (by exact Nat.le_of_ble_eq_true rfl) (by exact Nat.le_of_ble_eq_true rfl) (by exact Nat.le_of_ble_eq_true rfl) (by exact Nat.le_of_ble_eq_true rfl) hlocks (⟨rfl, 1, rfl, sp_cut_2 hi hj hx1 hy1 (fun z => hc ((sp_cmp (by omega) (by omega)).mpr z))⟩) (by exact Nat.le_of_ble_eq_true rfl) (by exact Nat.le_of_ble_eq_true rfl)

set_option maxHeartbeats 4000000 in
set_option maxRecDepth 100000 in
theorem c_S_open (l : Launch) (hl9 : l.stackTraces = false) (G : g_G) (w : xw_W) (h e0 sl K : Nat) (S : sp_S) (hSt : sh_S G w h e0 sl S K) (hK9 : K + 1 < 2 ^ 31) (a : Int32) : vx_Met l ny_S_open nw_S_open ({ frames := 8, cells := 16, slots := 200, locals := 160 }) (g_Pc G w [.ref h, .int a]) (g_Qv G (fun w' => sh_Post G w h e0 sl K (sp_opn S a) 0 w')) (g_X G (sh_T S w (sp_opn S a) [g_IAE, g_ISE])) 16 200 (xw_A (g_b G)) := by
  refine g_xmet (by decide) (Nat.le_of_ble_eq_true rfl) rfl ?_
  intro p e s m below meth c ls hx hb hr hts hown hlocks hne hml hl hK hB hw hS
  have hT : ∀ w ∈ nw_T, w.before _ s = true := fun w h => hts w (List.mem_cons_of_mem _ h)
  have hown : s.vm.findClass "RadixShelf" = some m.cls := hown
  have hl : lv_has ls 2 [(0, .ref h), (1, .int a)] := hl
  obtain ⟨op, sz, vs⟩ := S
  obtain ⟨L, bd, g, hLK, hI⟩ := hSt
  have hI : sh_I G w h e0 sl op sz vs L bd g := hI
  obtain ⟨hh, hsl, hW, hfr, hop, hsq, he0, hbd⟩ := id hI
  refine lv_iload_n hx hb nd_S_open_0 rfl (lv_at hl 1 rfl) ?_
  refine g_xcallv (vx_runS (As := [.int a]) (rest := []) ⟨hx, hb, hml, hown, hts⟩ (c_S_checkSlot l hl9 G w a) (cwS 1 hts (nw_of (nw_3 nh_ml_S_30 nh_st_S_checkSlot nh_in_S nh_co_S_checkSlot)) rfl rfl rfl (by decide +kernel) ⟨Nat.le_of_ble_eq_true rfl, Nat.le_of_ble_eq_true rfl⟩) (g_preS hK hw hS _) rfl rfl hl.1 rfl (lv_room (Nat.le_of_ble_eq_true rfl)) nd_S_open_1 ⟨by exact Nat.le_of_ble_eq_true rfl, by exact Nat.le_of_ble_eq_true rfl⟩) hS (fun E ce q9 w1 H locs hthr hw hS h1 h2 h3 => g_out hne hlocks hw hS h1 h2 h3 (⟨hthr.2.1, 0, by rw [hthr.1]; rfl, sp_opn_1 hthr.2.2⟩) (by exact Nat.le_of_ble_eq_true rfl) (by exact Nat.le_of_ble_eq_true rfl)) (fun w1 H locs hp hw hS => ?_)
  obtain ⟨hw9, hr9⟩ := hp
  rw [hw9] at hw
  obtain ⟨j, hj, rfl⟩ := sp_sl_of hr9
  rcases bd with _ | ⟨qb, d⟩
  · obtain rfl : false = op := hop
    have hh : w h = some (.inr (4, [.ref e0, .ref sl, .null, .int (nI L)])) := hh
    refine lv_aload_n hx hb nd_S_open_4 rfl (lv_at hl 0 rfl) ?_
    refine xw_get (T := nT_S) (N := 4) (ci := 4) hx hb hT nu_S hown hK.1 hw hh rfl 2 (by decide) (hT _ nh_fl_S_23) (fun _ h9 => h9) rfl nd_S_open_5 ?_
    refine lv_ifnullN (tgt := 21) hx hb nd_S_open_8 (by decide) ?_
    refine lv_aload_n hx hb nd_S_open_21 rfl (lv_at hl 0 rfl) ?_
    refine lv_aload_n hx hb nd_S_open_22 rfl (lv_at hl 0 rfl) ?_
    refine lv_aload_n hx hb nd_S_open_23 rfl (lv_at hl 0 rfl) ?_
    refine xw_get (T := nT_S) (N := 4) (ci := 4) hx hb hT nu_S hown hK.1 hw hh rfl 1 (by decide) (hT _ nh_fl_S_19) (fun _ h9 => h9) rfl nd_S_open_24 ?_
    refine lv_iload_n hx hb nd_S_open_27 rfl (lv_at hl 1 rfl) ?_
    obtain ⟨q, hg, hnb, s0, r, t, o, hSo⟩ := hsq j hj
    have hq := hSo.1
    refine xw_aald (y := q) hx hb hK.1 hw 3 hsl rfl (vp_in_nI (by omega) (by decide)) (by rw [nI_clamp (by omega)]; exact hg) nd_S_open_28 ?_
    refine g_callr (va_runV (As := [.ref q]) (rest := [.ref h]) ⟨hx, hb, hml, hown, hts⟩ (c_S_draftOf l G w h e0 sl L q r t none s0 (nI o) (nI (sz j)) hh hq) (cwV (C := nR_S) 1 hts (nw_of (nw_4 nh_ml_S_38 nh_im_S_draftOf nh_se_S_draftOf nh_in_S nh_co_S_draftOf)) rfl rfl rfl (by decide +kernel) ⟨Nat.le_of_ble_eq_true rfl, Nat.le_of_ble_eq_true rfl⟩) (g_preV (ci := 4) (q := (nR_S, nT_S, 4)) hK hw hS rfl hh _) rfl rfl hl.1 rfl (lv_room (Nat.le_of_ble_eq_true rfl)) nd_S_open_29 ⟨by exact Nat.le_of_ble_eq_true rfl, by exact Nat.le_of_ble_eq_true rfl⟩) hS (fun qn w2 H locs hp hw hS => ?_)
    obtain ⟨hn, e1⟩ := hp
    have hhA : w2 h = some (.inr (4, [.ref e0, .ref sl, .null, .int (nI (L + 1))])) := by rw [e1, va_up_ne _ _ (xw_nn hh hn)]; exact va_up_self _ _ _
    refine xw_put (T := nT_S) (N := 4) (ci := 4) (v := .ref qn) (ty := (.object "RadixShelf$Sequence")) hx hb hT nu_S nt_S nk_S nn_S hown hK.1 hB hw hS hhA rfl 2 (by decide) (hT _ nh_fl_S_23) (fun _ h9 => h9) rfl (by decide +kernel) rfl rfl (Nat.le_of_ble_eq_true rfl) nd_S_open_32 (fun H locs hw hS => ?_)
    obtain ⟨w3, ew4⟩ : ∃ z, z = va_up w2 h (some (.inr (4, [.ref e0, .ref sl, .ref qn, .int (nI (L + 1))]))) := ⟨_, rfl⟩
    have hw : g_P G w3 H := by rw [ew4]; exact hw
    have hhA : w3 h = some (.inr (4, [.ref e0, .ref sl, .ref qn, .int (nI (L + 1))])) := by rw [ew4]; exact va_up_self _ _ _
    obtain ⟨hC, hF⟩ := sh_opens hI (by omega) hSo hn e1 ew4
    exact vx_ret (g_vret hx hb hr hlocks hw hS (by rw [sp_opn_0 hj]; exact ⟨rfl, rfl, ⟨L + 1, _, _, by omega, hC⟩, hF⟩) (by exact Nat.le_of_ble_eq_true rfl) (by exact Nat.le_of_ble_eq_true rfl) nd_S_open_35)
  · obtain rfl : true = op := hop
    have hh : w h = some (.inr (4, [.ref e0, .ref sl, .ref qb, .int (nI L)])) := hh
    obtain ⟨rb, tb, ob, Db, vb⟩ := hbd qb d rfl
    have hqb := Db.2.2.1
    have hn3 : sz 16 ≤ 3000 := Db.2.2.2.2.1
    refine lv_aload_n hx hb nd_S_open_4 rfl (lv_at hl 0 rfl) ?_
    refine xw_get (T := nT_S) (N := 4) (ci := 4) hx hb hT nu_S hown hK.1 hw hh rfl 2 (by decide) (hT _ nh_fl_S_23) (fun _ h9 => h9) rfl nd_S_open_5 ?_
    refine lv_ifnull hx hb nd_S_open_8 ?_
    exact g_throw (cls := g_ISE) 5 hx hb hl9 hown hT hK hw hS (by rw [hml]; exact hl.1) (by decide +kernel) (i1 := 7) (b1 := Bundle.six) ⟨by decide +kernel, by decide +kernel, by decide +kernel, by decide +kernel⟩ nh_cl_S_84 nh_in_ISE (by decide) rfl (by decide +kernel) (by decide +kernel) (by decide +kernel) (by decide) nd_S_open_11 nd_S_open_14 nd_S_open_15 nd_S_open_17 nd_S_open_20 hne (by exact Nat.le_of_ble_eq_true rfl) (by exact Nat.le_of_ble_eq_true rfl) (by exact Nat.le_of_ble_eq_true rfl) (by exact Nat.le_of_ble_eq_true rfl) hlocks (⟨rfl, 1, rfl, sp_opn_2 hj⟩) (by exact Nat.le_of_ble_eq_true rfl) (by exact Nat.le_of_ble_eq_true rfl)

set_option maxHeartbeats 4000000 in
set_option maxRecDepth 100000 in
theorem c_S_freeze (l : Launch) (hl9 : l.stackTraces = false) (G : g_G) (w : xw_W) (h e0 sl K : Nat) (S : sp_S) (hSt : sh_S G w h e0 sl S K) (hK9 : K + 1 < 2 ^ 31) (a : Int32) : vx_Met l ny_S_freeze nw_S_freeze ({ frames := 8, cells := 16, slots := 200, locals := 160 }) (g_Pc G w [.ref h, .int a]) (g_Qi G (fun v9 w' => sh_Post G w h e0 sl K (sp_freeze S a) v9.toInt64 w')) (g_X G (sh_T S w (sp_freeze S a) [g_IAE, g_ISE])) 16 200 (xw_A (g_b G)) := by
  refine g_xmet (by decide) (Nat.le_of_ble_eq_true rfl) rfl ?_
  intro p e s m below meth c ls hx hb hr hts hown hlocks hne hml hl hK hB hw hS
  have hT : ∀ w ∈ nw_T, w.before _ s = true := fun w h => hts w (List.mem_cons_of_mem _ h)
  have hown : s.vm.findClass "RadixShelf" = some m.cls := hown
  have hl : lv_has ls 3 [(0, .ref h), (1, .int a)] := hl
  obtain ⟨op, sz, vs⟩ := S
  obtain ⟨L, bd, g, hLK, hI⟩ := hSt
  have hI : sh_I G w h e0 sl op sz vs L bd g := hI
  obtain ⟨hh, hsl, hW, hfr, hop, hsq, he0, hbd⟩ := id hI
  refine lv_iload_n hx hb nd_S_freeze_0 rfl (lv_at hl 1 rfl) ?_
  refine g_xcallv (vx_runS (As := [.int a]) (rest := []) ⟨hx, hb, hml, hown, hts⟩ (c_S_checkSlot l hl9 G w a) (cwS 1 hts (nw_of (nw_3 nh_ml_S_30 nh_st_S_checkSlot nh_in_S nh_co_S_checkSlot)) rfl rfl rfl (by decide +kernel) ⟨Nat.le_of_ble_eq_true rfl, Nat.le_of_ble_eq_true rfl⟩) (g_preS hK hw hS _) rfl rfl hl.1 rfl (lv_room (Nat.le_of_ble_eq_true rfl)) nd_S_freeze_1 ⟨by exact Nat.le_of_ble_eq_true rfl, by exact Nat.le_of_ble_eq_true rfl⟩) hS (fun E ce q9 w1 H locs hthr hw hS h1 h2 h3 => g_out hne hlocks hw hS h1 h2 h3 (⟨hthr.2.1, 0, by rw [hthr.1]; rfl, sp_freeze_1 hthr.2.2⟩) (by exact Nat.le_of_ble_eq_true rfl) (by exact Nat.le_of_ble_eq_true rfl)) (fun w1 H locs hp hw hS => ?_)
  obtain ⟨hw9, hr9⟩ := hp
  rw [hw9] at hw
  obtain ⟨i, hi, rfl⟩ := sp_sl_of hr9
  rcases bd with _ | ⟨qb, d⟩
  · obtain rfl : false = op := hop
    have hh : w h = some (.inr (4, [.ref e0, .ref sl, .null, .int (nI L)])) := hh
    refine lv_aload_n hx hb nd_S_freeze_4 rfl (lv_at hl 0 rfl) ?_
    refine g_xcallr (vx_runV (As := []) (rest := []) ⟨hx, hb, hml, hown, hts⟩ (c_S_presentBuilderN l hl9 G w h e0 sl (nI L) hh) (cwV (C := nR_S) 0 hts (nw_of (nw_4 nh_ml_S_89 nh_im_S_presentBuilder nh_se_S_presentBuilder nh_in_S nh_co_S_presentBuilder)) rfl rfl rfl (by decide +kernel) ⟨Nat.le_of_ble_eq_true rfl, Nat.le_of_ble_eq_true rfl⟩) (g_preV (ci := 4) (q := (nR_S, nT_S, 4)) hK hw hS rfl hh _) rfl rfl hl.1 rfl (lv_room (Nat.le_of_ble_eq_true rfl)) nd_S_freeze_5 ⟨by exact Nat.le_of_ble_eq_true rfl, by exact Nat.le_of_ble_eq_true rfl⟩) hS (fun E ce q9 w2 H locs hthr hw hS h1 h2 h3 => g_out hne hlocks hw hS h1 h2 h3 (⟨hthr.2, 1, by rw [hthr.1]; rfl, sp_freeze_2 hi⟩) (by exact Nat.le_of_ble_eq_true rfl) (by exact Nat.le_of_ble_eq_true rfl)) (fun z9 w2 H locs hp hw hS => ?_)
    exact hp.elim
  · obtain rfl : true = op := hop
    have hh : w h = some (.inr (4, [.ref e0, .ref sl, .ref qb, .int (nI L)])) := hh
    obtain ⟨rb, tb, ob, Db, vb⟩ := hbd qb d rfl
    have hqb := Db.2.2.1
    have hn3 : sz 16 ≤ 3000 := Db.2.2.2.2.1
    refine lv_aload_n hx hb nd_S_freeze_4 rfl (lv_at hl 0 rfl) ?_
    refine g_callr (va_runV (As := []) (rest := []) ⟨hx, hb, hml, hown, hts⟩ (c_S_presentBuilder l G w h e0 sl qb (nI L) hh) (cwV (C := nR_S) 0 hts (nw_of (nw_4 nh_ml_S_89 nh_im_S_presentBuilder nh_se_S_presentBuilder nh_in_S nh_co_S_presentBuilder)) rfl rfl rfl (by decide +kernel) ⟨Nat.le_of_ble_eq_true rfl, Nat.le_of_ble_eq_true rfl⟩) (g_preV (ci := 4) (q := (nR_S, nT_S, 4)) hK hw hS rfl hh _) rfl rfl hl.1 rfl (lv_room (Nat.le_of_ble_eq_true rfl)) nd_S_freeze_5 ⟨by exact Nat.le_of_ble_eq_true rfl, by exact Nat.le_of_ble_eq_true rfl⟩) hS (fun z9 w2 H locs hp hw hS => ?_)
    obtain ⟨ez, hw9⟩ := hp
    rw [hw9] at hw
    rw [ez]
    refine lv_astore_n hx hb nd_S_freeze_8 rfl hl (by decide) (lv' := [(2, .ref qb), (0, .ref h), (1, .int (nI i))]) rfl (fun ls hl => ?_)
    refine lv_aload_n hx hb nd_S_freeze_9 rfl (lv_at hl 1 rfl) ?_
    refine xw_get (T := nT_S) (N := 4) (ci := 4) hx hb hT nu_S hown hK.1 hw hh rfl 1 (by decide) (hT _ nh_fl_S_19) (fun _ h9 => h9) rfl nd_S_freeze_10 ?_
    refine lv_iload_n hx hb nd_S_freeze_13 rfl (lv_at hl 2 rfl) ?_
    refine lv_aload_n hx hb nd_S_freeze_14 rfl (lv_at hl 0 rfl) ?_
    refine xw_aast (r := (nR_Q, nT_Q, 5)) hx hb hK.1 hB hw hS 3 3 hsl rfl hqb rfl (vp_in_nI (by omega) (by decide)) nd_S_freeze_15 (fun H locs hw hS => ?_)
    rw [nI_clamp (by omega)] at hw
    obtain ⟨w3, ew4⟩ : ∃ z, z = va_up w sl (some (.inl (G.2.1 3, 16, .inr (.inr (.inr (.inr (va_up g i (some qb)))))))) := ⟨_, rfl⟩
    have hw : g_P G w3 H := by rw [ew4]; exact hw
    have hh : w3 h = some (.inr (4, [.ref e0, .ref sl, .ref qb, .int (nI L)])) := by rw [ew4, va_up_ne _ _ (xw_ne hh hsl (by simp))]; exact hh
    have hqb : w3 qb = some (.inr (3, [.int (nI d), .ref rb, .ref tb, .int (nI ob), .int (nI (sz 16))])) := by rw [ew4, va_up_ne _ _ (xw_ne hqb hsl (by simp))]; exact hqb
    have hsl : w3 sl = some (.inl (G.2.1 3, 16, .inr (.inr (.inr (.inr (va_up g i (some qb))))))) := by rw [ew4]; exact va_up_self _ _ _
    refine lv_aload_n hx hb nd_S_freeze_16 rfl (lv_at hl 1 rfl) ?_
    refine lv_null hx hb nd_S_freeze_17 ?_
    refine xw_put (T := nT_S) (N := 4) (ci := 4) (v := .null) (ty := (.object "RadixShelf$Sequence")) hx hb hT nu_S nt_S nk_S nn_S hown hK.1 hB hw hS hh rfl 2 (by decide) (hT _ nh_fl_S_23) (fun _ h9 => h9) rfl (by decide +kernel) rfl rfl (Nat.le_of_ble_eq_true rfl) nd_S_freeze_18 (fun H locs hw hS => ?_)
    obtain ⟨w5, ew6⟩ : ∃ z, z = va_up w3 h (some (.inr (4, [.ref e0, .ref sl, .null, .int (nI L)]))) := ⟨_, rfl⟩
    have hw : g_P G w5 H := by rw [ew6]; exact hw
    have hsl : w5 sl = some (.inl (G.2.1 3, 16, .inr (.inr (.inr (.inr (va_up g i (some qb))))))) := by rw [ew6, va_up_ne _ _ (xw_ne hsl hh (by simp))]; exact hsl
    have hqb : w5 qb = some (.inr (3, [.int (nI d), .ref rb, .ref tb, .int (nI ob), .int (nI (sz 16))])) := by rw [ew6, va_up_ne _ _ (xw_ne hqb hh (by simp))]; exact hqb
    have hh : w5 h = some (.inr (4, [.ref e0, .ref sl, .null, .int (nI L)])) := by rw [ew6]; exact va_up_self _ _ _
    refine lv_aload_n hx hb nd_S_freeze_21 rfl (lv_at hl 0 rfl) ?_
    refine xw_get (T := nT_Q) (N := 5) (ci := 3) hx hb hT nu_Q hown hK.1 hw hqb rfl 4 (by decide) (hT _ nh_fl_S_46) (fun _ h9 => h9) rfl nd_S_freeze_22 ?_
    obtain ⟨hC, hF⟩ := sh_freezes hI hi ew4 ew6
    exact vx_ret (g_iret hx hb hr hlocks hw hS (by rw [sp_freeze_0 hi]; exact ⟨rfl, rfl, ⟨L, _, _, by omega, hC⟩, hF⟩) (by exact Nat.le_of_ble_eq_true rfl) (by exact Nat.le_of_ble_eq_true rfl) nd_S_freeze_25)

set_option maxHeartbeats 4000000 in
set_option maxRecDepth 100000 in
theorem c_S_build (l : Launch) (hl9 : l.stackTraces = false) (G : g_G) (w : xw_W) (h e0 sl K : Nat) (S : sp_S) (hSt : sh_S G w h e0 sl S K) (hK9 : K + 1 < 2 ^ 31) (k a : Int32) (v : Int64) : vx_Met l ny_S_build nw_S_build ({ frames := 8, cells := 16, slots := 200, locals := 160 }) (g_Pc G w [.ref h, .int k, .int a, .long v]) (g_Qi G (fun v9 w' => sh_Post G w h e0 sl K (sp_build S k a v) v9.toInt64 w')) (g_X G (sh_T S w (sp_build S k a v) [g_IAE, g_ISE, g_NSE, g_IOB])) 16 200 (xw_A (g_b G)) := by
  refine g_xmet (by decide) (Nat.le_of_ble_eq_true rfl) rfl ?_
  intro p e s m below meth c ls hx hb hr hts hown hlocks hne hml hl hK hB hw hS
  have hT : ∀ w ∈ nw_T, w.before _ s = true := fun w h => hts w (List.mem_cons_of_mem _ h)
  have hown : s.vm.findClass "RadixShelf" = some m.cls := hown
  have hl : lv_has ls 6 [(0, .ref h), (1, .int k), (2, .int a), (3, .long v)] := hl
  obtain ⟨op, sz, vs⟩ := S
  obtain ⟨L, bd, g, hLK, hI⟩ := hSt
  have hI : sh_I G w h e0 sl op sz vs L bd g := hI
  obtain ⟨hh, hsl, hW, hfr, hop, hsq, he0, hbd⟩ := id hI
  refine lv_iload_n hx hb nd_S_build_0 rfl (lv_at hl 1 rfl) ?_
  refine lv_iconst (v := 0) hx hb nd_S_build_1 (by decide) ?_
  refine lv_iconst (v := 2) hx hb nd_S_build_2 (by decide) ?_
  refine g_xcallv (vx_runS (As := [.int k, .int 0, .int 2]) (rest := []) ⟨hx, hb, hml, hown, hts⟩ (c_S_checkRange l hl9 G w k 0 2) (cwS 3 hts (nw_of (nw_3 nh_ml_S_78 nh_st_S_checkRange nh_in_S nh_co_S_checkRange)) rfl rfl rfl (by decide +kernel) ⟨Nat.le_of_ble_eq_true rfl, Nat.le_of_ble_eq_true rfl⟩) (g_preS hK hw hS _) rfl rfl hl.1 rfl (lv_room (Nat.le_of_ble_eq_true rfl)) nd_S_build_3 ⟨by exact Nat.le_of_ble_eq_true rfl, by exact Nat.le_of_ble_eq_true rfl⟩) hS (fun E ce q9 w1 H locs hthr hw hS h1 h2 h3 => g_out hne hlocks hw hS h1 h2 h3 (⟨hthr.2.1, 0, by rw [hthr.1]; rfl, sp_build_1 hthr.2.2⟩) (by exact Nat.le_of_ble_eq_true rfl) (by exact Nat.le_of_ble_eq_true rfl)) (fun w1 H locs hp hw hS => ?_)
  obtain ⟨hw9, hr9⟩ := hp
  rw [hw9] at hw
  rcases bd with _ | ⟨qb, d⟩
  · obtain rfl : false = op := hop
    have hh : w h = some (.inr (4, [.ref e0, .ref sl, .null, .int (nI L)])) := hh
    refine lv_aload_n hx hb nd_S_build_6 rfl (lv_at hl 0 rfl) ?_
    refine g_xcallr (vx_runV (As := []) (rest := []) ⟨hx, hb, hml, hown, hts⟩ (c_S_presentBuilderN l hl9 G w h e0 sl (nI L) hh) (cwV (C := nR_S) 0 hts (nw_of (nw_4 nh_ml_S_89 nh_im_S_presentBuilder nh_se_S_presentBuilder nh_in_S nh_co_S_presentBuilder)) rfl rfl rfl (by decide +kernel) ⟨Nat.le_of_ble_eq_true rfl, Nat.le_of_ble_eq_true rfl⟩) (g_preV (ci := 4) (q := (nR_S, nT_S, 4)) hK hw hS rfl hh _) rfl rfl hl.1 rfl (lv_room (Nat.le_of_ble_eq_true rfl)) nd_S_build_7 ⟨by exact Nat.le_of_ble_eq_true rfl, by exact Nat.le_of_ble_eq_true rfl⟩) hS (fun E ce q9 w2 H locs hthr hw hS h1 h2 h3 => g_out hne hlocks hw hS h1 h2 h3 (⟨hthr.2, 1, by rw [hthr.1]; rfl, sp_build_2 hr9⟩) (by exact Nat.le_of_ble_eq_true rfl) (by exact Nat.le_of_ble_eq_true rfl)) (fun z9 w2 H locs hp hw hS => ?_)
    exact hp.elim
  · obtain rfl : true = op := hop
    have hh : w h = some (.inr (4, [.ref e0, .ref sl, .ref qb, .int (nI L)])) := hh
    obtain ⟨rb, tb, ob, Db, vb⟩ := hbd qb d rfl
    have hqb := Db.2.2.1
    have hn3 : sz 16 ≤ 3000 := Db.2.2.2.2.1
    refine lv_aload_n hx hb nd_S_build_6 rfl (lv_at hl 0 rfl) ?_
    refine g_callr (va_runV (As := []) (rest := []) ⟨hx, hb, hml, hown, hts⟩ (c_S_presentBuilder l G w h e0 sl qb (nI L) hh) (cwV (C := nR_S) 0 hts (nw_of (nw_4 nh_ml_S_89 nh_im_S_presentBuilder nh_se_S_presentBuilder nh_in_S nh_co_S_presentBuilder)) rfl rfl rfl (by decide +kernel) ⟨Nat.le_of_ble_eq_true rfl, Nat.le_of_ble_eq_true rfl⟩) (g_preV (ci := 4) (q := (nR_S, nT_S, 4)) hK hw hS rfl hh _) rfl rfl hl.1 rfl (lv_room (Nat.le_of_ble_eq_true rfl)) nd_S_build_7 ⟨by exact Nat.le_of_ble_eq_true rfl, by exact Nat.le_of_ble_eq_true rfl⟩) hS (fun z9 w2 H locs hp hw hS => ?_)
    obtain ⟨ez, hw9⟩ := hp
    rw [hw9] at hw
    rw [ez]
    refine lv_astore hx hb nd_S_build_10 hl (by decide) (lv' := [(5, .ref qb), (0, .ref h), (1, .int k), (2, .int a), (3, .long v)]) rfl (fun ls hl => ?_)
    refine lv_iload_n hx hb nd_S_build_12 rfl (lv_at hl 2 rfl) ?_
    refine lv_if_ne (tgt := 30) hx hb nd_S_build_13 (by decide) (fun hc => ?_) (fun hc => ?_)
    · refine lv_iload_n hx hb nd_S_build_30 rfl (lv_at hl 2 rfl) ?_
      refine lv_iconst (v := 1) hx hb nd_S_build_31 (by decide) ?_
      refine lv_icmp_ne (tgt := 51) hx hb nd_S_build_32 (by decide) (fun hc2 => ?_) (fun hc2 => ?_)
      · obtain rfl := sp_k2 hr9 hc hc2
        refine lv_aload hx hb nd_S_build_51 (lv_at hl 0 rfl) ?_
        refine lv_iconst (v := 0) hx hb nd_S_build_53 (by decide) ?_
        refine g_xcallv (vx_runS (As := [.ref qb, .int 0]) (rest := []) ⟨hx, hb, hml, hown, hts⟩ (c_S_checkElement l hl9 G w qb rb tb (sz 16) (nI d) (nI ob) 0 hqb) (cwS 2 hts (nw_of (nw_3 nh_ml_S_52 nh_st_S_checkElement nh_in_S nh_co_S_checkElement)) rfl rfl rfl (by decide +kernel) ⟨Nat.le_of_ble_eq_true rfl, Nat.le_of_ble_eq_true rfl⟩) (g_preS hK hw hS _) rfl rfl hl.1 rfl (lv_room (Nat.le_of_ble_eq_true rfl)) nd_S_build_54 ⟨by exact Nat.le_of_ble_eq_true rfl, by exact Nat.le_of_ble_eq_true rfl⟩) hS (fun E ce q9 w3 H locs hthr hw hS h1 h2 h3 => g_out hne hlocks hw hS h1 h2 h3 (⟨hthr.2.1, 2, by rw [hthr.1]; rfl, sp_build_32 (fun z => hthr.2.2 ⟨by decide, by have h := nI_lt (a := 0) z (show sz 16 < 2 ^ 31 by omega); rwa [nI_0] at h⟩)⟩) (by exact Nat.le_of_ble_eq_true rfl) (by exact Nat.le_of_ble_eq_true rfl)) (fun w3 H locs hp hw hS => ?_)
        obtain ⟨hw9, hs9⟩ := hp
        rw [hw9] at hw
        have hs : 0 < sz 16 := by
          obtain ⟨x, hx1, -⟩ := sp_elo hn3 hs9
          omega
        refine lv_aload hx hb nd_S_build_57 (lv_at hl 0 rfl) ?_
        refine lv_iconst (v := 0) hx hb nd_S_build_59 (by decide) ?_
        refine lv_topi (fun y4 ey5 => ?_)
        obtain rfl : y4 = nI 0 := ey5.trans (rfl)
        refine lv_iconst (v := 1) hx hb nd_S_build_60 (by decide) ?_
        refine lv_topi (fun y6 ey7 => ?_)
        obtain rfl : y6 = nI 1 := ey7.trans (rfl)
        refine g_callv (va_runV (As := [.int (nI 0), .int (nI 1)]) (rest := []) ⟨hx, hb, hml, hown, hts⟩ (c_Q_trim l G w L d qb rb tb ob (sz 16) 0 1 Db (by omega)) (cwV (C := nR_Q) 2 hts (nw_of (nw_4 nh_ml_S_74 nh_im_Q_trim nh_se_Q_trim nh_in_Q nh_co_Q_trim)) rfl rfl rfl (by decide +kernel) ⟨Nat.le_of_ble_eq_true rfl, Nat.le_of_ble_eq_true rfl⟩) (g_preV (ci := 3) (q := (nR_Q, nT_Q, 5)) hK hw hS rfl hqb _) rfl rfl hl.1 rfl (lv_room (Nat.le_of_ble_eq_true rfl)) nd_S_build_61 ⟨by exact Nat.le_of_ble_eq_true rfl, by exact Nat.le_of_ble_eq_true rfl⟩) hS (fun w8 H locs hp hw hS => ?_)
        obtain ⟨t1, D2, K2, V2⟩ := hp
        have hqB := D2.2.2.1
        refine lv_aload hx hb nd_S_build_64 (lv_at hl 0 rfl) ?_
        refine xw_get (T := nT_Q) (N := 5) (ci := 3) hx hb hT nu_Q hown hK.1 hw hqB rfl 4 (by decide) (hT _ nh_fl_S_46) (fun _ h9 => h9) rfl nd_S_build_66 ?_
        obtain ⟨hC, hF⟩ := sh_edit (f' := vs 16) hI K2 D2 (fun z hz => (V2 z hz).trans (by rw [Nat.zero_add]; exact vb z (by omega)))
        exact vx_ret (g_iret hx hb hr hlocks hw hS (by rw [sp_build_02 hs]; exact ⟨rfl, rfl, ⟨L, _, _, by omega, hC⟩, hF⟩) (by exact Nat.le_of_ble_eq_true rfl) (by exact Nat.le_of_ble_eq_true rfl) nd_S_build_69)
      · obtain rfl := hc2
        refine lv_aload hx hb nd_S_build_35 (lv_at hl 0 rfl) ?_
        refine lv_iload_n hx hb nd_S_build_37 rfl (lv_at hl 3 rfl) ?_
        refine g_xcallv (vx_runS (As := [.ref qb, .int a]) (rest := []) ⟨hx, hb, hml, hown, hts⟩ (c_S_checkElement l hl9 G w qb rb tb (sz 16) (nI d) (nI ob) a hqb) (cwS 2 hts (nw_of (nw_3 nh_ml_S_52 nh_st_S_checkElement nh_in_S nh_co_S_checkElement)) rfl rfl rfl (by decide +kernel) ⟨Nat.le_of_ble_eq_true rfl, Nat.le_of_ble_eq_true rfl⟩) (g_preS hK hw hS _) rfl rfl hl.1 rfl (lv_room (Nat.le_of_ble_eq_true rfl)) nd_S_build_38 ⟨by exact Nat.le_of_ble_eq_true rfl, by exact Nat.le_of_ble_eq_true rfl⟩) hS (fun E ce q9 w3 H locs hthr hw hS h1 h2 h3 => g_out hne hlocks hw hS h1 h2 h3 (⟨hthr.2.1, 2, by rw [hthr.1]; rfl, sp_build_31 hthr.2.2⟩) (by exact Nat.le_of_ble_eq_true rfl) (by exact Nat.le_of_ble_eq_true rfl)) (fun w3 H locs hp hw hS => ?_)
        obtain ⟨hw9, hs9⟩ := hp
        rw [hw9] at hw
        obtain ⟨x, hx1, rfl⟩ := sp_elo hn3 hs9
        refine lv_aload hx hb nd_S_build_41 (lv_at hl 0 rfl) ?_
        refine lv_iload_n hx hb nd_S_build_43 rfl (lv_at hl 3 rfl) ?_
        refine lv_lload_n hx hb nd_S_build_44 rfl (lv_at hl 4 rfl) ?_
        refine g_callv (va_runV (As := [.int (nI x), .long v]) (rest := []) ⟨hx, hb, hml, hown, hts⟩ (c_Q_replace l G w L d qb rb tb ob (sz 16) x v Db hx1) (cwV (C := nR_Q) 2 hts (nw_of (nw_4 nh_ml_S_60 nh_im_Q_replace nh_se_Q_replace nh_in_Q nh_co_Q_replace)) rfl rfl rfl (by decide +kernel) ⟨Nat.le_of_ble_eq_true rfl, Nat.le_of_ble_eq_true rfl⟩) (g_preV (ci := 3) (q := (nR_Q, nT_Q, 5)) hK hw hS rfl hqb _) rfl rfl hl.1 rfl (lv_room (Nat.le_of_ble_eq_true rfl)) nd_S_build_45 ⟨by exact Nat.le_of_ble_eq_true rfl, by exact Nat.le_of_ble_eq_true rfl⟩) hS (fun w4 H locs hp hw hS => ?_)
        obtain ⟨r1, t1, D2, K2, V2⟩ := hp
        have hqB := D2.2.2.1
        refine lv_goto (tgt := 64) hx hb nd_S_build_48 (by decide) ?_
        refine lv_aload hx hb nd_S_build_64 (lv_at hl 0 rfl) ?_
        refine xw_get (T := nT_Q) (N := 5) (ci := 3) hx hb hT nu_Q hown hK.1 hw hqB rfl 4 (by decide) (hT _ nh_fl_S_46) (fun _ h9 => h9) rfl nd_S_build_66 ?_
        obtain ⟨hC, hF⟩ := sh_edit hI K2 D2 (sh_rep hn3 hx1 V2 vb)
        exact vx_ret (g_iret hx hb hr hlocks hw hS (by rw [sp_build_01 hn3 hx1]; exact ⟨rfl, rfl, ⟨L, _, _, by omega, hC⟩, hF⟩) (by exact Nat.le_of_ble_eq_true rfl) (by exact Nat.le_of_ble_eq_true rfl) nd_S_build_69)
    · obtain rfl := hc
      refine lv_aload hx hb nd_S_build_16 (lv_at hl 0 rfl) ?_
      refine g_xcallv (vx_runS (As := [.ref qb]) (rest := []) ⟨hx, hb, hml, hown, hts⟩ (c_S_checkRoom l hl9 G w qb rb tb (sz 16) (nI d) (nI ob) hqb) (cwS 1 hts (nw_of (nw_3 nh_ml_S_34 nh_st_S_checkRoom nh_in_S nh_co_S_checkRoom)) rfl rfl rfl (by decide +kernel) ⟨Nat.le_of_ble_eq_true rfl, Nat.le_of_ble_eq_true rfl⟩) (g_preS hK hw hS _) rfl rfl hl.1 rfl (lv_room (Nat.le_of_ble_eq_true rfl)) nd_S_build_18 ⟨by exact Nat.le_of_ble_eq_true rfl, by exact Nat.le_of_ble_eq_true rfl⟩) hS (fun E ce q9 w3 H locs hthr hw hS h1 h2 h3 => g_out hne hlocks hw hS h1 h2 h3 (⟨hthr.2.1, 3, by rw [hthr.1]; rfl, sp_build_4 (fun z => hthr.2.2 (nI_lt (b := 3000) z (by omega)))⟩) (by exact Nat.le_of_ble_eq_true rfl) (by exact Nat.le_of_ble_eq_true rfl)) (fun w3 H locs hp hw hS => ?_)
      obtain ⟨hw9, hs9⟩ := hp
      rw [hw9] at hw
      have hs : sz 16 < 3000 := (nI_ltI (b := 3000) (by omega) (by omega)).mp hs9
      refine lv_aload hx hb nd_S_build_21 (lv_at hl 0 rfl) ?_
      refine lv_lload_n hx hb nd_S_build_23 rfl (lv_at hl 4 rfl) ?_
      refine g_callv (va_runV (As := [.long v]) (rest := []) ⟨hx, hb, hml, hown, hts⟩ (c_Q_append l G w L d qb rb tb ob (sz 16) v Db hs) (cwV (C := nR_Q) 1 hts (nw_of (nw_4 nh_ml_S_42 nh_im_Q_append nh_se_Q_append nh_in_Q nh_co_Q_append)) rfl rfl rfl (by decide +kernel) ⟨Nat.le_of_ble_eq_true rfl, Nat.le_of_ble_eq_true rfl⟩) (g_preV (ci := 3) (q := (nR_Q, nT_Q, 5)) hK hw hS rfl hqb _) rfl rfl hl.1 rfl (lv_room (Nat.le_of_ble_eq_true rfl)) nd_S_build_24 ⟨by exact Nat.le_of_ble_eq_true rfl, by exact Nat.le_of_ble_eq_true rfl⟩) hS (fun w4 H locs hp hw hS => ?_)
      obtain ⟨r1, t1, D2, K2, V2, -⟩ := hp
      have hqB := D2.2.2.1
      refine lv_goto (tgt := 64) hx hb nd_S_build_27 (by decide) ?_
      refine lv_aload hx hb nd_S_build_64 (lv_at hl 0 rfl) ?_
      refine xw_get (T := nT_Q) (N := 5) (ci := 3) hx hb hT nu_Q hown hK.1 hw hqB rfl 4 (by decide) (hT _ nh_fl_S_46) (fun _ h9 => h9) rfl nd_S_build_66 ?_
      obtain ⟨hC, hF⟩ := sh_edit hI K2 D2 (sh_app (by omega) V2 vb)
      exact vx_ret (g_iret hx hb hr hlocks hw hS (by rw [sp_build_00 hs]; exact ⟨rfl, rfl, ⟨L, _, _, by omega, hC⟩, hF⟩) (by exact Nat.le_of_ble_eq_true rfl) (by exact Nat.le_of_ble_eq_true rfl) nd_S_build_69)
