def sh_Post (G : g_G) (w : xw_W) (h e0 sl K : Nat) (R : sp_R) (x : Int64) (w' : xw_W) : Prop := R.1 = 0 ∧ x = R.2.1 ∧ sh_S G w' h e0 sl R.2.2 (K + 1) ∧ sh_F h sl w w'
/-- what is thrown: the names in their order -/
def sh_T (S : sp_S) (w : xw_W) (R : sp_R) (Es : List String) (E : String) (w' : xw_W) : Prop := w' = w ∧ ∃ k, Es[k]? = some E ∧ R = (k + 1, 0, S)
theorem va_rf_none : va_rf none = .null := rfl
theorem va_rf_some (x : Nat) : va_rf (some x) = .ref x := rfl

set_option maxHeartbeats 4000000 in
set_option maxRecDepth 100000 in
theorem c_S_add (l : Launch) (hl9 : l.stackTraces = false) (G : g_G) (w : xw_W) (h e0 sl K : Nat) (S : sp_S) (hSt : sh_S G w h e0 sl S K) (hK9 : K + 1 < 2 ^ 31) (a b : Int32) (v : Int64) : vx_Met l ny_S_add nw_S_add ({ frames := 8, cells := 16, slots := 200, locals := 160 }) (g_Pc G w [.ref h, .int a, .int b, .long v]) (g_Qi G (fun v9 w' => sh_Post G w h e0 sl K (sp_add S a b v) v9.toInt64 w')) (g_X G (sh_T S w (sp_add S a b v) [g_IAE, g_IOB])) 16 200 (xw_A (g_b G)) := by
  refine g_xmet (by decide) (Nat.le_of_ble_eq_true rfl) rfl ?_
  intro p e s m below meth c ls hx hb hr hts hown hlocks hne hml hl hK hB hw hS
  have hT : ∀ w ∈ nw_T, w.before _ s = true := fun w h => hts w (List.mem_cons_of_mem _ h)
  have hown : s.vm.findClass "RadixShelf" = some m.cls := hown
  have hl : lv_has ls 6 [(0, .ref h), (1, .int a), (2, .int b), (3, .long v)] := hl
  obtain ⟨op, sz, vs⟩ := S
  obtain ⟨L, bd, g, hLK, hI⟩ := hSt
  have hI : sh_I G w h e0 sl op sz vs L bd g := hI
  obtain ⟨hh, hsl, hW, hfr, hop, hsq, he0, hbd⟩ := id hI
  refine lv_iload_n hx hb nd_S_add_0 rfl (lv_at hl 1 rfl) ?_
  refine g_xcallv (vx_runS (As := [.int a]) (rest := []) ⟨hx, hb, hml, hown, hts⟩ (c_S_checkSlot l hl9 G w a) (cwS 1 hts (nw_of (nw_3 nh_ml_S_30 nh_st_S_checkSlot nh_in_S nh_co_S_checkSlot)) rfl rfl rfl (by decide +kernel) ⟨Nat.le_of_ble_eq_true rfl, Nat.le_of_ble_eq_true rfl⟩) (g_preS hK hw hS _) rfl rfl hl.1 rfl (lv_room (Nat.le_of_ble_eq_true rfl)) nd_S_add_1 ⟨by exact Nat.le_of_ble_eq_true rfl, by exact Nat.le_of_ble_eq_true rfl⟩) hS (fun E ce q9 w1 H locs hthr hw hS h1 h2 h3 => g_out hne hlocks hw hS h1 h2 h3 (⟨hthr.2.1, 0, by rw [hthr.1]; rfl, sp_add_1 (Or.inl hthr.2.2)⟩) (by exact Nat.le_of_ble_eq_true rfl) (by exact Nat.le_of_ble_eq_true rfl)) (fun w1 H locs hp hw hS => ?_)
  obtain ⟨hw9, hr9⟩ := hp
  rw [hw9] at hw
  obtain ⟨i, hi, rfl⟩ := sp_sl_of hr9
  refine lv_iload_n hx hb nd_S_add_4 rfl (lv_at hl 2 rfl) ?_
  refine g_xcallv (vx_runS (As := [.int b]) (rest := []) ⟨hx, hb, hml, hown, hts⟩ (c_S_checkSlot l hl9 G w b) (cwS 1 hts (nw_of (nw_3 nh_ml_S_30 nh_st_S_checkSlot nh_in_S nh_co_S_checkSlot)) rfl rfl rfl (by decide +kernel) ⟨Nat.le_of_ble_eq_true rfl, Nat.le_of_ble_eq_true rfl⟩) (g_preS hK hw hS _) rfl rfl hl.1 rfl (lv_room (Nat.le_of_ble_eq_true rfl)) nd_S_add_5 ⟨by exact Nat.le_of_ble_eq_true rfl, by exact Nat.le_of_ble_eq_true rfl⟩) hS (fun E ce q9 w2 H locs hthr hw hS h1 h2 h3 => g_out hne hlocks hw hS h1 h2 h3 (⟨hthr.2.1, 0, by rw [hthr.1]; rfl, sp_add_1 (Or.inr hthr.2.2)⟩) (by exact Nat.le_of_ble_eq_true rfl) (by exact Nat.le_of_ble_eq_true rfl)) (fun w2 H locs hp hw hS => ?_)
  obtain ⟨hw9, hr9⟩ := hp
  rw [hw9] at hw
  obtain ⟨j, hj, rfl⟩ := sp_sl_of hr9
  refine lv_aload_n hx hb nd_S_add_8 rfl (lv_at hl 0 rfl) ?_
  refine xw_get (T := nT_S) (N := 4) (ci := 4) hx hb hT nu_S hown hK.1 hw hh rfl 1 (by decide) (hT _ nh_fl_S_19) (fun _ h9 => h9) rfl nd_S_add_9 ?_
  refine lv_iload_n hx hb nd_S_add_12 rfl (lv_at hl 2 rfl) ?_
  obtain ⟨q, hg, hnb, s0, r, t, o, hSo⟩ := hsq j hj
  have hq := hSo.1
  refine xw_aald (y := q) hx hb hK.1 hw 3 hsl rfl (vp_in_nI (by omega) (by decide)) (by rw [nI_clamp (by omega)]; exact hg) nd_S_add_13 ?_
  have hn3 : sz j ≤ 3000 := hSo.2.2.1
  refine g_xcallv (vx_runS (As := [.ref q]) (rest := []) ⟨hx, hb, hml, hown, hts⟩ (c_S_checkRoom l hl9 G w q r t (sz j) s0 (nI o) hq) (cwS 1 hts (nw_of (nw_3 nh_ml_S_34 nh_st_S_checkRoom nh_in_S nh_co_S_checkRoom)) rfl rfl rfl (by decide +kernel) ⟨Nat.le_of_ble_eq_true rfl, Nat.le_of_ble_eq_true rfl⟩) (g_preS hK hw hS _) rfl rfl hl.1 rfl (lv_room (Nat.le_of_ble_eq_true rfl)) nd_S_add_14 ⟨by exact Nat.le_of_ble_eq_true rfl, by exact Nat.le_of_ble_eq_true rfl⟩) hS (fun E ce q9 w3 H locs hthr hw hS h1 h2 h3 => g_out hne hlocks hw hS h1 h2 h3 (⟨hthr.2.1, 1, by rw [hthr.1]; rfl, sp_add_2 hi hj (fun z => hthr.2.2 (nI_lt (b := 3000) z (by omega)))⟩) (by exact Nat.le_of_ble_eq_true rfl) (by exact Nat.le_of_ble_eq_true rfl)) (fun w3 H locs hp hw hS => ?_)
  obtain ⟨hw9, hs9⟩ := hp
  rw [hw9] at hw
  have hs : sz j < 3000 := (nI_ltI (b := 3000) (by omega) (by omega)).mp hs9
  refine lv_aload_n hx hb nd_S_add_17 rfl (lv_at hl 0 rfl) ?_
  refine lv_aload_n hx hb nd_S_add_18 rfl (lv_at hl 0 rfl) ?_
  refine xw_get (T := nT_S) (N := 4) (ci := 4) hx hb hT nu_S hown hK.1 hw hh rfl 1 (by decide) (hT _ nh_fl_S_19) (fun _ h9 => h9) rfl nd_S_add_19 ?_
  refine lv_iload_n hx hb nd_S_add_22 rfl (lv_at hl 2 rfl) ?_
  refine xw_aald (y := q) hx hb hK.1 hw 3 hsl rfl (vp_in_nI (by omega) (by decide)) (by rw [nI_clamp (by omega)]; exact hg) nd_S_add_23 ?_
  refine g_callr (va_runV (As := [.ref q]) (rest := []) ⟨hx, hb, hml, hown, hts⟩ (c_S_draftOf l G w h e0 sl L q r t (bd.map (·.1)) s0 (nI o) (nI (sz j)) hh hq) (cwV (C := nR_S) 1 hts (nw_of (nw_4 nh_ml_S_38 nh_im_S_draftOf nh_se_S_draftOf nh_in_S nh_co_S_draftOf)) rfl rfl rfl (by decide +kernel) ⟨Nat.le_of_ble_eq_true rfl, Nat.le_of_ble_eq_true rfl⟩) (g_preV (ci := 4) (q := (nR_S, nT_S, 4)) hK hw hS rfl hh _) rfl rfl hl.1 rfl (lv_room (Nat.le_of_ble_eq_true rfl)) nd_S_add_24 ⟨by exact Nat.le_of_ble_eq_true rfl, by exact Nat.le_of_ble_eq_true rfl⟩) hS (fun qn w4 H locs hp hw hS => ?_)
  obtain ⟨hn, e1⟩ := hp
  obtain ⟨D1, v1, o1⟩ := sh_draft hI (by omega) hSo hn e1
  have hhA : w4 h = some (.inr (4, [.ref e0, .ref sl, va_rf (bd.map (·.1)), .int (nI (L + 1))])) := by rw [e1, va_up_ne _ _ (xw_nn hh hn)]; exact va_up_self _ _ _
  have hslA : w4 sl = some (.inl (G.2.1 3, 16, .inr (.inr (.inr (.inr g))))) := by rw [e1, va_up_ne _ _ (xw_nn hsl hn), va_up_ne _ _ (tr_ne_kind hsl hh)]; exact hsl
  have hqA := D1.2.2.1
  refine lv_astore hx hb nd_S_add_27 hl (by decide) (lv' := [(5, .ref qn), (0, .ref h), (1, .int (nI i)), (2, .int (nI j)), (3, .long v)]) rfl (fun ls hl => ?_)
  refine lv_aload hx hb nd_S_add_29 (lv_at hl 0 rfl) ?_
  refine lv_lload_n hx hb nd_S_add_31 rfl (lv_at hl 4 rfl) ?_
  refine g_callv (va_runV (As := [.long v]) (rest := []) ⟨hx, hb, hml, hown, hts⟩ (c_Q_append l G w4 (L + 1) (L + 1) qn r t o (sz j) v D1 hs) (cwV (C := nR_Q) 1 hts (nw_of (nw_4 nh_ml_S_42 nh_im_Q_append nh_se_Q_append nh_in_Q nh_co_Q_append)) rfl rfl rfl (by decide +kernel) ⟨Nat.le_of_ble_eq_true rfl, Nat.le_of_ble_eq_true rfl⟩) (g_preV (ci := 3) (q := (nR_Q, nT_Q, 5)) hK hw hS rfl hqA _) rfl rfl hl.1 rfl (lv_room (Nat.le_of_ble_eq_true rfl)) nd_S_add_32 ⟨by exact Nat.le_of_ble_eq_true rfl, by exact Nat.le_of_ble_eq_true rfl⟩) hS (fun w5 H locs hp hw hS => ?_)
  obtain ⟨r1, t1, D2, K2, V2, -⟩ := hp
  have hhB := K2.1 _ _ hhA (xw_nn hh hn) (o1 h)
  have hslB := K2.1 _ _ hslA (xw_nn hsl hn) (o1 sl)
  have hqB := D2.2.2.1
  refine lv_aload_n hx hb nd_S_add_35 rfl (lv_at hl 1 rfl) ?_
  refine xw_get (T := nT_S) (N := 4) (ci := 4) hx hb hT nu_S hown hK.1 hw hhB rfl 1 (by decide) (hT _ nh_fl_S_19) (fun _ h9 => h9) rfl nd_S_add_36 ?_
  refine lv_iload_n hx hb nd_S_add_39 rfl (lv_at hl 2 rfl) ?_
  refine lv_aload hx hb nd_S_add_40 (lv_at hl 0 rfl) ?_
  refine xw_aast (r := (nR_Q, nT_Q, 5)) hx hb hK.1 hB hw hS 3 3 hslB rfl hqB rfl (vp_in_nI (by omega) (by decide)) nd_S_add_42 (fun H locs hw hS => ?_)
  rw [nI_clamp (by omega)] at hw
  obtain ⟨w6, ew7⟩ : ∃ z, z = va_up w5 sl (some (.inl (G.2.1 3, 16, .inr (.inr (.inr (.inr (va_up g i (some qn)))))))) := ⟨_, rfl⟩
  have hw : g_P G w6 H := by rw [ew7]; exact hw
  have hhB : w6 h = some (.inr (4, [.ref e0, .ref sl, va_rf (bd.map (·.1)), .int (nI (L + 1))])) := by rw [ew7, va_up_ne _ _ (xw_ne hhB hslB (by simp))]; exact hhB
  have hqB : w6 qn = some (.inr (3, [.int (nI (L + 1)), .ref r1, .ref t1, .int (nI o), .int (nI (sz j + 1))])) := by rw [ew7, va_up_ne _ _ (xw_ne hqB hslB (by simp))]; exact hqB
  have hslB : w6 sl = some (.inl (G.2.1 3, 16, .inr (.inr (.inr (.inr (va_up g i (some qn))))))) := by rw [ew7]; exact va_up_self _ _ _
  obtain ⟨hC, hF⟩ := sh_call hI hn e1 o1 K2 D2 (sh_app (by omega) V2 v1) ew7 hi
  have hqB := (show w6 qn = some (.inr (3, [.int (nI (L + 1)), .ref r1, .ref t1, .int (nI o), .int (nI (sz j + 1))])) from hqB)
  refine lv_aload hx hb nd_S_add_43 (lv_at hl 0 rfl) ?_
  refine xw_get (T := nT_Q) (N := 5) (ci := 3) hx hb hT nu_Q hown hK.1 hw hqB rfl 4 (by decide) (hT _ nh_fl_S_46) (fun _ h9 => h9) rfl nd_S_add_45 ?_
  exact vx_ret (g_iret hx hb hr hlocks hw hS (by rw [sp_add_0 hi hj hs]; exact ⟨rfl, rfl, ⟨L + 1, bd, _, by omega, hC⟩, hF⟩) (by exact Nat.le_of_ble_eq_true rfl) (by exact Nat.le_of_ble_eq_true rfl) nd_S_add_48)

set_option maxHeartbeats 4000000 in
set_option maxRecDepth 100000 in
theorem c_S_push (l : Launch) (hl9 : l.stackTraces = false) (G : g_G) (w : xw_W) (h e0 sl K : Nat) (S : sp_S) (hSt : sh_S G w h e0 sl S K) (hK9 : K + 1 < 2 ^ 31) (a b : Int32) (v : Int64) : vx_Met l ny_S_push nw_S_push ({ frames := 8, cells := 16, slots := 200, locals := 160 }) (g_Pc G w [.ref h, .int a, .int b, .long v]) (g_Qi G (fun v9 w' => sh_Post G w h e0 sl K (sp_push S a b v) v9.toInt64 w')) (g_X G (sh_T S w (sp_push S a b v) [g_IAE, g_IOB])) 16 200 (xw_A (g_b G)) := by
  refine g_xmet (by decide) (Nat.le_of_ble_eq_true rfl) rfl ?_
  intro p e s m below meth c ls hx hb hr hts hown hlocks hne hml hl hK hB hw hS
  have hT : ∀ w ∈ nw_T, w.before _ s = true := fun w h => hts w (List.mem_cons_of_mem _ h)
  have hown : s.vm.findClass "RadixShelf" = some m.cls := hown
  have hl : lv_has ls 6 [(0, .ref h), (1, .int a), (2, .int b), (3, .long v)] := hl
  obtain ⟨op, sz, vs⟩ := S
  obtain ⟨L, bd, g, hLK, hI⟩ := hSt
  have hI : sh_I G w h e0 sl op sz vs L bd g := hI
  obtain ⟨hh, hsl, hW, hfr, hop, hsq, he0, hbd⟩ := id hI
  refine lv_iload_n hx hb nd_S_push_0 rfl (lv_at hl 1 rfl) ?_
  refine g_xcallv (vx_runS (As := [.int a]) (rest := []) ⟨hx, hb, hml, hown, hts⟩ (c_S_checkSlot l hl9 G w a) (cwS 1 hts (nw_of (nw_3 nh_ml_S_30 nh_st_S_checkSlot nh_in_S nh_co_S_checkSlot)) rfl rfl rfl (by decide +kernel) ⟨Nat.le_of_ble_eq_true rfl, Nat.le_of_ble_eq_true rfl⟩) (g_preS hK hw hS _) rfl rfl hl.1 rfl (lv_room (Nat.le_of_ble_eq_true rfl)) nd_S_push_1 ⟨by exact Nat.le_of_ble_eq_true rfl, by exact Nat.le_of_ble_eq_true rfl⟩) hS (fun E ce q9 w1 H locs hthr hw hS h1 h2 h3 => g_out hne hlocks hw hS h1 h2 h3 (⟨hthr.2.1, 0, by rw [hthr.1]; rfl, sp_push_1 (Or.inl hthr.2.2)⟩) (by exact Nat.le_of_ble_eq_true rfl) (by exact Nat.le_of_ble_eq_true rfl)) (fun w1 H locs hp hw hS => ?_)
  obtain ⟨hw9, hr9⟩ := hp
  rw [hw9] at hw
  obtain ⟨i, hi, rfl⟩ := sp_sl_of hr9
  refine lv_iload_n hx hb nd_S_push_4 rfl (lv_at hl 2 rfl) ?_
  refine g_xcallv (vx_runS (As := [.int b]) (rest := []) ⟨hx, hb, hml, hown, hts⟩ (c_S_checkSlot l hl9 G w b) (cwS 1 hts (nw_of (nw_3 nh_ml_S_30 nh_st_S_checkSlot nh_in_S nh_co_S_checkSlot)) rfl rfl rfl (by decide +kernel) ⟨Nat.le_of_ble_eq_true rfl, Nat.le_of_ble_eq_true rfl⟩) (g_preS hK hw hS _) rfl rfl hl.1 rfl (lv_room (Nat.le_of_ble_eq_true rfl)) nd_S_push_5 ⟨by exact Nat.le_of_ble_eq_true rfl, by exact Nat.le_of_ble_eq_true rfl⟩) hS (fun E ce q9 w2 H locs hthr hw hS h1 h2 h3 => g_out hne hlocks hw hS h1 h2 h3 (⟨hthr.2.1, 0, by rw [hthr.1]; rfl, sp_push_1 (Or.inr hthr.2.2)⟩) (by exact Nat.le_of_ble_eq_true rfl) (by exact Nat.le_of_ble_eq_true rfl)) (fun w2 H locs hp hw hS => ?_)
  obtain ⟨hw9, hr9⟩ := hp
  rw [hw9] at hw
  obtain ⟨j, hj, rfl⟩ := sp_sl_of hr9
  refine lv_aload_n hx hb nd_S_push_8 rfl (lv_at hl 0 rfl) ?_
  refine xw_get (T := nT_S) (N := 4) (ci := 4) hx hb hT nu_S hown hK.1 hw hh rfl 1 (by decide) (hT _ nh_fl_S_19) (fun _ h9 => h9) rfl nd_S_push_9 ?_
  refine lv_iload_n hx hb nd_S_push_12 rfl (lv_at hl 2 rfl) ?_
  obtain ⟨q, hg, hnb, s0, r, t, o, hSo⟩ := hsq j hj
  have hq := hSo.1
  refine xw_aald (y := q) hx hb hK.1 hw 3 hsl rfl (vp_in_nI (by omega) (by decide)) (by rw [nI_clamp (by omega)]; exact hg) nd_S_push_13 ?_
  have hn3 : sz j ≤ 3000 := hSo.2.2.1
  refine g_xcallv (vx_runS (As := [.ref q]) (rest := []) ⟨hx, hb, hml, hown, hts⟩ (c_S_checkRoom l hl9 G w q r t (sz j) s0 (nI o) hq) (cwS 1 hts (nw_of (nw_3 nh_ml_S_34 nh_st_S_checkRoom nh_in_S nh_co_S_checkRoom)) rfl rfl rfl (by decide +kernel) ⟨Nat.le_of_ble_eq_true rfl, Nat.le_of_ble_eq_true rfl⟩) (g_preS hK hw hS _) rfl rfl hl.1 rfl (lv_room (Nat.le_of_ble_eq_true rfl)) nd_S_push_14 ⟨by exact Nat.le_of_ble_eq_true rfl, by exact Nat.le_of_ble_eq_true rfl⟩) hS (fun E ce q9 w3 H locs hthr hw hS h1 h2 h3 => g_out hne hlocks hw hS h1 h2 h3 (⟨hthr.2.1, 1, by rw [hthr.1]; rfl, sp_push_2 hi hj (fun z => hthr.2.2 (nI_lt (b := 3000) z (by omega)))⟩) (by exact Nat.le_of_ble_eq_true rfl) (by exact Nat.le_of_ble_eq_true rfl)) (fun w3 H locs hp hw hS => ?_)
  obtain ⟨hw9, hs9⟩ := hp
  rw [hw9] at hw
  have hs : sz j < 3000 := (nI_ltI (b := 3000) (by omega) (by omega)).mp hs9
  refine lv_aload_n hx hb nd_S_push_17 rfl (lv_at hl 0 rfl) ?_
  refine lv_aload_n hx hb nd_S_push_18 rfl (lv_at hl 0 rfl) ?_
  refine xw_get (T := nT_S) (N := 4) (ci := 4) hx hb hT nu_S hown hK.1 hw hh rfl 1 (by decide) (hT _ nh_fl_S_19) (fun _ h9 => h9) rfl nd_S_push_19 ?_
  refine lv_iload_n hx hb nd_S_push_22 rfl (lv_at hl 2 rfl) ?_
  refine xw_aald (y := q) hx hb hK.1 hw 3 hsl rfl (vp_in_nI (by omega) (by decide)) (by rw [nI_clamp (by omega)]; exact hg) nd_S_push_23 ?_
  refine g_callr (va_runV (As := [.ref q]) (rest := []) ⟨hx, hb, hml, hown, hts⟩ (c_S_draftOf l G w h e0 sl L q r t (bd.map (·.1)) s0 (nI o) (nI (sz j)) hh hq) (cwV (C := nR_S) 1 hts (nw_of (nw_4 nh_ml_S_38 nh_im_S_draftOf nh_se_S_draftOf nh_in_S nh_co_S_draftOf)) rfl rfl rfl (by decide +kernel) ⟨Nat.le_of_ble_eq_true rfl, Nat.le_of_ble_eq_true rfl⟩) (g_preV (ci := 4) (q := (nR_S, nT_S, 4)) hK hw hS rfl hh _) rfl rfl hl.1 rfl (lv_room (Nat.le_of_ble_eq_true rfl)) nd_S_push_24 ⟨by exact Nat.le_of_ble_eq_true rfl, by exact Nat.le_of_ble_eq_true rfl⟩) hS (fun qn w4 H locs hp hw hS => ?_)
  obtain ⟨hn, e1⟩ := hp
  obtain ⟨D1, v1, o1⟩ := sh_draft hI (by omega) hSo hn e1
  have hhA : w4 h = some (.inr (4, [.ref e0, .ref sl, va_rf (bd.map (·.1)), .int (nI (L + 1))])) := by rw [e1, va_up_ne _ _ (xw_nn hh hn)]; exact va_up_self _ _ _
  have hslA : w4 sl = some (.inl (G.2.1 3, 16, .inr (.inr (.inr (.inr g))))) := by rw [e1, va_up_ne _ _ (xw_nn hsl hn), va_up_ne _ _ (tr_ne_kind hsl hh)]; exact hsl
  have hqA := D1.2.2.1
  refine lv_astore hx hb nd_S_push_27 hl (by decide) (lv' := [(5, .ref qn), (0, .ref h), (1, .int (nI i)), (2, .int (nI j)), (3, .long v)]) rfl (fun ls hl => ?_)
  refine lv_aload hx hb nd_S_push_29 (lv_at hl 0 rfl) ?_
  refine lv_lload_n hx hb nd_S_push_31 rfl (lv_at hl 4 rfl) ?_
  refine g_callv (va_runV (As := [.long v]) (rest := []) ⟨hx, hb, hml, hown, hts⟩ (c_Q_prepend l G w4 (L + 1) (L + 1) qn r t o (sz j) v D1 hs) (cwV (C := nR_Q) 1 hts (nw_of (nw_4 nh_ml_S_49 nh_im_Q_prepend nh_se_Q_prepend nh_in_Q nh_co_Q_prepend)) rfl rfl rfl (by decide +kernel) ⟨Nat.le_of_ble_eq_true rfl, Nat.le_of_ble_eq_true rfl⟩) (g_preV (ci := 3) (q := (nR_Q, nT_Q, 5)) hK hw hS rfl hqA _) rfl rfl hl.1 rfl (lv_room (Nat.le_of_ble_eq_true rfl)) nd_S_push_32 ⟨by exact Nat.le_of_ble_eq_true rfl, by exact Nat.le_of_ble_eq_true rfl⟩) hS (fun w5 H locs hp hw hS => ?_)
  obtain ⟨r1, t1, D2, K2, V2⟩ := hp
  have hhB := K2.1 _ _ hhA (xw_nn hh hn) (o1 h)
  have hslB := K2.1 _ _ hslA (xw_nn hsl hn) (o1 sl)
  have hqB := D2.2.2.1
  refine lv_aload_n hx hb nd_S_push_35 rfl (lv_at hl 1 rfl) ?_
  refine xw_get (T := nT_S) (N := 4) (ci := 4) hx hb hT nu_S hown hK.1 hw hhB rfl 1 (by decide) (hT _ nh_fl_S_19) (fun _ h9 => h9) rfl nd_S_push_36 ?_
  refine lv_iload_n hx hb nd_S_push_39 rfl (lv_at hl 2 rfl) ?_
  refine lv_aload hx hb nd_S_push_40 (lv_at hl 0 rfl) ?_
  refine xw_aast (r := (nR_Q, nT_Q, 5)) hx hb hK.1 hB hw hS 3 3 hslB rfl hqB rfl (vp_in_nI (by omega) (by decide)) nd_S_push_42 (fun H locs hw hS => ?_)
  rw [nI_clamp (by omega)] at hw
  obtain ⟨w6, ew7⟩ : ∃ z, z = va_up w5 sl (some (.inl (G.2.1 3, 16, .inr (.inr (.inr (.inr (va_up g i (some qn)))))))) := ⟨_, rfl⟩
  have hw : g_P G w6 H := by rw [ew7]; exact hw
  have hhB : w6 h = some (.inr (4, [.ref e0, .ref sl, va_rf (bd.map (·.1)), .int (nI (L + 1))])) := by rw [ew7, va_up_ne _ _ (xw_ne hhB hslB (by simp))]; exact hhB
  have hqB : w6 qn = some (.inr (3, [.int (nI (L + 1)), .ref r1, .ref t1, .int (nI ((o + 32767) % 32768)), .int (nI (sz j + 1))])) := by rw [ew7, va_up_ne _ _ (xw_ne hqB hslB (by simp))]; exact hqB
  have hslB : w6 sl = some (.inl (G.2.1 3, 16, .inr (.inr (.inr (.inr (va_up g i (some qn))))))) := by rw [ew7]; exact va_up_self _ _ _
  obtain ⟨hC, hF⟩ := sh_call hI hn e1 o1 K2 D2 (sh_pre hs V2 v1) ew7 hi
  have hqB := (show w6 qn = some (.inr (3, [.int (nI (L + 1)), .ref r1, .ref t1, .int (nI ((o + 32767) % 32768)), .int (nI (sz j + 1))])) from hqB)
  refine lv_aload hx hb nd_S_push_43 (lv_at hl 0 rfl) ?_
  refine xw_get (T := nT_Q) (N := 5) (ci := 3) hx hb hT nu_Q hown hK.1 hw hqB rfl 4 (by decide) (hT _ nh_fl_S_46) (fun _ h9 => h9) rfl nd_S_push_45 ?_
  exact vx_ret (g_iret hx hb hr hlocks hw hS (by rw [sp_push_0 hi hj hs]; exact ⟨rfl, rfl, ⟨L + 1, bd, _, by omega, hC⟩, hF⟩) (by exact Nat.le_of_ble_eq_true rfl) (by exact Nat.le_of_ble_eq_true rfl) nd_S_push_48)

set_option maxHeartbeats 4000000 in
set_option maxRecDepth 100000 in
theorem c_S_set (l : Launch) (hl9 : l.stackTraces = false) (G : g_G) (w : xw_W) (h e0 sl K : Nat) (S : sp_S) (hSt : sh_S G w h e0 sl S K) (hK9 : K + 1 < 2 ^ 31) (a b k : Int32) (v : Int64) : vx_Met l ny_S_set nw_S_set ({ frames := 8, cells := 16, slots := 200, locals := 160 }) (g_Pc G w [.ref h, .int a, .int b, .int k, .long v]) (g_Ql G (fun v9 w' => sh_Post G w h e0 sl K (sp_set S a b k v) v9 w')) (g_X G (sh_T S w (sp_set S a b k v) [g_IAE, g_NSE])) 16 200 (xw_A (g_b G)) := by
  refine g_xmet (by decide) (Nat.le_of_ble_eq_true rfl) rfl ?_
  intro p e s m below meth c ls hx hb hr hts hown hlocks hne hml hl hK hB hw hS
  have hT : ∀ w ∈ nw_T, w.before _ s = true := fun w h => hts w (List.mem_cons_of_mem _ h)
  have hown : s.vm.findClass "RadixShelf" = some m.cls := hown
  have hl : lv_has ls 9 [(0, .ref h), (1, .int a), (2, .int b), (3, .int k), (4, .long v)] := hl
  obtain ⟨op, sz, vs⟩ := S
  obtain ⟨L, bd, g, hLK, hI⟩ := hSt
  have hI : sh_I G w h e0 sl op sz vs L bd g := hI
  obtain ⟨hh, hsl, hW, hfr, hop, hsq, he0, hbd⟩ := id hI
  refine lv_iload_n hx hb nd_S_set_0 rfl (lv_at hl 1 rfl) ?_
  refine g_xcallv (vx_runS (As := [.int a]) (rest := []) ⟨hx, hb, hml, hown, hts⟩ (c_S_checkSlot l hl9 G w a) (cwS 1 hts (nw_of (nw_3 nh_ml_S_30 nh_st_S_checkSlot nh_in_S nh_co_S_checkSlot)) rfl rfl rfl (by decide +kernel) ⟨Nat.le_of_ble_eq_true rfl, Nat.le_of_ble_eq_true rfl⟩) (g_preS hK hw hS _) rfl rfl hl.1 rfl (lv_room (Nat.le_of_ble_eq_true rfl)) nd_S_set_1 ⟨by exact Nat.le_of_ble_eq_true rfl, by exact Nat.le_of_ble_eq_true rfl⟩) hS (fun E ce q9 w1 H locs hthr hw hS h1 h2 h3 => g_out hne hlocks hw hS h1 h2 h3 (⟨hthr.2.1, 0, by rw [hthr.1]; rfl, sp_set_1 (Or.inl hthr.2.2)⟩) (by exact Nat.le_of_ble_eq_true rfl) (by exact Nat.le_of_ble_eq_true rfl)) (fun w1 H locs hp hw hS => ?_)
  obtain ⟨hw9, hr9⟩ := hp
  rw [hw9] at hw
  obtain ⟨i, hi, rfl⟩ := sp_sl_of hr9
  refine lv_iload_n hx hb nd_S_set_4 rfl (lv_at hl 2 rfl) ?_
  refine g_xcallv (vx_runS (As := [.int b]) (rest := []) ⟨hx, hb, hml, hown, hts⟩ (c_S_checkSlot l hl9 G w b) (cwS 1 hts (nw_of (nw_3 nh_ml_S_30 nh_st_S_checkSlot nh_in_S nh_co_S_checkSlot)) rfl rfl rfl (by decide +kernel) ⟨Nat.le_of_ble_eq_true rfl, Nat.le_of_ble_eq_true rfl⟩) (g_preS hK hw hS _) rfl rfl hl.1 rfl (lv_room (Nat.le_of_ble_eq_true rfl)) nd_S_set_5 ⟨by exact Nat.le_of_ble_eq_true rfl, by exact Nat.le_of_ble_eq_true rfl⟩) hS (fun E ce q9 w2 H locs hthr hw hS h1 h2 h3 => g_out hne hlocks hw hS h1 h2 h3 (⟨hthr.2.1, 0, by rw [hthr.1]; rfl, sp_set_1 (Or.inr hthr.2.2)⟩) (by exact Nat.le_of_ble_eq_true rfl) (by exact Nat.le_of_ble_eq_true rfl)) (fun w2 H locs hp hw hS => ?_)
  obtain ⟨hw9, hr9⟩ := hp
  rw [hw9] at hw
  obtain ⟨j, hj, rfl⟩ := sp_sl_of hr9
  refine lv_aload_n hx hb nd_S_set_8 rfl (lv_at hl 0 rfl) ?_
  refine xw_get (T := nT_S) (N := 4) (ci := 4) hx hb hT nu_S hown hK.1 hw hh rfl 1 (by decide) (hT _ nh_fl_S_19) (fun _ h9 => h9) rfl nd_S_set_9 ?_
  refine lv_iload_n hx hb nd_S_set_12 rfl (lv_at hl 2 rfl) ?_
  obtain ⟨q, hg, hnb, s0, r, t, o, hSo⟩ := hsq j hj
  have hq := hSo.1
  refine xw_aald (y := q) hx hb hK.1 hw 3 hsl rfl (vp_in_nI (by omega) (by decide)) (by rw [nI_clamp (by omega)]; exact hg) nd_S_set_13 ?_
  have hn3 : sz j ≤ 3000 := hSo.2.2.1
  refine lv_iload_n hx hb nd_S_set_14 rfl (lv_at hl 3 rfl) ?_
  refine g_xcallv (vx_runS (As := [.ref q, .int k]) (rest := []) ⟨hx, hb, hml, hown, hts⟩ (c_S_checkElement l hl9 G w q r t (sz j) s0 (nI o) k hq) (cwS 2 hts (nw_of (nw_3 nh_ml_S_52 nh_st_S_checkElement nh_in_S nh_co_S_checkElement)) rfl rfl rfl (by decide +kernel) ⟨Nat.le_of_ble_eq_true rfl, Nat.le_of_ble_eq_true rfl⟩) (g_preS hK hw hS _) rfl rfl hl.1 rfl (lv_room (Nat.le_of_ble_eq_true rfl)) nd_S_set_15 ⟨by exact Nat.le_of_ble_eq_true rfl, by exact Nat.le_of_ble_eq_true rfl⟩) hS (fun E ce q9 w3 H locs hthr hw hS h1 h2 h3 => g_out hne hlocks hw hS h1 h2 h3 (⟨hthr.2.1, 1, by rw [hthr.1]; rfl, sp_set_2 hi hj hthr.2.2⟩) (by exact Nat.le_of_ble_eq_true rfl) (by exact Nat.le_of_ble_eq_true rfl)) (fun w3 H locs hp hw hS => ?_)
  obtain ⟨hw9, hr9⟩ := hp
  rw [hw9] at hw
  obtain ⟨x, hx1, rfl⟩ := sp_elo hn3 hr9
  refine lv_aload_n hx hb nd_S_set_18 rfl (lv_at hl 0 rfl) ?_
  refine xw_get (T := nT_S) (N := 4) (ci := 4) hx hb hT nu_S hown hK.1 hw hh rfl 1 (by decide) (hT _ nh_fl_S_19) (fun _ h9 => h9) rfl nd_S_set_19 ?_
  refine lv_iload_n hx hb nd_S_set_22 rfl (lv_at hl 2 rfl) ?_
  refine xw_aald (y := q) hx hb hK.1 hw 3 hsl rfl (vp_in_nI (by omega) (by decide)) (by rw [nI_clamp (by omega)]; exact hg) nd_S_set_23 ?_
  refine lv_iload_n hx hb nd_S_set_24 rfl (lv_at hl 3 rfl) ?_
  refine g_calll (va_runV (As := [.int (nI x)]) (rest := []) ⟨hx, hb, hml, hown, hts⟩ (c_Q_element l G w q r t o (sz j) x s0 hSo.2.1 hn3 hx1 hq hSo.2.2.2.1 hSo.2.2.2.2.1) (cwV (C := nR_Q) 1 hts (nw_of (nw_4 nh_ml_S_56 nh_im_Q_element nh_se_Q_element nh_in_Q nh_co_Q_element)) rfl rfl rfl (by decide +kernel) ⟨Nat.le_of_ble_eq_true rfl, Nat.le_of_ble_eq_true rfl⟩) (g_preV (ci := 3) (q := (nR_Q, nT_Q, 5)) hK hw hS rfl hq _) rfl rfl hl.1 rfl (lv_room (Nat.le_of_ble_eq_true rfl)) nd_S_set_25 ⟨by exact Nat.le_of_ble_eq_true rfl, by exact Nat.le_of_ble_eq_true rfl⟩) hS (fun v9 w4 H locs hp hw hS => ?_)
  obtain ⟨rfl, hw9⟩ := hp
  rw [hw9] at hw
  refine lv_topl (fun y5 ey6 => ?_)
  obtain rfl : y5 = vs j x := ey6.trans (hSo.2.2.2.2.2.2 x hx1)
  refine lv_lstore hx hb nd_S_set_28 hl (by decide) (lv' := [(6, .long (vs j x)), (0, .ref h), (1, .int (nI i)), (2, .int (nI j)), (3, .int (nI x)), (4, .long v)]) rfl (fun ls hl => ?_)
  refine lv_aload_n hx hb nd_S_set_30 rfl (lv_at hl 1 rfl) ?_
  refine lv_aload_n hx hb nd_S_set_31 rfl (lv_at hl 1 rfl) ?_
  refine xw_get (T := nT_S) (N := 4) (ci := 4) hx hb hT nu_S hown hK.1 hw hh rfl 1 (by decide) (hT _ nh_fl_S_19) (fun _ h9 => h9) rfl nd_S_set_32 ?_
  refine lv_iload_n hx hb nd_S_set_35 rfl (lv_at hl 3 rfl) ?_
  refine xw_aald (y := q) hx hb hK.1 hw 3 hsl rfl (vp_in_nI (by omega) (by decide)) (by rw [nI_clamp (by omega)]; exact hg) nd_S_set_36 ?_
  refine g_callr (va_runV (As := [.ref q]) (rest := []) ⟨hx, hb, hml, hown, hts⟩ (c_S_draftOf l G w h e0 sl L q r t (bd.map (·.1)) s0 (nI o) (nI (sz j)) hh hq) (cwV (C := nR_S) 1 hts (nw_of (nw_4 nh_ml_S_38 nh_im_S_draftOf nh_se_S_draftOf nh_in_S nh_co_S_draftOf)) rfl rfl rfl (by decide +kernel) ⟨Nat.le_of_ble_eq_true rfl, Nat.le_of_ble_eq_true rfl⟩) (g_preV (ci := 4) (q := (nR_S, nT_S, 4)) hK hw hS rfl hh _) rfl rfl hl.1 rfl (lv_room (Nat.le_of_ble_eq_true rfl)) nd_S_set_37 ⟨by exact Nat.le_of_ble_eq_true rfl, by exact Nat.le_of_ble_eq_true rfl⟩) hS (fun qn w7 H locs hp hw hS => ?_)
  obtain ⟨hn, e1⟩ := hp
  obtain ⟨D1, v1, o1⟩ := sh_draft hI (by omega) hSo hn e1
  have hhA : w7 h = some (.inr (4, [.ref e0, .ref sl, va_rf (bd.map (·.1)), .int (nI (L + 1))])) := by rw [e1, va_up_ne _ _ (xw_nn hh hn)]; exact va_up_self _ _ _
  have hslA : w7 sl = some (.inl (G.2.1 3, 16, .inr (.inr (.inr (.inr g))))) := by rw [e1, va_up_ne _ _ (xw_nn hsl hn), va_up_ne _ _ (tr_ne_kind hsl hh)]; exact hsl
  have hqA := D1.2.2.1
  refine lv_astore hx hb nd_S_set_40 hl (by decide) (lv' := [(8, .ref qn), (6, .long (vs j x)), (0, .ref h), (1, .int (nI i)), (2, .int (nI j)), (3, .int (nI x)), (4, .long v)]) rfl (fun ls hl => ?_)
  refine lv_aload hx hb nd_S_set_42 (lv_at hl 0 rfl) ?_
  refine lv_iload_n hx hb nd_S_set_44 rfl (lv_at hl 5 rfl) ?_
  refine lv_lload hx hb nd_S_set_45 (lv_at hl 6 rfl) ?_
  refine g_callv (va_runV (As := [.int (nI x), .long v]) (rest := []) ⟨hx, hb, hml, hown, hts⟩ (c_Q_replace l G w7 (L + 1) (L + 1) qn r t o (sz j) x v D1 hx1) (cwV (C := nR_Q) 2 hts (nw_of (nw_4 nh_ml_S_60 nh_im_Q_replace nh_se_Q_replace nh_in_Q nh_co_Q_replace)) rfl rfl rfl (by decide +kernel) ⟨Nat.le_of_ble_eq_true rfl, Nat.le_of_ble_eq_true rfl⟩) (g_preV (ci := 3) (q := (nR_Q, nT_Q, 5)) hK hw hS rfl hqA _) rfl rfl hl.1 rfl (lv_room (Nat.le_of_ble_eq_true rfl)) nd_S_set_47 ⟨by exact Nat.le_of_ble_eq_true rfl, by exact Nat.le_of_ble_eq_true rfl⟩) hS (fun w8 H locs hp hw hS => ?_)
  obtain ⟨r1, t1, D2, K2, V2⟩ := hp
  have hhB := K2.1 _ _ hhA (xw_nn hh hn) (o1 h)
  have hslB := K2.1 _ _ hslA (xw_nn hsl hn) (o1 sl)
  have hqB := D2.2.2.1
  refine lv_aload_n hx hb nd_S_set_50 rfl (lv_at hl 2 rfl) ?_
  refine xw_get (T := nT_S) (N := 4) (ci := 4) hx hb hT nu_S hown hK.1 hw hhB rfl 1 (by decide) (hT _ nh_fl_S_19) (fun _ h9 => h9) rfl nd_S_set_51 ?_
  refine lv_iload_n hx hb nd_S_set_54 rfl (lv_at hl 3 rfl) ?_
  refine lv_aload hx hb nd_S_set_55 (lv_at hl 0 rfl) ?_
  refine xw_aast (r := (nR_Q, nT_Q, 5)) hx hb hK.1 hB hw hS 3 3 hslB rfl hqB rfl (vp_in_nI (by omega) (by decide)) nd_S_set_57 (fun H locs hw hS => ?_)
  rw [nI_clamp (by omega)] at hw
  obtain ⟨w9, ew10⟩ : ∃ z, z = va_up w8 sl (some (.inl (G.2.1 3, 16, .inr (.inr (.inr (.inr (va_up g i (some qn)))))))) := ⟨_, rfl⟩
  have hw : g_P G w9 H := by rw [ew10]; exact hw
  have hhB : w9 h = some (.inr (4, [.ref e0, .ref sl, va_rf (bd.map (·.1)), .int (nI (L + 1))])) := by rw [ew10, va_up_ne _ _ (xw_ne hhB hslB (by simp))]; exact hhB
  have hqB : w9 qn = some (.inr (3, [.int (nI (L + 1)), .ref r1, .ref t1, .int (nI o), .int (nI (sz j))])) := by rw [ew10, va_up_ne _ _ (xw_ne hqB hslB (by simp))]; exact hqB
  have hslB : w9 sl = some (.inl (G.2.1 3, 16, .inr (.inr (.inr (.inr (va_up g i (some qn))))))) := by rw [ew10]; exact va_up_self _ _ _
  obtain ⟨hC, hF⟩ := sh_call hI hn e1 o1 K2 D2 (sh_rep hn3 hx1 V2 v1) ew10 hi
  refine lv_lload hx hb nd_S_set_58 (lv_at hl 1 rfl) ?_
  exact vx_ret (g_lret hx hb hr hlocks hw hS (by rw [sp_set_0 hi hj hn3 hx1]; exact ⟨rfl, rfl, ⟨L + 1, bd, _, by omega, hC⟩, hF⟩) (by exact Nat.le_of_ble_eq_true rfl) (by exact Nat.le_of_ble_eq_true rfl) nd_S_set_60)

set_option maxHeartbeats 4000000 in
set_option maxRecDepth 100000 in
theorem c_S_at (l : Launch) (hl9 : l.stackTraces = false) (G : g_G) (w : xw_W) (h e0 sl K : Nat) (S : sp_S) (hSt : sh_S G w h e0 sl S K) (hK9 : K + 1 < 2 ^ 31) (a k : Int32) : vx_Met l ny_S_at nw_S_at ({ frames := 8, cells := 16, slots := 200, locals := 160 }) (g_Pc G w [.ref h, .int a, .int k]) (g_Ql G (fun v9 w' => sh_Post G w h e0 sl K (sp_at S a k) v9 w')) (g_X G (sh_T S w (sp_at S a k) [g_IAE, g_NSE])) 16 200 (xw_A (g_b G)) := by
  refine g_xmet (by decide) (Nat.le_of_ble_eq_true rfl) rfl ?_
  intro p e s m below meth c ls hx hb hr hts hown hlocks hne hml hl hK hB hw hS
  have hT : ∀ w ∈ nw_T, w.before _ s = true := fun w h => hts w (List.mem_cons_of_mem _ h)
  have hown : s.vm.findClass "RadixShelf" = some m.cls := hown
  have hl : lv_has ls 3 [(0, .ref h), (1, .int a), (2, .int k)] := hl
  obtain ⟨op, sz, vs⟩ := S
  obtain ⟨L, bd, g, hLK, hI⟩ := hSt
  have hI : sh_I G w h e0 sl op sz vs L bd g := hI
  obtain ⟨hh, hsl, hW, hfr, hop, hsq, he0, hbd⟩ := id hI
  refine lv_iload_n hx hb nd_S_at_0 rfl (lv_at hl 1 rfl) ?_
  refine g_xcallv (vx_runS (As := [.int a]) (rest := []) ⟨hx, hb, hml, hown, hts⟩ (c_S_checkSlot l hl9 G w a) (cwS 1 hts (nw_of (nw_3 nh_ml_S_30 nh_st_S_checkSlot nh_in_S nh_co_S_checkSlot)) rfl rfl rfl (by decide +kernel) ⟨Nat.le_of_ble_eq_true rfl, Nat.le_of_ble_eq_true rfl⟩) (g_preS hK hw hS _) rfl rfl hl.1 rfl (lv_room (Nat.le_of_ble_eq_true rfl)) nd_S_at_1 ⟨by exact Nat.le_of_ble_eq_true rfl, by exact Nat.le_of_ble_eq_true rfl⟩) hS (fun E ce q9 w1 H locs hthr hw hS h1 h2 h3 => g_out hne hlocks hw hS h1 h2 h3 (⟨hthr.2.1, 0, by rw [hthr.1]; rfl, sp_at_1 hthr.2.2⟩) (by exact Nat.le_of_ble_eq_true rfl) (by exact Nat.le_of_ble_eq_true rfl)) (fun w1 H locs hp hw hS => ?_)
  obtain ⟨hw9, hr9⟩ := hp
  rw [hw9] at hw
  obtain ⟨j, hj, rfl⟩ := sp_sl_of hr9
  refine lv_aload_n hx hb nd_S_at_4 rfl (lv_at hl 0 rfl) ?_
  refine xw_get (T := nT_S) (N := 4) (ci := 4) hx hb hT nu_S hown hK.1 hw hh rfl 1 (by decide) (hT _ nh_fl_S_19) (fun _ h9 => h9) rfl nd_S_at_5 ?_
  refine lv_iload_n hx hb nd_S_at_8 rfl (lv_at hl 1 rfl) ?_
  obtain ⟨q, hg, hnb, s0, r, t, o, hSo⟩ := hsq j hj
  have hq := hSo.1
  refine xw_aald (y := q) hx hb hK.1 hw 3 hsl rfl (vp_in_nI (by omega) (by decide)) (by rw [nI_clamp (by omega)]; exact hg) nd_S_at_9 ?_
  have hn3 : sz j ≤ 3000 := hSo.2.2.1
  refine lv_iload_n hx hb nd_S_at_10 rfl (lv_at hl 2 rfl) ?_
  refine g_xcallv (vx_runS (As := [.ref q, .int k]) (rest := []) ⟨hx, hb, hml, hown, hts⟩ (c_S_checkElement l hl9 G w q r t (sz j) s0 (nI o) k hq) (cwS 2 hts (nw_of (nw_3 nh_ml_S_52 nh_st_S_checkElement nh_in_S nh_co_S_checkElement)) rfl rfl rfl (by decide +kernel) ⟨Nat.le_of_ble_eq_true rfl, Nat.le_of_ble_eq_true rfl⟩) (g_preS hK hw hS _) rfl rfl hl.1 rfl (lv_room (Nat.le_of_ble_eq_true rfl)) nd_S_at_11 ⟨by exact Nat.le_of_ble_eq_true rfl, by exact Nat.le_of_ble_eq_true rfl⟩) hS (fun E ce q9 w2 H locs hthr hw hS h1 h2 h3 => g_out hne hlocks hw hS h1 h2 h3 (⟨hthr.2.1, 1, by rw [hthr.1]; rfl, sp_at_2 hj hthr.2.2⟩) (by exact Nat.le_of_ble_eq_true rfl) (by exact Nat.le_of_ble_eq_true rfl)) (fun w2 H locs hp hw hS => ?_)
  obtain ⟨hw9, hr9⟩ := hp
  rw [hw9] at hw
  obtain ⟨x, hx1, rfl⟩ := sp_elo hn3 hr9
  refine lv_aload_n hx hb nd_S_at_14 rfl (lv_at hl 0 rfl) ?_
  refine xw_get (T := nT_S) (N := 4) (ci := 4) hx hb hT nu_S hown hK.1 hw hh rfl 1 (by decide) (hT _ nh_fl_S_19) (fun _ h9 => h9) rfl nd_S_at_15 ?_
  refine lv_iload_n hx hb nd_S_at_18 rfl (lv_at hl 1 rfl) ?_
  refine xw_aald (y := q) hx hb hK.1 hw 3 hsl rfl (vp_in_nI (by omega) (by decide)) (by rw [nI_clamp (by omega)]; exact hg) nd_S_at_19 ?_
  refine lv_iload_n hx hb nd_S_at_20 rfl (lv_at hl 2 rfl) ?_
  refine g_calll (va_runV (As := [.int (nI x)]) (rest := []) ⟨hx, hb, hml, hown, hts⟩ (c_Q_element l G w q r t o (sz j) x s0 hSo.2.1 hn3 hx1 hq hSo.2.2.2.1 hSo.2.2.2.2.1) (cwV (C := nR_Q) 1 hts (nw_of (nw_4 nh_ml_S_56 nh_im_Q_element nh_se_Q_element nh_in_Q nh_co_Q_element)) rfl rfl rfl (by decide +kernel) ⟨Nat.le_of_ble_eq_true rfl, Nat.le_of_ble_eq_true rfl⟩) (g_preV (ci := 3) (q := (nR_Q, nT_Q, 5)) hK hw hS rfl hq _) rfl rfl hl.1 rfl (lv_room (Nat.le_of_ble_eq_true rfl)) nd_S_at_21 ⟨by exact Nat.le_of_ble_eq_true rfl, by exact Nat.le_of_ble_eq_true rfl⟩) hS (fun v9 w3 H locs hp hw hS => ?_)
  obtain ⟨rfl, hw9⟩ := hp
  rw [hw9] at hw
  refine lv_topl (fun y4 ey5 => ?_)
  obtain rfl : y4 = vs j x := ey5.trans (hSo.2.2.2.2.2.2 x hx1)
  exact vx_ret (g_lret hx hb hr hlocks hw hS (by rw [sp_at_0 hj hn3 hx1]; exact ⟨rfl, rfl, ⟨L, bd, g, by omega, hI⟩, sh_F.rf⟩) (by exact Nat.le_of_ble_eq_true rfl) (by exact Nat.le_of_ble_eq_true rfl) nd_S_at_24)

set_option maxHeartbeats 4000000 in
set_option maxRecDepth 100000 in
theorem c_S_size (l : Launch) (hl9 : l.stackTraces = false) (G : g_G) (w : xw_W) (h e0 sl K : Nat) (S : sp_S) (hSt : sh_S G w h e0 sl S K) (hK9 : K + 1 < 2 ^ 31) (a : Int32) : vx_Met l ny_S_size nw_S_size ({ frames := 8, cells := 16, slots := 200, locals := 160 }) (g_Pc G w [.ref h, .int a]) (g_Qi G (fun v9 w' => sh_Post G w h e0 sl K (sp_size S a) v9.toInt64 w')) (g_X G (sh_T S w (sp_size S a) [g_IAE])) 16 200 (xw_A (g_b G)) := by
  refine g_xmet (by decide) (Nat.le_of_ble_eq_true rfl) rfl ?_
  intro p e s m below meth c ls hx hb hr hts hown hlocks hne hml hl hK hB hw hS
  have hT : ∀ w ∈ nw_T, w.before _ s = true := fun w h => hts w (List.mem_cons_of_mem _ h)
  have hown : s.vm.findClass "RadixShelf" = some m.cls := hown
  have hl : lv_has ls 2 [(0, .ref h), (1, .int a)] := hl
  obtain ⟨op, sz, vs⟩ := S
  obtain ⟨L, bd, g, hLK, hI⟩ := hSt
  have hI : sh_I G w h e0 sl op sz vs L bd g := hI
  obtain ⟨hh, hsl, hW, hfr, hop, hsq, he0, hbd⟩ := id hI
  refine lv_iload_n hx hb nd_S_size_0 rfl (lv_at hl 1 rfl) ?_
  refine g_xcallv (vx_runS (As := [.int a]) (rest := []) ⟨hx, hb, hml, hown, hts⟩ (c_S_checkSlot l hl9 G w a) (cwS 1 hts (nw_of (nw_3 nh_ml_S_30 nh_st_S_checkSlot nh_in_S nh_co_S_checkSlot)) rfl rfl rfl (by decide +kernel) ⟨Nat.le_of_ble_eq_true rfl, Nat.le_of_ble_eq_true rfl⟩) (g_preS hK hw hS _) rfl rfl hl.1 rfl (lv_room (Nat.le_of_ble_eq_true rfl)) nd_S_size_1 ⟨by exact Nat.le_of_ble_eq_true rfl, by exact Nat.le_of_ble_eq_true rfl⟩) hS (fun E ce q9 w1 H locs hthr hw hS h1 h2 h3 => g_out hne hlocks hw hS h1 h2 h3 (⟨hthr.2.1, 0, by rw [hthr.1]; rfl, sp_size_1 hthr.2.2⟩) (by exact Nat.le_of_ble_eq_true rfl) (by exact Nat.le_of_ble_eq_true rfl)) (fun w1 H locs hp hw hS => ?_)
  obtain ⟨hw9, hr9⟩ := hp
  rw [hw9] at hw
  obtain ⟨j, hj, rfl⟩ := sp_sl_of hr9
  refine lv_aload_n hx hb nd_S_size_4 rfl (lv_at hl 0 rfl) ?_
  refine xw_get (T := nT_S) (N := 4) (ci := 4) hx hb hT nu_S hown hK.1 hw hh rfl 1 (by decide) (hT _ nh_fl_S_19) (fun _ h9 => h9) rfl nd_S_size_5 ?_
  refine lv_iload_n hx hb nd_S_size_8 rfl (lv_at hl 1 rfl) ?_
  obtain ⟨q, hg, hnb, s0, r, t, o, hSo⟩ := hsq j hj
  have hq := hSo.1
  refine xw_aald (y := q) hx hb hK.1 hw 3 hsl rfl (vp_in_nI (by omega) (by decide)) (by rw [nI_clamp (by omega)]; exact hg) nd_S_size_9 ?_
  refine xw_get (T := nT_Q) (N := 5) (ci := 3) hx hb hT nu_Q hown hK.1 hw hq rfl 4 (by decide) (hT _ nh_fl_S_46) (fun _ h9 => h9) rfl nd_S_size_10 ?_
  exact vx_ret (g_iret hx hb hr hlocks hw hS (by rw [sp_size_0 hj]; exact ⟨rfl, rfl, ⟨L, bd, g, by omega, hI⟩, sh_F.rf⟩) (by exact Nat.le_of_ble_eq_true rfl) (by exact Nat.le_of_ble_eq_true rfl) nd_S_size_13)
