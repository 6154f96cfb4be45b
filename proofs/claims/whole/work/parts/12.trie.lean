theorem tr_tb_eq {o n : Nat} (hn : n ≤ 3000) : (o + (nI n - 1).toBitVec.toNat) % 32768 / 32 = tr_tb o n := by
  have e : (nI n - 1).toBitVec.toNat = (n + (2 ^ 32 - 1)) % 2 ^ 32 := by
    rw [Int32.toBitVec_sub, BitVec.toNat_sub, pk_tn (by omega)]
    show (2 ^ 32 - 1 + n) % 2 ^ 32 = _
    omega
  unfold tr_tb
  rw [e]
  omega
theorem tr_hang0 {cJ cL cB d q M r r1 t leaf : Nat} {o n : Int32} {w w1 w2 : tr_W} (hW : tr_Wi w M) (hd : d ≤ M) (hq : w q = some (tr_S (nI d) r t o n)) (hR : tr_okR cJ cL cB w r) (hlf : tr_okL cJ w leaf)
    (h1 : tr_Ow tr_kR d w w1 r r1) (h2 : w2 = va_up w1 q (some (tr_S (nI d) r1 t o n))) : tr_Wi w2 M ∧ tr_okR cJ cL cB w2 r1 ∧ tr_stp w2 r1 = nI d ∧ tr_okL cJ w2 leaf := by
  obtain ⟨K1, W1, n1, s1, -, m1, f1, x1⟩ := h1.out (q := q) hW hd hR.1
  obtain ⟨R1, b1, l1⟩ := tr_okR_own (q := q) hW hd hR h1
  have q1 : w1 q = some (tr_S (nI d) r t o n) := x1 _ _ hq
  have m2 : ∀ k n, tr_isN w1 k n → tr_Same w1 w2 n := fun k n hn => by rw [h2]; exact tr_sq_same W1 q1 hn
  have L1 := tr_okL_same hlf (m1 _ _ hlf.1)
  exact ⟨by rw [h2]; exact tr_sq_Wi W1 q1, (tr_okR_all R1 m2).1, by rw [(m2 _ _ R1.1).stp]; exact s1, tr_okL_same L1 (m2 _ _ L1.1)⟩

set_option maxHeartbeats 4000000 in
set_option maxRecDepth 100000 in
theorem c_R_leafOf (l : Launch) (G : g_G) (w : xw_W) (r b : Nat) (hR : tr_okR (G.2.1 0) (G.2.1 1) (G.2.1 2) w r) (hb0 : b < 1024) : Met l ny_R_leafOf nw_R_leafOf ({ frames := 0, cells := 0, slots := 0, locals := 0 }) (g_Pc G w [.ref r, .int (nI b)]) (g_Qr G (fun v w' => v = tr_lfb w r b ∧ w' = w)) 0 0 (xw_A (g_b G)) := by
  refine g_met (by decide) (Nat.le_of_ble_eq_true rfl) rfl ?_
  intro p e s m below meth c ls hx hb hr hts hown hlocks hin hml hl hK hB hw hS
  have hT : ∀ w ∈ nw_T, w.before _ s = true := fun w h => hts w (List.mem_cons_of_mem _ h)
  have hown : s.vm.findClass "RadixShelf$Root" = some m.cls := hown
  have hl : lv_has ls 2 [(0, .ref r), (1, .int (nI b))] := hl
  have hr0 : w r = some (.inr (2, [.int (tr_stp w r), .ref (tr_arr w r)])) := hR.1.cell
  obtain ⟨f, hf, hj⟩ := hR.2.1
  have hY := hR.br (show b / 32 < 32 by omega)
  obtain ⟨y, ey⟩ : ∃ y, y = tr_brn w r (b / 32) := ⟨_, rfl⟩
  rw [← ey] at hY
  have hy0 : w y = some (.inr (0, [.int (tr_stp w y), .ref (tr_arr w y)])) := hY.1.cell
  obtain ⟨f2, hf2, hj2⟩ := hY.2.1
  have h1 : f (b / 32) = some y := by rw [ey]; exact hj _ (by omega)
  have h2 : f2 (b % 32) = some (tr_lfb w r b) := by rw [hj2 (b % 32) (by omega), ey]; rfl
  refine lv_aload_n hx hb nd_R_leafOf_0 rfl (lv_at hl 0 rfl) ?_
  refine xw_get (T := nT_R) (N := 2) (ci := 2) hx hb hT nu_R hown hK.1 hw hr0 rfl 1 (by decide) (hT _ nh_fl_R_15) (fun _ h9 => h9) rfl nd_R_leafOf_1 ?_
  refine lv_iload_n hx hb nd_R_leafOf_4 rfl (lv_at hl 1 rfl) ?_
  refine lv_iconst (v := 5) hx hb nd_R_leafOf_5 (by decide) ?_
  refine lv_iushr (v := nI (b / 32)) hx hb nd_R_leafOf_6 (tr_ush5 (by omega)) ?_
  refine xw_aald (y := y) hx hb hK.1 hw 2 hf rfl (vp_in_nI (by omega) (by decide)) (by rw [nI_clamp (by omega)]; exact h1) nd_R_leafOf_7 ?_
  refine xw_get (T := nT_B) (N := 2) (ci := 0) hx hb hT nu_B hown hK.1 hw hy0 rfl 1 (by decide) (hT _ nh_fl_R_27) (fun _ h9 => h9) rfl nd_R_leafOf_8 ?_
  refine lv_iload_n hx hb nd_R_leafOf_11 rfl (lv_at hl 1 rfl) ?_
  refine lv_bipush (v := 31) hx hb nd_R_leafOf_12 (by decide) ?_
  refine lv_iand hx hb nd_R_leafOf_14 ?_
  refine lv_topi (fun y1 ey2 => ?_)
  obtain rfl : y1 = nI (b % 32) := ey2.trans (tr_and31 (by omega))
  refine xw_aald (y := (tr_lfb w r b)) hx hb hK.1 hw 1 hf2 rfl (vp_in_nI (by omega) (by decide)) (by rw [nI_clamp (by omega)]; exact h2) nd_R_leafOf_15 ?_
  exact g_aret hx hb hr hlocks hw hS (⟨rfl, rfl⟩) (by exact Nat.le_of_ble_eq_true rfl) (by exact Nat.le_of_ble_eq_true rfl) nd_R_leafOf_16

set_option maxHeartbeats 4000000 in
set_option maxRecDepth 100000 in
theorem c_R_hangOwned (l : Launch) (G : g_G) (w : xw_W) (M d r b leaf : Nat) (hW : tr_Wi w M) (hd : d ≤ M) (hR : tr_okR (G.2.1 0) (G.2.1 1) (G.2.1 2) w r) (hs : tr_stp w r = nI d) (hlf : tr_okL (G.2.1 0) w leaf) (hb0 : b < 1024) : Met l ny_R_hangOwned nw_R_hangOwned ({ frames := 3, cells := 2, slots := 34, locals := 55 }) (g_Pc G w [.ref r, .int (nI b), .ref leaf]) (g_Qv G (fun w' => ∃ y1 w3 w4 f4 f5, tr_Ow tr_kB d w w3 (tr_brn w r (b / 32)) y1 ∧ w3 (tr_arr w3 y1) = some (tr_Q (G.2.1 1) f4) ∧ w4 = va_up w3 (tr_arr w3 y1) (some (tr_Q (G.2.1 1) (va_up f4 (b % 32) (some leaf)))) ∧ w4 (tr_arr w3 r) = some (tr_Q (G.2.1 2) f5) ∧ w' = va_up w4 (tr_arr w3 r) (some (tr_Q (G.2.1 2) (va_up f5 (b / 32) (some y1)))))) 2 34 (xw_A (g_b G)) := by
  refine g_met (by decide) (Nat.le_of_ble_eq_true rfl) rfl ?_
  intro p e s m below meth c ls hx hb hr hts hown hlocks hin hml hl hK hB hw hS
  have hT : ∀ w ∈ nw_T, w.before _ s = true := fun w h => hts w (List.mem_cons_of_mem _ h)
  have hown : s.vm.findClass "RadixShelf$Root" = some m.cls := hown
  have hl : lv_has ls 4 [(0, .ref r), (1, .int (nI b)), (2, .ref leaf)] := hl
  have hr0 : w r = some (.inr (2, [.int (tr_stp w r), .ref (tr_arr w r)])) := hR.1.cell
  obtain ⟨f, hf, hj⟩ := hR.2.1
  have hY := hR.br (show b / 32 < 32 by omega)
  obtain ⟨y, ey⟩ : ∃ y, y = tr_brn w r (b / 32) := ⟨_, rfl⟩
  rw [← ey] at hY
  have hy0 : w y = some (.inr (0, [.int (tr_stp w y), .ref (tr_arr w y)])) := hY.1.cell
  obtain ⟨f2, hf2, hj2⟩ := hY.2.1
  have h1 : f (b / 32) = some y := by rw [ey]; exact hj _ (by omega)
  have h2 : f2 (b % 32) = some (tr_lfb w r b) := by rw [hj2 (b % 32) (by omega), ey]; rfl
  have hl0 : w leaf = some (.inr (1, [.int (tr_stp w leaf), .ref (tr_arr w leaf)])) := hlf.1.cell
  refine lv_aload_n hx hb nd_R_hangOwned_0 rfl (lv_at hl 0 rfl) ?_
  refine xw_get (T := nT_R) (N := 2) (ci := 2) hx hb hT nu_R hown hK.1 hw hr0 rfl 1 (by decide) (hT _ nh_fl_R_15) (fun _ h9 => h9) rfl nd_R_hangOwned_1 ?_
  refine lv_iload_n hx hb nd_R_hangOwned_4 rfl (lv_at hl 1 rfl) ?_
  refine lv_iconst (v := 5) hx hb nd_R_hangOwned_5 (by decide) ?_
  refine lv_iushr (v := nI (b / 32)) hx hb nd_R_hangOwned_6 (tr_ush5 (by omega)) ?_
  refine xw_aald (y := y) hx hb hK.1 hw 2 hf rfl (vp_in_nI (by omega) (by decide)) (by rw [nI_clamp (by omega)]; exact h1) nd_R_hangOwned_7 ?_
  refine lv_aload_n hx hb nd_R_hangOwned_8 rfl (lv_at hl 0 rfl) ?_
  refine xw_get (T := nT_R) (N := 2) (ci := 2) hx hb hT nu_R hown hK.1 hw hr0 rfl 0 (by decide) (hT _ nh_fl_R_9) (fun _ h9 => h9) rfl nd_R_hangOwned_9 ?_
  refine lv_topi (fun y1 ey2 => ?_)
  obtain rfl : y1 = nI d := ey2.trans (hs)
  refine g_callr (va_runV (As := [.int (nI d)]) (rest := []) ⟨hx, hb, hml, hown, hts⟩ (c_B_ownedBy l G w y (tr_arr w y) d (tr_stp w y) f2 hy0 hf2) (cwV (C := nR_B) 1 hts (nw_of (nw_4 nh_ml_R_33 nh_im_B_ownedBy nh_se_B_ownedBy nh_in_B nh_co_B_ownedBy)) rfl rfl rfl (by decide +kernel) ⟨Nat.le_of_ble_eq_true rfl, Nat.le_of_ble_eq_true rfl⟩) (g_preV (ci := 0) (q := (nR_B, nT_B, 2)) hK hw hS rfl hy0 _) rfl rfl hl.1 rfl (lv_room (Nat.le_of_ble_eq_true rfl)) nd_R_hangOwned_12 ⟨by exact Nat.le_of_ble_eq_true rfl, by exact Nat.le_of_ble_eq_true rfl⟩) hS (fun y1 w3 H locs hO hw hS => ?_)
  obtain ⟨-, W3, n3, s3, a3, m3, -, x3⟩ := hO.out (q := 0) hW hd hY.1
  have hy1 : w3 y1 = some (.inr (0, [.int (tr_stp w3 y1), .ref (tr_arr w3 y1)])) := n3.cell
  have hr3 : tr_isN w3 tr_kR r := tr_isN_eq (m3 _ _ hR.1).1 hR.1
  have har : tr_arr w3 r = tr_arr w r := (m3 _ _ hR.1).arr
  have hr0 : w3 r = some (.inr (2, [.int (tr_stp w r), .ref (tr_arr w r)])) := x3 _ _ hr0
  have hf2 : w3 (tr_arr w3 y1) = some (.inl (G.2.1 1, 32, .inr (.inr (.inr (.inr f2))))) := by rw [a3]; exact hf2
  have hf : w3 (tr_arr w r) = some (.inl (G.2.1 2, 32, .inr (.inr (.inr (.inr f))))) := x3 _ _ hf
  have hl0 : w3 leaf = some (.inr (1, [.int (tr_stp w leaf), .ref (tr_arr w leaf)])) := x3 _ _ hl0
  have hxx : tr_arr w r ≠ tr_arr w3 y1 := fun z => tr_kinds n3 hr3 (by decide) (W3.2.1 _ _ _ _ n3 hr3 (by rw [har]; exact z.symm))
  have hf20 := hf2
  refine lv_astore_n hx hb nd_R_hangOwned_15 rfl hl (by decide) (lv' := [(3, .ref y1), (0, .ref r), (1, .int (nI b)), (2, .ref leaf)]) rfl (fun ls hl => ?_)
  refine lv_aload_n hx hb nd_R_hangOwned_16 rfl (lv_at hl 0 rfl) ?_
  refine xw_get (T := nT_B) (N := 2) (ci := 0) hx hb hT nu_B hown hK.1 hw hy1 rfl 1 (by decide) (hT _ nh_fl_R_27) (fun _ h9 => h9) rfl nd_R_hangOwned_17 ?_
  refine lv_iload_n hx hb nd_R_hangOwned_20 rfl (lv_at hl 2 rfl) ?_
  refine lv_bipush (v := 31) hx hb nd_R_hangOwned_21 (by decide) ?_
  refine lv_iand hx hb nd_R_hangOwned_23 ?_
  refine lv_topi (fun y4 ey5 => ?_)
  obtain rfl : y4 = nI (b % 32) := ey5.trans (tr_and31 (by omega))
  refine lv_aload_n hx hb nd_R_hangOwned_24 rfl (lv_at hl 3 rfl) ?_
  refine xw_aast (r := (nR_F, nT_F, 2)) hx hb hK.1 hB hw hS 1 1 hf2 rfl hl0 rfl (vp_in_nI (by omega) (by decide)) nd_R_hangOwned_25 (fun H locs hw hS => ?_)
  rw [nI_clamp (by omega)] at hw
  obtain ⟨w6, ew7⟩ : ∃ z, z = va_up w3 (tr_arr w3 y1) (some (.inl (G.2.1 1, 32, .inr (.inr (.inr (.inr (va_up f2 (b % 32) (some leaf)))))))) := ⟨_, rfl⟩
  have hw : g_P G w6 H := by rw [ew7]; exact hw
  have hr0 : w6 r = some (.inr (2, [.int (tr_stp w r), .ref (tr_arr w r)])) := by rw [ew7, va_up_ne _ _ (xw_ne hr0 hf2 (by simp))]; exact hr0
  have hy1 : w6 y1 = some (.inr (0, [.int (tr_stp w3 y1), .ref (tr_arr w3 y1)])) := by rw [ew7, va_up_ne _ _ (xw_ne hy1 hf2 (by simp))]; exact hy1
  have hf : w6 (tr_arr w r) = some (.inl (G.2.1 2, 32, .inr (.inr (.inr (.inr f))))) := by rw [ew7, va_up_ne _ _ (hxx)]; exact hf
  have hl0 : w6 leaf = some (.inr (1, [.int (tr_stp w leaf), .ref (tr_arr w leaf)])) := by rw [ew7, va_up_ne _ _ (xw_ne hl0 hf2 (by simp))]; exact hl0
  have hf2 : w6 (tr_arr w3 y1) = some (.inl (G.2.1 1, 32, .inr (.inr (.inr (.inr (va_up f2 (b % 32) (some leaf))))))) := by rw [ew7]; exact va_up_self _ _ _
  have hf9 := hf
  refine lv_aload_n hx hb nd_R_hangOwned_26 rfl (lv_at hl 1 rfl) ?_
  refine xw_get (T := nT_R) (N := 2) (ci := 2) hx hb hT nu_R hown hK.1 hw hr0 rfl 1 (by decide) (hT _ nh_fl_R_15) (fun _ h9 => h9) rfl nd_R_hangOwned_27 ?_
  refine lv_iload_n hx hb nd_R_hangOwned_30 rfl (lv_at hl 2 rfl) ?_
  refine lv_iconst (v := 5) hx hb nd_R_hangOwned_31 (by decide) ?_
  refine lv_iushr (v := nI (b / 32)) hx hb nd_R_hangOwned_32 (tr_ush5 (by omega)) ?_
  refine lv_aload_n hx hb nd_R_hangOwned_33 rfl (lv_at hl 0 rfl) ?_
  refine xw_aast (r := (nR_B, nT_B, 2)) hx hb hK.1 hB hw hS 2 0 hf rfl hy1 rfl (vp_in_nI (by omega) (by decide)) nd_R_hangOwned_34 (fun H locs hw hS => ?_)
  rw [nI_clamp (by omega)] at hw
  obtain ⟨w8, ew9⟩ : ∃ z, z = va_up w6 (tr_arr w r) (some (.inl (G.2.1 2, 32, .inr (.inr (.inr (.inr (va_up f (b / 32) (some y1)))))))) := ⟨_, rfl⟩
  have hw : g_P G w8 H := by rw [ew9]; exact hw
  have hr0 : w8 r = some (.inr (2, [.int (tr_stp w r), .ref (tr_arr w r)])) := by rw [ew9, va_up_ne _ _ (xw_ne hr0 hf (by simp))]; exact hr0
  have hy1 : w8 y1 = some (.inr (0, [.int (tr_stp w3 y1), .ref (tr_arr w3 y1)])) := by rw [ew9, va_up_ne _ _ (xw_ne hy1 hf (by simp))]; exact hy1
  have hf2 : w8 (tr_arr w3 y1) = some (.inl (G.2.1 1, 32, .inr (.inr (.inr (.inr (va_up f2 (b % 32) (some leaf))))))) := by rw [ew9, va_up_ne _ _ (Ne.symm hxx)]; exact hf2
  have hl0 : w8 leaf = some (.inr (1, [.int (tr_stp w leaf), .ref (tr_arr w leaf)])) := by rw [ew9, va_up_ne _ _ (xw_ne hl0 hf (by simp))]; exact hl0
  have hf : w8 (tr_arr w r) = some (.inl (G.2.1 2, 32, .inr (.inr (.inr (.inr (va_up f (b / 32) (some y1))))))) := by rw [ew9]; exact va_up_self _ _ _
  exact g_vret hx hb hr hlocks hw hS (⟨y1, w3, w6, f2, f, by rw [← ey]; exact hO, hf20, ew7, by rw [har]; exact hf9, by rw [har]; exact ew9⟩) (by exact Nat.le_of_ble_eq_true rfl) (by exact Nat.le_of_ble_eq_true rfl) nd_R_hangOwned_35

set_option maxHeartbeats 4000000 in
set_option maxRecDepth 100000 in
theorem c_Q_hang (l : Launch) (G : g_G) (w : xw_W) (M d q r t b leaf : Nat) (o n : Int32) (hW : tr_Wi w M) (hd : d ≤ M) (hq : w q = some (.inr (3, [.int (nI d), .ref r, .ref t, .int o, .int n]))) (hR : tr_okR (G.2.1 0) (G.2.1 1) (G.2.1 2) w r) (hU : tr_Ub w r d) (hlf : tr_okL (G.2.1 0) w leaf) (hb0 : b < 1024) : Met l ny_Q_hang nw_Q_hang ({ frames := 4, cells := 4, slots := 68, locals := 80 }) (g_Pc G w [.ref q, .int (nI b), .ref leaf]) (g_Qv G (fun w' => ∃ r1, tr_Hg (G.2.1 0) (G.2.1 1) (G.2.1 2) M d q r t b leaf o n w w' r1)) 4 68 (xw_A (g_b G)) := by
  refine g_met (by decide) (Nat.le_of_ble_eq_true rfl) rfl ?_
  intro p e s m below meth c ls hx hb hr hts hown hlocks hin hml hl hK hB hw hS
  have hT : ∀ w ∈ nw_T, w.before _ s = true := fun w h => hts w (List.mem_cons_of_mem _ h)
  have hown : s.vm.findClass "RadixShelf$Sequence" = some m.cls := hown
  have hl : lv_has ls 3 [(0, .ref q), (1, .int (nI b)), (2, .ref leaf)] := hl
  have hq0 := hq
  have hr0 : w r = some (.inr (2, [.int (tr_stp w r), .ref (tr_arr w r)])) := hR.1.cell
  obtain ⟨f, hf, hj⟩ := hR.2.1
  refine lv_aload_n hx hb nd_Q_hang_0 rfl (lv_at hl 0 rfl) ?_
  refine lv_aload_n hx hb nd_Q_hang_1 rfl (lv_at hl 0 rfl) ?_
  refine xw_get (T := nT_Q) (N := 5) (ci := 3) hx hb hT nu_Q hown hK.1 hw hq rfl 1 (by decide) (hT _ nh_fl_Q_15) (fun _ h9 => h9) rfl nd_Q_hang_2 ?_
  refine lv_aload_n hx hb nd_Q_hang_5 rfl (lv_at hl 0 rfl) ?_
  refine xw_get (T := nT_Q) (N := 5) (ci := 3) hx hb hT nu_Q hown hK.1 hw hq rfl 0 (by decide) (hT _ nh_fl_Q_9) (fun _ h9 => h9) rfl nd_Q_hang_6 ?_
  refine g_callr (va_runV (As := [.int (nI d)]) (rest := [.ref q]) ⟨hx, hb, hml, hown, hts⟩ (c_R_ownedBy l G w r (tr_arr w r) d (tr_stp w r) f hr0 hf) (cwV (C := nR_R) 1 hts (nw_of (nw_4 nh_ml_Q_61 nh_im_R_ownedBy nh_se_R_ownedBy nh_in_R nh_co_R_ownedBy)) rfl rfl rfl (by decide +kernel) ⟨Nat.le_of_ble_eq_true rfl, Nat.le_of_ble_eq_true rfl⟩) (g_preV (ci := 2) (q := (nR_R, nT_R, 2)) hK hw hS rfl hr0 _) rfl rfl hl.1 rfl (lv_room (Nat.le_of_ble_eq_true rfl)) nd_Q_hang_9 ⟨by exact Nat.le_of_ble_eq_true rfl, by exact Nat.le_of_ble_eq_true rfl⟩) hS (fun r1 w1 H locs hO hw hS => ?_)
  obtain ⟨-, W1, n1, s1, -, m1, -, x1⟩ := hO.out (q := q) hW hd hR.1
  have hq : w1 q = some (.inr (3, [.int (nI d), .ref r, .ref t, .int o, .int n])) := x1 _ _ hq
  have hr1 : w1 r1 = some (.inr (2, [.int (tr_stp w1 r1), .ref (tr_arr w1 r1)])) := n1.cell
  refine xw_put (T := nT_Q) (N := 5) (ci := 3) (v := .ref r1) (ty := (.object "RadixShelf$Root")) hx hb hT nu_Q nt_Q nk_Q nn_Q hown hK.1 hB hw hS hq rfl 1 (by decide) (hT _ nh_fl_Q_15) (fun _ h9 => h9) rfl (by decide +kernel) rfl rfl (Nat.le_of_ble_eq_true rfl) nd_Q_hang_12 (fun H locs hw hS => ?_)
  obtain ⟨w2, ew3⟩ : ∃ z, z = va_up w1 q (some (.inr (3, [.int (nI d), .ref r1, .ref t, .int o, .int n]))) := ⟨_, rfl⟩
  have hw : g_P G w2 H := by rw [ew3]; exact hw
  have hr1 : w2 r1 = some (.inr (2, [.int (tr_stp w1 r1), .ref (tr_arr w1 r1)])) := by rw [ew3, va_up_ne _ _ (xw_ne hr1 hq (by simp))]; exact hr1
  have hq : w2 q = some (.inr (3, [.int (nI d), .ref r1, .ref t, .int o, .int n])) := by rw [ew3]; exact va_up_self _ _ _
  refine lv_aload_n hx hb nd_Q_hang_15 rfl (lv_at hl 0 rfl) ?_
  refine xw_get (T := nT_Q) (N := 5) (ci := 3) hx hb hT nu_Q hown hK.1 hw hq rfl 1 (by decide) (hT _ nh_fl_Q_15) (fun _ h9 => h9) rfl nd_Q_hang_16 ?_
  refine lv_iload_n hx hb nd_Q_hang_19 rfl (lv_at hl 1 rfl) ?_
  refine lv_aload_n hx hb nd_Q_hang_20 rfl (lv_at hl 2 rfl) ?_
  obtain ⟨W2, R2, s2, L2⟩ := tr_hang0 hW hd hq0 hR hlf hO ew3
  refine g_callv (va_runV (As := [.int (nI b), .ref leaf]) (rest := []) ⟨hx, hb, hml, hown, hts⟩ (c_R_hangOwned l G w2 M d r1 b leaf W2 hd R2 s2 L2 hb0) (cwV (C := nR_R) 2 hts (nw_of (nw_4 nh_ml_Q_64 nh_im_R_hangOwned nh_se_R_hangOwned nh_in_R nh_co_R_hangOwned)) rfl rfl rfl (by decide +kernel) ⟨Nat.le_of_ble_eq_true rfl, Nat.le_of_ble_eq_true rfl⟩) (g_preV (ci := 2) (q := (nR_R, nT_R, 2)) hK hw hS rfl hr1 _) rfl rfl hl.1 rfl (lv_room (Nat.le_of_ble_eq_true rfl)) nd_Q_hang_21 ⟨by exact Nat.le_of_ble_eq_true rfl, by exact Nat.le_of_ble_eq_true rfl⟩) hS (fun w4 H locs hp hw hS => ?_)
  obtain ⟨y1, w3, w4, f4, f5, h3, h4, h4e, h5, h5e⟩ := hp
  exact g_vret hx hb hr hlocks hw hS (⟨r1, tr_hang hW hd hq0 hR hU hlf hb0 hO ew3 h3 h4 h4e h5 h5e⟩) (by exact Nat.le_of_ble_eq_true rfl) (by exact Nat.le_of_ble_eq_true rfl) nd_Q_hang_24

set_option maxHeartbeats 4000000 in
set_option maxRecDepth 100000 in
theorem c_Q_tailBlock (l : Launch) (G : g_G) (w : xw_W) (q r t o n : Nat) (st : Int32) (ho : o < 32768) (hn : n ≤ 3000) (hq : w q = some (.inr (3, [.int st, .ref r, .ref t, .int (nI o), .int (nI n)]))) : Met l ny_Q_tailBlock nw_Q_tailBlock ({ frames := 1, cells := 0, slots := 0, locals := 21 }) (g_Pc G w [.ref q]) (g_Qi G (fun v w' => v = nI (tr_tb o n) ∧ w' = w)) 0 0 (xw_A (g_b G)) := by
  refine g_met (by decide) (Nat.le_of_ble_eq_true rfl) rfl ?_
  intro p e s m below meth c ls hx hb hr hts hown hlocks hin hml hl hK hB hw hS
  have hT : ∀ w ∈ nw_T, w.before _ s = true := fun w h => hts w (List.mem_cons_of_mem _ h)
  have hown : s.vm.findClass "RadixShelf$Sequence" = some m.cls := hown
  have hl : lv_has ls 1 [(0, .ref q)] := hl
  refine lv_aload_n hx hb nd_Q_tailBlock_0 rfl (lv_at hl 0 rfl) ?_
  refine lv_aload_n hx hb nd_Q_tailBlock_1 rfl (lv_at hl 0 rfl) ?_
  refine xw_get (T := nT_Q) (N := 5) (ci := 3) hx hb hT nu_Q hown hK.1 hw hq rfl 4 (by decide) (hT _ nh_fl_Q_26) (fun _ h9 => h9) rfl nd_Q_tailBlock_2 ?_
  refine lv_iconst (v := 1) hx hb nd_Q_tailBlock_5 (by decide) ?_
  refine lv_isub hx hb nd_Q_tailBlock_6 ?_
  refine g_calli (va_runV (As := [.int ((nI n) - 1)]) (rest := []) ⟨hx, hb, hml, hown, hts⟩ (c_Q_position l G w q r t o st (nI n) (nI n - 1) ho hq) (cwV (C := nR_Q) 1 hts (nw_of (nw_4 nh_ml_Q_29 nh_im_Q_position nh_se_Q_position nh_in_Q nh_co_Q_position)) rfl rfl rfl (by decide +kernel) ⟨Nat.le_of_ble_eq_true rfl, Nat.le_of_ble_eq_true rfl⟩) (g_preV (ci := 3) (q := (nR_Q, nT_Q, 5)) hK hw hS rfl hq _) rfl rfl hl.1 rfl (lv_room (Nat.le_of_ble_eq_true rfl)) nd_Q_tailBlock_7 ⟨by exact Nat.le_of_ble_eq_true rfl, by exact Nat.le_of_ble_eq_true rfl⟩) hS (fun v w1 H locs hp hw hS => ?_)
  obtain ⟨rfl, hw9⟩ := hp
  rw [hw9] at hw
  refine lv_iconst (v := 5) hx hb nd_Q_tailBlock_10 (by decide) ?_
  refine lv_iushr (v := nI (tr_tb o n)) hx hb nd_Q_tailBlock_11 ((tr_ush5 (by omega)).trans (congrArg nI (tr_tb_eq hn))) ?_
  exact g_iret hx hb hr hlocks hw hS (⟨rfl, rfl⟩) (by exact Nat.le_of_ble_eq_true rfl) (by exact Nat.le_of_ble_eq_true rfl) nd_Q_tailBlock_12

set_option maxHeartbeats 4000000 in
set_option maxRecDepth 100000 in
theorem c_Q_leafOf (l : Launch) (G : g_G) (w : xw_W) (q r t o n b : Nat) (st : Int32) (ho : o < 32768) (hn : n ≤ 3000) (hq : w q = some (.inr (3, [.int st, .ref r, .ref t, .int (nI o), .int (nI n)]))) (hR : tr_okR (G.2.1 0) (G.2.1 1) (G.2.1 2) w r) (hb0 : b < 1024) : Met l ny_Q_leafOf nw_Q_leafOf ({ frames := 2, cells := 0, slots := 0, locals := 41 }) (g_Pc G w [.ref q, .int (nI b)]) (g_Qr G (fun v w' => v = tr_blk w r t (tr_tb o n) b ∧ w' = w)) 0 0 (xw_A (g_b G)) := by
  refine g_met (by decide) (Nat.le_of_ble_eq_true rfl) rfl ?_
  intro p e s m below meth c ls hx hb hr hts hown hlocks hin hml hl hK hB hw hS
  have hT : ∀ w ∈ nw_T, w.before _ s = true := fun w h => hts w (List.mem_cons_of_mem _ h)
  have hown : s.vm.findClass "RadixShelf$Sequence" = some m.cls := hown
  have hl : lv_has ls 2 [(0, .ref q), (1, .int (nI b))] := hl
  have hr0 : w r = some (.inr (2, [.int (tr_stp w r), .ref (tr_arr w r)])) := hR.1.cell
  have hTl := tr_tb_lt o n
  refine lv_iload_n hx hb nd_Q_leafOf_0 rfl (lv_at hl 1 rfl) ?_
  refine lv_aload_n hx hb nd_Q_leafOf_1 rfl (lv_at hl 0 rfl) ?_
  refine g_calli (va_runV (As := []) (rest := [.int (nI b)]) ⟨hx, hb, hml, hown, hts⟩ (c_Q_tailBlock l G w q r t o n st ho hn hq) (cwV (C := nR_Q) 0 hts (nw_of (nw_4 nh_ml_Q_43 nh_im_Q_tailBlock nh_se_Q_tailBlock nh_in_Q nh_co_Q_tailBlock)) rfl rfl rfl (by decide +kernel) ⟨Nat.le_of_ble_eq_true rfl, Nat.le_of_ble_eq_true rfl⟩) (g_preV (ci := 3) (q := (nR_Q, nT_Q, 5)) hK hw hS rfl hq _) rfl rfl hl.1 rfl (lv_room (Nat.le_of_ble_eq_true rfl)) nd_Q_leafOf_2 ⟨by exact Nat.le_of_ble_eq_true rfl, by exact Nat.le_of_ble_eq_true rfl⟩) hS (fun v w1 H locs hp hw hS => ?_)
  obtain ⟨rfl, hw9⟩ := hp
  rw [hw9] at hw
  refine lv_icmp_ne (tgt := 15) hx hb nd_Q_leafOf_5 (by decide) (fun hc => ?_) (fun hc => ?_)
  · refine lv_aload_n hx hb nd_Q_leafOf_15 rfl (lv_at hl 0 rfl) ?_
    refine xw_get (T := nT_Q) (N := 5) (ci := 3) hx hb hT nu_Q hown hK.1 hw hq rfl 1 (by decide) (hT _ nh_fl_Q_15) (fun _ h9 => h9) rfl nd_Q_leafOf_16 ?_
    refine lv_iload_n hx hb nd_Q_leafOf_19 rfl (lv_at hl 1 rfl) ?_
    refine g_callr (va_runV (As := [.int (nI b)]) (rest := []) ⟨hx, hb, hml, hown, hts⟩ (c_R_leafOf l G w r b hR hb0) (cwV (C := nR_R) 1 hts (nw_of (nw_4 nh_ml_Q_51 nh_im_R_leafOf nh_se_R_leafOf nh_in_R nh_co_R_leafOf)) rfl rfl rfl (by decide +kernel) ⟨Nat.le_of_ble_eq_true rfl, Nat.le_of_ble_eq_true rfl⟩) (g_preV (ci := 2) (q := (nR_R, nT_R, 2)) hK hw hS rfl hr0 _) rfl rfl hl.1 rfl (lv_room (Nat.le_of_ble_eq_true rfl)) nd_Q_leafOf_20 ⟨by exact Nat.le_of_ble_eq_true rfl, by exact Nat.le_of_ble_eq_true rfl⟩) hS (fun v w2 H locs hp hw hS => ?_)
    obtain ⟨rfl, hw9⟩ := hp
    rw [hw9] at hw
    exact g_aret hx hb hr hlocks hw hS (⟨by unfold tr_blk; rw [if_neg (fun z => hc (by rw [z]))], rfl⟩) (by exact Nat.le_of_ble_eq_true rfl) (by exact Nat.le_of_ble_eq_true rfl) nd_Q_leafOf_23
  · refine lv_aload_n hx hb nd_Q_leafOf_8 rfl (lv_at hl 0 rfl) ?_
    refine xw_get (T := nT_Q) (N := 5) (ci := 3) hx hb hT nu_Q hown hK.1 hw hq rfl 2 (by decide) (hT _ nh_fl_Q_19) (fun _ h9 => h9) rfl nd_Q_leafOf_9 ?_
    refine lv_goto (tgt := 23) hx hb nd_Q_leafOf_12 (by decide) ?_
    exact g_aret hx hb hr hlocks hw hS (⟨by unfold tr_blk; rw [if_pos ((nI_eq (by omega) (by omega)).mp hc)], rfl⟩) (by exact Nat.le_of_ble_eq_true rfl) (by exact Nat.le_of_ble_eq_true rfl) nd_Q_leafOf_23

set_option maxHeartbeats 4000000 in
set_option maxRecDepth 100000 in
theorem c_Q_element (l : Launch) (G : g_G) (w : xw_W) (q r t o n i : Nat) (st : Int32) (ho : o < 32768) (hn : n ≤ 3000) (hi : i < n) (hq : w q = some (.inr (3, [.int st, .ref r, .ref t, .int (nI o), .int (nI n)]))) (hR : tr_okR (G.2.1 0) (G.2.1 1) (G.2.1 2) w r) (hT0 : tr_okL (G.2.1 0) w t) : Met l ny_Q_element nw_Q_element ({ frames := 3, cells := 0, slots := 0, locals := 62 }) (g_Pc G w [.ref q, .int (nI i)]) (g_Ql G (fun v w' => v = tr_vl w r t (tr_tb o n) ((o + i) % 32768) ∧ w' = w)) 0 0 (xw_A (g_b G)) := by
  refine g_met (by decide) (Nat.le_of_ble_eq_true rfl) rfl ?_
  intro p e s m below meth c ls hx hb hr hts hown hlocks hin hml hl hK hB hw hS
  have hT : ∀ w ∈ nw_T, w.before _ s = true := fun w h => hts w (List.mem_cons_of_mem _ h)
  have hown : s.vm.findClass "RadixShelf$Sequence" = some m.cls := hown
  have hl : lv_has ls 3 [(0, .ref q), (1, .int (nI i))] := hl
  refine lv_aload_n hx hb nd_Q_element_0 rfl (lv_at hl 0 rfl) ?_
  refine lv_iload_n hx hb nd_Q_element_1 rfl (lv_at hl 1 rfl) ?_
  refine g_calli (va_runV (As := [.int (nI i)]) (rest := []) ⟨hx, hb, hml, hown, hts⟩ (c_Q_position l G w q r t o st (nI n) (nI i) ho hq) (cwV (C := nR_Q) 1 hts (nw_of (nw_4 nh_ml_Q_29 nh_im_Q_position nh_se_Q_position nh_in_Q nh_co_Q_position)) rfl rfl rfl (by decide +kernel) ⟨Nat.le_of_ble_eq_true rfl, Nat.le_of_ble_eq_true rfl⟩) (g_preV (ci := 3) (q := (nR_Q, nT_Q, 5)) hK hw hS rfl hq _) rfl rfl hl.1 rfl (lv_room (Nat.le_of_ble_eq_true rfl)) nd_Q_element_2 ⟨by exact Nat.le_of_ble_eq_true rfl, by exact Nat.le_of_ble_eq_true rfl⟩) hS (fun v w1 H locs hp hw hS => ?_)
  obtain ⟨rfl, hw9⟩ := hp
  rw [hw9] at hw
  refine lv_topi (fun y2 ey3 => ?_)
  obtain rfl : y2 = nI ((o + i) % 32768) := ey3.trans (by rw [pk_tn (by omega)])
  refine lv_istore_n hx hb nd_Q_element_5 rfl hl (by decide) (lv' := [(2, .int (nI ((o + i) % 32768))), (0, .ref q), (1, .int (nI i))]) rfl (fun ls hl => ?_)
  refine lv_aload_n hx hb nd_Q_element_6 rfl (lv_at hl 1 rfl) ?_
  refine lv_iload_n hx hb nd_Q_element_7 rfl (lv_at hl 0 rfl) ?_
  refine lv_iconst (v := 5) hx hb nd_Q_element_8 (by decide) ?_
  refine lv_iushr (v := nI ((o + i) % 32768 / 32)) hx hb nd_Q_element_9 (tr_ush5 (by omega)) ?_
  refine g_callr (va_runV (As := [.int (nI ((o + i) % 32768 / 32))]) (rest := []) ⟨hx, hb, hml, hown, hts⟩ (c_Q_leafOf l G w q r t o n ((o + i) % 32768 / 32) st ho hn hq hR (by omega)) (cwV (C := nR_Q) 1 hts (nw_of (nw_4 nh_ml_Q_33 nh_im_Q_leafOf nh_se_Q_leafOf nh_in_Q nh_co_Q_leafOf)) rfl rfl rfl (by decide +kernel) ⟨Nat.le_of_ble_eq_true rfl, Nat.le_of_ble_eq_true rfl⟩) (g_preV (ci := 3) (q := (nR_Q, nT_Q, 5)) hK hw hS rfl hq _) rfl rfl hl.1 rfl (lv_room (Nat.le_of_ble_eq_true rfl)) nd_Q_element_10 ⟨by exact Nat.le_of_ble_eq_true rfl, by exact Nat.le_of_ble_eq_true rfl⟩) hS (fun z w4 H locs hp hw hS => ?_)
  obtain ⟨ez, hw9⟩ := hp
  rw [hw9] at hw
  have hZ : tr_okL (G.2.1 0) w z := by rw [ez]; exact tr_blk_ok hR hT0 (by omega)
  have hz0 : w z = some (.inr (1, [.int (tr_stp w z), .ref (tr_arr w z)])) := hZ.1.cell
  obtain ⟨f, hf⟩ := hZ.2
  refine xw_get (T := nT_F) (N := 2) (ci := 1) hx hb hT nu_F hown hK.1 hw hz0 rfl 1 (by decide) (hT _ nh_fl_Q_37) (fun _ h9 => h9) rfl nd_Q_element_13 ?_
  refine lv_iload_n hx hb nd_Q_element_16 rfl (lv_at hl 0 rfl) ?_
  refine lv_bipush (v := 31) hx hb nd_Q_element_17 (by decide) ?_
  refine lv_iand hx hb nd_Q_element_19 ?_
  refine lv_topi (fun y5 ey6 => ?_)
  obtain rfl : y5 = nI ((o + i) % 32768 % 32) := ey6.trans (tr_and31 (by omega))
  refine xw_lald hx hb hK.1 hw 0 hf rfl (vp_in_nI (by omega) (by decide)) nd_Q_element_20 ?_
  exact g_lret hx hb hr hlocks hw hS (⟨by rw [nI_clamp (by omega)]; unfold tr_vl; rw [← ez, tr_val_of hf], rfl⟩) (by exact Nat.le_of_ble_eq_true rfl) (by exact Nat.le_of_ble_eq_true rfl) nd_Q_element_21
