theorem sp_slh {i : Nat} (h : i < 16) : 0 ≤ nI i ∧ nI i ≤ 15 := ⟨nI_pos' (by omega), nI_le (b := 15) (by omega) (by omega)⟩
theorem nI_m1 (n : Nat) : nI (n + 1) + (-1) = nI n := by rw [← Int32.sub_eq_add_neg, nI_pred]

set_option maxHeartbeats 4000000 in
set_option maxRecDepth 100000 in
theorem c_M_add (l : Launch) (G : g_G) (w : xw_W) (mo ra sa : Nat) (rr : Nat → Nat) (S : sp_S) (cd : Int32) (hI : mo_I G w mo ra sa rr S cd) (a b : Int32) (v : Int64) : Met l ny_M_add nw_M_add ({ frames := 1, cells := 0, slots := 0, locals := 30 }) (g_Pc G w [.ref mo, .int a, .int b, .long v]) (g_Qi G (fun v9 w' => mo_Post G w mo ra sa rr (sp_add S a b v) v9.toInt64 w')) 0 0 (xw_A (g_b G)) := by
  refine g_met (by decide) (Nat.le_of_ble_eq_true rfl) rfl ?_
  intro p e s m below meth c ls hx hb hr hts hown hlocks hin hml hl hK hB hw hS
  have hT : ∀ w ∈ nw_T, w.before _ s = true := fun w h => hts w (List.mem_cons_of_mem _ h)
  have hown : s.vm.findClass "RadixShelfModel" = some m.cls := hown
  have hl : lv_has ls 5 [(0, .ref mo), (1, .int a), (2, .int b), (3, .long v)] := hl
  obtain ⟨op, sz, vs⟩ := S
  obtain ⟨f, hJ9, hv9⟩ := hI
  have hJ : mo_J G w mo ra sa rr op sz f cd := hJ9
  have hv : ∀ k, k < 17 → ∀ z, z < sz k → f k z = vs k z := hv9
  clear hJ9 hv9
  have hF0 : mo_F mo sa rr w w := mo_F.rf
  obtain ⟨hm, ⟨g, hra, hg⟩, ⟨fs, hsa, hfs⟩, hrow, hinj⟩ := id hJ
  by_cases ha : 0 ≤ a ∧ a ≤ 15
  · obtain ⟨i, hi, rfl⟩ := sp_sl_of ha
    by_cases hb9 : 0 ≤ b ∧ b ≤ 15
    · refine lv_aload_n hx hb nd_M_add_0 rfl (lv_at hl 0 rfl) ?_
      refine lv_iload_n hx hb nd_M_add_1 rfl (lv_at hl 1 rfl) ?_
      refine g_calli (va_runS (As := [.int (nI i)]) (rest := [.ref mo]) ⟨hx, hb, hml, hown, hts⟩ (c_M_isSlot1 l G w (nI i) (sp_slh hi)) (cwS 1 hts (nw_of (nw_3 nh_ml_M_22 nh_st_M_isSlot nh_in_M nh_co_M_isSlot)) rfl rfl rfl (by decide +kernel) ⟨Nat.le_of_ble_eq_true rfl, Nat.le_of_ble_eq_true rfl⟩) (g_preS hK hw hS _) rfl rfl hl.1 rfl (lv_room (Nat.le_of_ble_eq_true rfl)) nd_M_add_2 ⟨by exact Nat.le_of_ble_eq_true rfl, by exact Nat.le_of_ble_eq_true rfl⟩) hS (fun v9 w1 H locs hp hw hS => ?_)
      obtain ⟨rfl, hw9⟩ := hp
      rw [hw9] at hw
      refine lv_if_eq (tgt := 19) hx hb nd_M_add_5 (by decide) (fun hc => absurd hc (by decide)) (fun hc => ?_)
      obtain ⟨j, hj, rfl⟩ := sp_sl_of hb9
      refine lv_iload_n hx hb nd_M_add_8 rfl (lv_at hl 2 rfl) ?_
      refine g_calli (va_runS (As := [.int (nI j)]) (rest := [.ref mo]) ⟨hx, hb, hml, hown, hts⟩ (c_M_isSlot1 l G w (nI j) (sp_slh hj)) (cwS 1 hts (nw_of (nw_3 nh_ml_M_22 nh_st_M_isSlot nh_in_M nh_co_M_isSlot)) rfl rfl rfl (by decide +kernel) ⟨Nat.le_of_ble_eq_true rfl, Nat.le_of_ble_eq_true rfl⟩) (g_preS hK hw hS _) rfl rfl hl.1 rfl (lv_room (Nat.le_of_ble_eq_true rfl)) nd_M_add_9 ⟨by exact Nat.le_of_ble_eq_true rfl, by exact Nat.le_of_ble_eq_true rfl⟩) hS (fun v9 w2 H locs hp hw hS => ?_)
      obtain ⟨rfl, hw9⟩ := hp
      rw [hw9] at hw
      refine lv_if_eq (tgt := 19) hx hb nd_M_add_12 (by decide) (fun hc => absurd hc (by decide)) (fun hc => ?_)
      refine lv_iconst (v := 1) hx hb nd_M_add_15 (by decide) ?_
      refine lv_goto (tgt := 20) hx hb nd_M_add_16 (by decide) ?_
      refine lv_iconst (v := 1) hx hb nd_M_add_20 (by decide) ?_
      refine g_calli (va_runV (As := [.int 1, .int 1]) (rest := []) ⟨hx, hb, hml, hown, hts⟩ (c_M_good1 l G w mo ra sa (mo_b op) cd 1 hm) (cwV (C := nR_M) 2 hts (nw_of (nw_4 nh_ml_M_26 nh_im_M_good nh_se_M_good nh_in_M nh_co_M_good)) rfl rfl rfl (by decide +kernel) ⟨Nat.le_of_ble_eq_true rfl, Nat.le_of_ble_eq_true rfl⟩) (g_preV (ci := 5) (q := (nR_M, nT_M, 4)) hK hw hS rfl hm _) rfl rfl hl.1 rfl (lv_room (Nat.le_of_ble_eq_true rfl)) nd_M_add_21 ⟨by exact Nat.le_of_ble_eq_true rfl, by exact Nat.le_of_ble_eq_true rfl⟩) hS (fun v9 w3 H locs hp hw hS => ?_)
      obtain ⟨rfl, e9⟩ := hp
      obtain ⟨hJ, hF9⟩ := mo_cod hJ e9
      have hF0 := hF0.tr hF9
      obtain ⟨hm, ⟨g, hra, hg⟩, ⟨fs, hsa, hfs⟩, hrow, hinj⟩ := id hJ
      refine lv_if_eq (tgt := 52) hx hb nd_M_add_24 (by decide) (fun hc => absurd hc (by decide)) (fun hc => ?_)
      have hj3 : sz j ≤ 3000 := (hrow j (by omega)).1
      refine lv_aload_n hx hb nd_M_add_27 rfl (lv_at hl 0 rfl) ?_
      refine lv_aload_n hx hb nd_M_add_28 rfl (lv_at hl 0 rfl) ?_
      refine xw_get (T := nT_M) (N := 4) (ci := 5) hx hb hT nu_M hown hK.1 hw hm rfl 1 (by decide) (hT _ nh_fl_M_14) (fun _ h9 => h9) rfl nd_M_add_29 ?_
      refine lv_iload_n hx hb nd_M_add_32 rfl (lv_at hl 2 rfl) ?_
      refine xw_iald hx hb hK.1 hw 4 hsa rfl (vp_in_nI (by omega) (by decide)) nd_M_add_33 ?_
      refine lv_topi (fun y4 ey5 => ?_)
      obtain rfl : y4 = nI (sz j) := ey5.trans (by rw [nI_clamp (by omega)]; exact hfs _ (by omega))
      refine lv_sipush (v := 3000) hx hb nd_M_add_34 (by decide) ?_
      refine lv_icmp_ge (tgt := 44) hx hb nd_M_add_37 (by decide) (fun hc => ?_) (fun hc => ?_)
      · have hs : ¬ sz j < 3000 := fun z => absurd (Int32.not_le.mpr (nI_lt (b := 3000) z (by omega))) (fun z2 => z2 hc)
        refine lv_iconst (v := 0) hx hb nd_M_add_44 (by decide) ?_
        refine lv_iconst (v := 2) hx hb nd_M_add_45 (by decide) ?_
        refine g_calli (va_runV (As := [.int 0, .int 2]) (rest := []) ⟨hx, hb, hml, hown, hts⟩ (c_M_good0 l G w3 mo ra sa (mo_b op) 0 2 hm) (cwV (C := nR_M) 2 hts (nw_of (nw_4 nh_ml_M_26 nh_im_M_good nh_se_M_good nh_in_M nh_co_M_good)) rfl rfl rfl (by decide +kernel) ⟨Nat.le_of_ble_eq_true rfl, Nat.le_of_ble_eq_true rfl⟩) (g_preV (ci := 5) (q := (nR_M, nT_M, 4)) hK hw hS rfl hm _) rfl rfl hl.1 rfl (lv_room (Nat.le_of_ble_eq_true rfl)) nd_M_add_46 ⟨by exact Nat.le_of_ble_eq_true rfl, by exact Nat.le_of_ble_eq_true rfl⟩) hS (fun v9 w6 H locs hp hw hS => ?_)
        obtain ⟨rfl, e9⟩ := hp
        obtain ⟨hJ, hF9⟩ := mo_cod hJ e9
        have hF0 := hF0.tr hF9
        obtain ⟨hm, ⟨g, hra, hg⟩, ⟨fs, hsa, hfs⟩, hrow, hinj⟩ := id hJ
        refine lv_if_ne (tgt := 54) hx hb nd_M_add_49 (by decide) (fun hc => absurd rfl hc) (fun hc => ?_)
        refine lv_iconst (v := 0) hx hb nd_M_add_52 (by decide) ?_
        exact g_iret hx hb hr hlocks hw hS (by rw [sp_add_2 hi hj hs]; exact ⟨⟨_, hJ, hv⟩, rfl, hF0⟩) (by exact Nat.le_of_ble_eq_true rfl) (by exact Nat.le_of_ble_eq_true rfl) nd_M_add_53
      · have hs : sz j < 3000 := (nI_ltI (b := 3000) (by omega) (by omega)).mp (Int32.not_le.mp hc)
        refine lv_iconst (v := 1) hx hb nd_M_add_40 (by decide) ?_
        refine lv_goto (tgt := 45) hx hb nd_M_add_41 (by decide) ?_
        refine lv_iconst (v := 2) hx hb nd_M_add_45 (by decide) ?_
        refine g_calli (va_runV (As := [.int 1, .int 2]) (rest := []) ⟨hx, hb, hml, hown, hts⟩ (c_M_good1 l G w3 mo ra sa (mo_b op) 0 2 hm) (cwV (C := nR_M) 2 hts (nw_of (nw_4 nh_ml_M_26 nh_im_M_good nh_se_M_good nh_in_M nh_co_M_good)) rfl rfl rfl (by decide +kernel) ⟨Nat.le_of_ble_eq_true rfl, Nat.le_of_ble_eq_true rfl⟩) (g_preV (ci := 5) (q := (nR_M, nT_M, 4)) hK hw hS rfl hm _) rfl rfl hl.1 rfl (lv_room (Nat.le_of_ble_eq_true rfl)) nd_M_add_46 ⟨by exact Nat.le_of_ble_eq_true rfl, by exact Nat.le_of_ble_eq_true rfl⟩) hS (fun v9 w6 H locs hp hw hS => ?_)
        obtain ⟨rfl, e9⟩ := hp
        obtain ⟨hJ, hF9⟩ := mo_cod hJ e9
        have hF0 := hF0.tr hF9
        obtain ⟨hm, ⟨g, hra, hg⟩, ⟨fs, hsa, hfs⟩, hrow, hinj⟩ := id hJ
        refine lv_if_ne (tgt := 54) hx hb nd_M_add_49 (by decide) (fun hc => ?_) (fun hc => absurd hc (by decide))
        refine lv_aload_n hx hb nd_M_add_54 rfl (lv_at hl 0 rfl) ?_
        refine lv_iload_n hx hb nd_M_add_55 rfl (lv_at hl 1 rfl) ?_
        refine lv_iload_n hx hb nd_M_add_56 rfl (lv_at hl 2 rfl) ?_
        refine g_callv (va_runV (As := [.int (nI i), .int (nI j)]) (rest := []) ⟨hx, hb, hml, hown, hts⟩ (c_M_copy l G w6 mo ra sa rr op sz f 0 i j (by omega) (by omega) hJ) (cwV (C := nR_M) 2 hts (nw_of (nw_4 nh_ml_M_30 nh_im_M_copy nh_se_M_copy nh_in_M nh_co_M_copy)) rfl rfl rfl (by decide +kernel) ⟨Nat.le_of_ble_eq_true rfl, Nat.le_of_ble_eq_true rfl⟩) (g_preV (ci := 5) (q := (nR_M, nT_M, 4)) hK hw hS rfl hm _) rfl rfl hl.1 rfl (lv_room (Nat.le_of_ble_eq_true rfl)) nd_M_add_57 ⟨by exact Nat.le_of_ble_eq_true rfl, by exact Nat.le_of_ble_eq_true rfl⟩) hS (fun w7 H locs hp hw hS => ?_)
        obtain ⟨h, hJ, hh, hF9⟩ := hp
        have hF0 := hF0.tr hF9
        obtain ⟨hm, ⟨g, hra, hg⟩, ⟨fs, hsa, hfs⟩, hrow, hinj⟩ := id hJ
        refine lv_aload_n hx hb nd_M_add_60 rfl (lv_at hl 0 rfl) ?_
        refine xw_get (T := nT_M) (N := 4) (ci := 5) hx hb hT nu_M hown hK.1 hw hm rfl 0 (by decide) (hT _ nh_fl_M_11) (fun _ h9 => h9) rfl nd_M_add_61 ?_
        refine lv_iload_n hx hb nd_M_add_64 rfl (lv_at hl 1 rfl) ?_
        refine xw_aaldA (y := (rr i)) hx hb hK.1 hw 5 hra rfl (vp_in_nI (by omega) (by decide)) (by rw [nI_clamp (by omega)]; exact hg _ (by omega)) nd_M_add_65 ?_
        have hr_i := (hrow i (by omega)).2
        refine lv_aload_n hx hb nd_M_add_66 rfl (lv_at hl 0 rfl) ?_
        refine xw_get (T := nT_M) (N := 4) (ci := 5) hx hb hT nu_M hown hK.1 hw hm rfl 1 (by decide) (hT _ nh_fl_M_14) (fun _ h9 => h9) rfl nd_M_add_67 ?_
        refine lv_iload_n hx hb nd_M_add_70 rfl (lv_at hl 1 rfl) ?_
        refine xw_iald hx hb hK.1 hw 4 hsa rfl (vp_in_nI (by omega) (by decide)) nd_M_add_71 ?_
        refine lv_topi (fun y8 ey9 => ?_)
        obtain rfl : y8 = nI (sz j) := ey9.trans (by rw [nI_clamp (by omega)]; rw [hfs _ (by omega), va_up_self])
        refine lv_lload_n hx hb nd_M_add_72 rfl (lv_at hl 3 rfl) ?_
        refine xw_last hx hb hK.1 hB hw hS 0 hr_i rfl (vp_in_nI (by omega) (by decide)) nd_M_add_73 (fun H locs hw hS => ?_)
        rw [nI_clamp (by omega)] at hw
        obtain ⟨w10, ew11⟩ : ∃ z, z = va_up w7 (rr i) (some (.inl (G.2.1 0, 3000, .inr (.inl (vp_updL (va_up f i h i) (sz j) v))))) := ⟨_, rfl⟩
        have hw : g_P G w10 H := by rw [ew11]; exact hw
        have hm : w10 mo = some (.inr (5, [.ref ra, .ref sa, .int (mo_b op), .int 0])) := by rw [ew11, va_up_ne _ _ (xw_ne hm hr_i (by simp))]; exact hm
        have hr_i : w10 (rr i) = some (.inl (G.2.1 0, 3000, .inr (.inl (vp_updL (va_up f i h i) (sz j) v)))) := by rw [ew11]; exact va_up_self _ _ _
        obtain ⟨hJ, hF9⟩ := mo_row hJ (by omega) ew11
        have hF0 := hF0.tr hF9
        rw [bx_uu, va_up_self] at hJ
        obtain ⟨hm, ⟨g, hra, hg⟩, ⟨fs, hsa, hfs⟩, hrow, hinj⟩ := id hJ
        refine lv_aload_n hx hb nd_M_add_74 rfl (lv_at hl 0 rfl) ?_
        refine xw_get (T := nT_M) (N := 4) (ci := 5) hx hb hT nu_M hown hK.1 hw hm rfl 1 (by decide) (hT _ nh_fl_M_14) (fun _ h9 => h9) rfl nd_M_add_75 ?_
        refine lv_iload_n hx hb nd_M_add_78 rfl (lv_at hl 1 rfl) ?_
        refine lv_dup2_11 hx hb nd_M_add_79 rfl rfl ?_
        refine xw_iald hx hb hK.1 hw 4 hsa rfl (vp_in_nI (by omega) (by decide)) nd_M_add_80 ?_
        refine lv_topi (fun y12 ey13 => ?_)
        obtain rfl : y12 = nI (sz j) := ey13.trans (by rw [nI_clamp (by omega)]; rw [hfs _ (by omega), va_up_self])
        refine lv_iconst (v := 1) hx hb nd_M_add_81 (by decide) ?_
        refine lv_iadd hx hb nd_M_add_82 ?_
        refine lv_topi (fun y14 ey15 => ?_)
        obtain rfl : y14 = nI (sz j + 1) := ey15.trans (nI_1 _)
        have hsa0 := hsa
        refine xw_iast hx hb hK.1 hB hw hS 4 hsa rfl (vp_in_nI (by omega) (by decide)) nd_M_add_83 (fun H locs hw hS => ?_)
        rw [nI_clamp (by omega)] at hw
        obtain ⟨w16, ew17⟩ : ∃ z, z = va_up w10 sa (some (.inl (G.2.1 4, 17, .inl (upd fs i (nI (sz j + 1)))))) := ⟨_, rfl⟩
        have hw : g_P G w16 H := by rw [ew17]; exact hw
        have hm : w16 mo = some (.inr (5, [.ref ra, .ref sa, .int (mo_b op), .int 0])) := by rw [ew17, va_up_ne _ _ (xw_ne hm hsa (by simp))]; exact hm
        have hsa : w16 sa = some (.inl (G.2.1 4, 17, .inl (upd fs i (nI (sz j + 1))))) := by rw [ew17]; exact va_up_self _ _ _
        obtain ⟨hJ, hF9⟩ := mo_siz hJ (by omega) (by omega) hsa0 ew17
        have hF0 := hF0.tr hF9
        rw [bx_uu] at hJ
        obtain ⟨hm, ⟨g, hra, hg⟩, ⟨fs, hsa, hfs⟩, hrow, hinj⟩ := id hJ
        refine lv_aload_n hx hb nd_M_add_84 rfl (lv_at hl 0 rfl) ?_
        refine xw_get (T := nT_M) (N := 4) (ci := 5) hx hb hT nu_M hown hK.1 hw hm rfl 1 (by decide) (hT _ nh_fl_M_14) (fun _ h9 => h9) rfl nd_M_add_85 ?_
        refine lv_iload_n hx hb nd_M_add_88 rfl (lv_at hl 1 rfl) ?_
        refine xw_iald hx hb hK.1 hw 4 hsa rfl (vp_in_nI (by omega) (by decide)) nd_M_add_89 ?_
        refine lv_topi (fun y18 ey19 => ?_)
        obtain rfl : y18 = nI (sz j + 1) := ey19.trans (by rw [nI_clamp (by omega)]; rw [hfs _ (by omega), va_up_self])
        exact g_iret hx hb hr hlocks hw hS (by rw [sp_add_0 hi hj hs]; exact ⟨⟨_, hJ, mo_fin hv (mo_upd (fun z hz hne => (hh z (by omega)).trans (hv j (by omega) z (by omega))))⟩, rfl, hF0⟩) (by exact Nat.le_of_ble_eq_true rfl) (by exact Nat.le_of_ble_eq_true rfl) nd_M_add_90
    · refine lv_aload_n hx hb nd_M_add_0 rfl (lv_at hl 0 rfl) ?_
      refine lv_iload_n hx hb nd_M_add_1 rfl (lv_at hl 1 rfl) ?_
      refine g_calli (va_runS (As := [.int (nI i)]) (rest := [.ref mo]) ⟨hx, hb, hml, hown, hts⟩ (c_M_isSlot1 l G w (nI i) (sp_slh hi)) (cwS 1 hts (nw_of (nw_3 nh_ml_M_22 nh_st_M_isSlot nh_in_M nh_co_M_isSlot)) rfl rfl rfl (by decide +kernel) ⟨Nat.le_of_ble_eq_true rfl, Nat.le_of_ble_eq_true rfl⟩) (g_preS hK hw hS _) rfl rfl hl.1 rfl (lv_room (Nat.le_of_ble_eq_true rfl)) nd_M_add_2 ⟨by exact Nat.le_of_ble_eq_true rfl, by exact Nat.le_of_ble_eq_true rfl⟩) hS (fun v9 w1 H locs hp hw hS => ?_)
      obtain ⟨rfl, hw9⟩ := hp
      rw [hw9] at hw
      refine lv_if_eq (tgt := 19) hx hb nd_M_add_5 (by decide) (fun hc => absurd hc (by decide)) (fun hc => ?_)
      refine lv_iload_n hx hb nd_M_add_8 rfl (lv_at hl 2 rfl) ?_
      refine g_calli (va_runS (As := [.int b]) (rest := [.ref mo]) ⟨hx, hb, hml, hown, hts⟩ (c_M_isSlot0 l G w b hb9) (cwS 1 hts (nw_of (nw_3 nh_ml_M_22 nh_st_M_isSlot nh_in_M nh_co_M_isSlot)) rfl rfl rfl (by decide +kernel) ⟨Nat.le_of_ble_eq_true rfl, Nat.le_of_ble_eq_true rfl⟩) (g_preS hK hw hS _) rfl rfl hl.1 rfl (lv_room (Nat.le_of_ble_eq_true rfl)) nd_M_add_9 ⟨by exact Nat.le_of_ble_eq_true rfl, by exact Nat.le_of_ble_eq_true rfl⟩) hS (fun v9 w2 H locs hp hw hS => ?_)
      obtain ⟨rfl, hw9⟩ := hp
      rw [hw9] at hw
      refine lv_if_eq (tgt := 19) hx hb nd_M_add_12 (by decide) (fun hc => ?_) (fun hc => absurd rfl hc)
      refine lv_iconst (v := 0) hx hb nd_M_add_19 (by decide) ?_
      refine lv_iconst (v := 1) hx hb nd_M_add_20 (by decide) ?_
      refine g_calli (va_runV (As := [.int 0, .int 1]) (rest := []) ⟨hx, hb, hml, hown, hts⟩ (c_M_good0 l G w mo ra sa (mo_b op) cd 1 hm) (cwV (C := nR_M) 2 hts (nw_of (nw_4 nh_ml_M_26 nh_im_M_good nh_se_M_good nh_in_M nh_co_M_good)) rfl rfl rfl (by decide +kernel) ⟨Nat.le_of_ble_eq_true rfl, Nat.le_of_ble_eq_true rfl⟩) (g_preV (ci := 5) (q := (nR_M, nT_M, 4)) hK hw hS rfl hm _) rfl rfl hl.1 rfl (lv_room (Nat.le_of_ble_eq_true rfl)) nd_M_add_21 ⟨by exact Nat.le_of_ble_eq_true rfl, by exact Nat.le_of_ble_eq_true rfl⟩) hS (fun v9 w3 H locs hp hw hS => ?_)
      obtain ⟨rfl, e9⟩ := hp
      obtain ⟨hJ, hF9⟩ := mo_cod hJ e9
      have hF0 := hF0.tr hF9
      obtain ⟨hm, ⟨g, hra, hg⟩, ⟨fs, hsa, hfs⟩, hrow, hinj⟩ := id hJ
      refine lv_if_eq (tgt := 52) hx hb nd_M_add_24 (by decide) (fun hc => ?_) (fun hc => absurd rfl hc)
      refine lv_iconst (v := 0) hx hb nd_M_add_52 (by decide) ?_
      exact g_iret hx hb hr hlocks hw hS (by rw [sp_add_1 (Or.inr hb9)]; exact ⟨⟨_, hJ, hv⟩, rfl, hF0⟩) (by exact Nat.le_of_ble_eq_true rfl) (by exact Nat.le_of_ble_eq_true rfl) nd_M_add_53
  · refine lv_aload_n hx hb nd_M_add_0 rfl (lv_at hl 0 rfl) ?_
    refine lv_iload_n hx hb nd_M_add_1 rfl (lv_at hl 1 rfl) ?_
    refine g_calli (va_runS (As := [.int a]) (rest := [.ref mo]) ⟨hx, hb, hml, hown, hts⟩ (c_M_isSlot0 l G w a ha) (cwS 1 hts (nw_of (nw_3 nh_ml_M_22 nh_st_M_isSlot nh_in_M nh_co_M_isSlot)) rfl rfl rfl (by decide +kernel) ⟨Nat.le_of_ble_eq_true rfl, Nat.le_of_ble_eq_true rfl⟩) (g_preS hK hw hS _) rfl rfl hl.1 rfl (lv_room (Nat.le_of_ble_eq_true rfl)) nd_M_add_2 ⟨by exact Nat.le_of_ble_eq_true rfl, by exact Nat.le_of_ble_eq_true rfl⟩) hS (fun v9 w1 H locs hp hw hS => ?_)
    obtain ⟨rfl, hw9⟩ := hp
    rw [hw9] at hw
    refine lv_if_eq (tgt := 19) hx hb nd_M_add_5 (by decide) (fun hc => ?_) (fun hc => absurd rfl hc)
    refine lv_iconst (v := 0) hx hb nd_M_add_19 (by decide) ?_
    refine lv_iconst (v := 1) hx hb nd_M_add_20 (by decide) ?_
    refine g_calli (va_runV (As := [.int 0, .int 1]) (rest := []) ⟨hx, hb, hml, hown, hts⟩ (c_M_good0 l G w mo ra sa (mo_b op) cd 1 hm) (cwV (C := nR_M) 2 hts (nw_of (nw_4 nh_ml_M_26 nh_im_M_good nh_se_M_good nh_in_M nh_co_M_good)) rfl rfl rfl (by decide +kernel) ⟨Nat.le_of_ble_eq_true rfl, Nat.le_of_ble_eq_true rfl⟩) (g_preV (ci := 5) (q := (nR_M, nT_M, 4)) hK hw hS rfl hm _) rfl rfl hl.1 rfl (lv_room (Nat.le_of_ble_eq_true rfl)) nd_M_add_21 ⟨by exact Nat.le_of_ble_eq_true rfl, by exact Nat.le_of_ble_eq_true rfl⟩) hS (fun v9 w2 H locs hp hw hS => ?_)
    obtain ⟨rfl, e9⟩ := hp
    obtain ⟨hJ, hF9⟩ := mo_cod hJ e9
    have hF0 := hF0.tr hF9
    obtain ⟨hm, ⟨g, hra, hg⟩, ⟨fs, hsa, hfs⟩, hrow, hinj⟩ := id hJ
    refine lv_if_eq (tgt := 52) hx hb nd_M_add_24 (by decide) (fun hc => ?_) (fun hc => absurd rfl hc)
    refine lv_iconst (v := 0) hx hb nd_M_add_52 (by decide) ?_
    exact g_iret hx hb hr hlocks hw hS (by rw [sp_add_1 (Or.inl ha)]; exact ⟨⟨_, hJ, hv⟩, rfl, hF0⟩) (by exact Nat.le_of_ble_eq_true rfl) (by exact Nat.le_of_ble_eq_true rfl) nd_M_add_53

set_option maxHeartbeats 4000000 in
set_option maxRecDepth 100000 in
theorem c_M_push (l : Launch) (G : g_G) (w : xw_W) (mo ra sa : Nat) (rr : Nat → Nat) (S : sp_S) (cd : Int32) (hI : mo_I G w mo ra sa rr S cd) (a b : Int32) (v : Int64) : Met l ny_M_push nw_M_push ({ frames := 1, cells := 0, slots := 0, locals := 30 }) (g_Pc G w [.ref mo, .int a, .int b, .long v]) (g_Qi G (fun v9 w' => mo_Post G w mo ra sa rr (sp_push S a b v) v9.toInt64 w')) 0 0 (xw_A (g_b G)) := by
  refine g_met (by decide) (Nat.le_of_ble_eq_true rfl) rfl ?_
  intro p e s m below meth c ls hx hb hr hts hown hlocks hin hml hl hK hB hw hS
  have hT : ∀ w ∈ nw_T, w.before _ s = true := fun w h => hts w (List.mem_cons_of_mem _ h)
  have hown : s.vm.findClass "RadixShelfModel" = some m.cls := hown
  have hl : lv_has ls 6 [(0, .ref mo), (1, .int a), (2, .int b), (3, .long v)] := hl
  obtain ⟨op, sz, vs⟩ := S
  obtain ⟨f, hJ9, hv9⟩ := hI
  have hJ : mo_J G w mo ra sa rr op sz f cd := hJ9
  have hv : ∀ k, k < 17 → ∀ z, z < sz k → f k z = vs k z := hv9
  clear hJ9 hv9
  have hF0 : mo_F mo sa rr w w := mo_F.rf
  obtain ⟨hm, ⟨g, hra, hg⟩, ⟨fs, hsa, hfs⟩, hrow, hinj⟩ := id hJ
  by_cases ha : 0 ≤ a ∧ a ≤ 15
  · obtain ⟨i, hi, rfl⟩ := sp_sl_of ha
    by_cases hb9 : 0 ≤ b ∧ b ≤ 15
    · refine lv_aload_n hx hb nd_M_push_0 rfl (lv_at hl 0 rfl) ?_
      refine lv_iload_n hx hb nd_M_push_1 rfl (lv_at hl 1 rfl) ?_
      refine g_calli (va_runS (As := [.int (nI i)]) (rest := [.ref mo]) ⟨hx, hb, hml, hown, hts⟩ (c_M_isSlot1 l G w (nI i) (sp_slh hi)) (cwS 1 hts (nw_of (nw_3 nh_ml_M_22 nh_st_M_isSlot nh_in_M nh_co_M_isSlot)) rfl rfl rfl (by decide +kernel) ⟨Nat.le_of_ble_eq_true rfl, Nat.le_of_ble_eq_true rfl⟩) (g_preS hK hw hS _) rfl rfl hl.1 rfl (lv_room (Nat.le_of_ble_eq_true rfl)) nd_M_push_2 ⟨by exact Nat.le_of_ble_eq_true rfl, by exact Nat.le_of_ble_eq_true rfl⟩) hS (fun v9 w1 H locs hp hw hS => ?_)
      obtain ⟨rfl, hw9⟩ := hp
      rw [hw9] at hw
      refine lv_if_eq (tgt := 19) hx hb nd_M_push_5 (by decide) (fun hc => absurd hc (by decide)) (fun hc => ?_)
      obtain ⟨j, hj, rfl⟩ := sp_sl_of hb9
      refine lv_iload_n hx hb nd_M_push_8 rfl (lv_at hl 2 rfl) ?_
      refine g_calli (va_runS (As := [.int (nI j)]) (rest := [.ref mo]) ⟨hx, hb, hml, hown, hts⟩ (c_M_isSlot1 l G w (nI j) (sp_slh hj)) (cwS 1 hts (nw_of (nw_3 nh_ml_M_22 nh_st_M_isSlot nh_in_M nh_co_M_isSlot)) rfl rfl rfl (by decide +kernel) ⟨Nat.le_of_ble_eq_true rfl, Nat.le_of_ble_eq_true rfl⟩) (g_preS hK hw hS _) rfl rfl hl.1 rfl (lv_room (Nat.le_of_ble_eq_true rfl)) nd_M_push_9 ⟨by exact Nat.le_of_ble_eq_true rfl, by exact Nat.le_of_ble_eq_true rfl⟩) hS (fun v9 w2 H locs hp hw hS => ?_)
      obtain ⟨rfl, hw9⟩ := hp
      rw [hw9] at hw
      refine lv_if_eq (tgt := 19) hx hb nd_M_push_12 (by decide) (fun hc => absurd hc (by decide)) (fun hc => ?_)
      refine lv_iconst (v := 1) hx hb nd_M_push_15 (by decide) ?_
      refine lv_goto (tgt := 20) hx hb nd_M_push_16 (by decide) ?_
      refine lv_iconst (v := 1) hx hb nd_M_push_20 (by decide) ?_
      refine g_calli (va_runV (As := [.int 1, .int 1]) (rest := []) ⟨hx, hb, hml, hown, hts⟩ (c_M_good1 l G w mo ra sa (mo_b op) cd 1 hm) (cwV (C := nR_M) 2 hts (nw_of (nw_4 nh_ml_M_26 nh_im_M_good nh_se_M_good nh_in_M nh_co_M_good)) rfl rfl rfl (by decide +kernel) ⟨Nat.le_of_ble_eq_true rfl, Nat.le_of_ble_eq_true rfl⟩) (g_preV (ci := 5) (q := (nR_M, nT_M, 4)) hK hw hS rfl hm _) rfl rfl hl.1 rfl (lv_room (Nat.le_of_ble_eq_true rfl)) nd_M_push_21 ⟨by exact Nat.le_of_ble_eq_true rfl, by exact Nat.le_of_ble_eq_true rfl⟩) hS (fun v9 w3 H locs hp hw hS => ?_)
      obtain ⟨rfl, e9⟩ := hp
      obtain ⟨hJ, hF9⟩ := mo_cod hJ e9
      have hF0 := hF0.tr hF9
      obtain ⟨hm, ⟨g, hra, hg⟩, ⟨fs, hsa, hfs⟩, hrow, hinj⟩ := id hJ
      refine lv_if_eq (tgt := 52) hx hb nd_M_push_24 (by decide) (fun hc => absurd hc (by decide)) (fun hc => ?_)
      have hj3 : sz j ≤ 3000 := (hrow j (by omega)).1
      refine lv_aload_n hx hb nd_M_push_27 rfl (lv_at hl 0 rfl) ?_
      refine lv_aload_n hx hb nd_M_push_28 rfl (lv_at hl 0 rfl) ?_
      refine xw_get (T := nT_M) (N := 4) (ci := 5) hx hb hT nu_M hown hK.1 hw hm rfl 1 (by decide) (hT _ nh_fl_M_14) (fun _ h9 => h9) rfl nd_M_push_29 ?_
      refine lv_iload_n hx hb nd_M_push_32 rfl (lv_at hl 2 rfl) ?_
      refine xw_iald hx hb hK.1 hw 4 hsa rfl (vp_in_nI (by omega) (by decide)) nd_M_push_33 ?_
      refine lv_topi (fun y4 ey5 => ?_)
      obtain rfl : y4 = nI (sz j) := ey5.trans (by rw [nI_clamp (by omega)]; exact hfs _ (by omega))
      refine lv_sipush (v := 3000) hx hb nd_M_push_34 (by decide) ?_
      refine lv_icmp_ge (tgt := 44) hx hb nd_M_push_37 (by decide) (fun hc => ?_) (fun hc => ?_)
      · have hs : ¬ sz j < 3000 := fun z => absurd (Int32.not_le.mpr (nI_lt (b := 3000) z (by omega))) (fun z2 => z2 hc)
        refine lv_iconst (v := 0) hx hb nd_M_push_44 (by decide) ?_
        refine lv_iconst (v := 2) hx hb nd_M_push_45 (by decide) ?_
        refine g_calli (va_runV (As := [.int 0, .int 2]) (rest := []) ⟨hx, hb, hml, hown, hts⟩ (c_M_good0 l G w3 mo ra sa (mo_b op) 0 2 hm) (cwV (C := nR_M) 2 hts (nw_of (nw_4 nh_ml_M_26 nh_im_M_good nh_se_M_good nh_in_M nh_co_M_good)) rfl rfl rfl (by decide +kernel) ⟨Nat.le_of_ble_eq_true rfl, Nat.le_of_ble_eq_true rfl⟩) (g_preV (ci := 5) (q := (nR_M, nT_M, 4)) hK hw hS rfl hm _) rfl rfl hl.1 rfl (lv_room (Nat.le_of_ble_eq_true rfl)) nd_M_push_46 ⟨by exact Nat.le_of_ble_eq_true rfl, by exact Nat.le_of_ble_eq_true rfl⟩) hS (fun v9 w6 H locs hp hw hS => ?_)
        obtain ⟨rfl, e9⟩ := hp
        obtain ⟨hJ, hF9⟩ := mo_cod hJ e9
        have hF0 := hF0.tr hF9
        obtain ⟨hm, ⟨g, hra, hg⟩, ⟨fs, hsa, hfs⟩, hrow, hinj⟩ := id hJ
        refine lv_if_ne (tgt := 54) hx hb nd_M_push_49 (by decide) (fun hc => absurd rfl hc) (fun hc => ?_)
        refine lv_iconst (v := 0) hx hb nd_M_push_52 (by decide) ?_
        exact g_iret hx hb hr hlocks hw hS (by rw [sp_push_2 hi hj hs]; exact ⟨⟨_, hJ, hv⟩, rfl, hF0⟩) (by exact Nat.le_of_ble_eq_true rfl) (by exact Nat.le_of_ble_eq_true rfl) nd_M_push_53
      · have hs : sz j < 3000 := (nI_ltI (b := 3000) (by omega) (by omega)).mp (Int32.not_le.mp hc)
        refine lv_iconst (v := 1) hx hb nd_M_push_40 (by decide) ?_
        refine lv_goto (tgt := 45) hx hb nd_M_push_41 (by decide) ?_
        refine lv_iconst (v := 2) hx hb nd_M_push_45 (by decide) ?_
        refine g_calli (va_runV (As := [.int 1, .int 2]) (rest := []) ⟨hx, hb, hml, hown, hts⟩ (c_M_good1 l G w3 mo ra sa (mo_b op) 0 2 hm) (cwV (C := nR_M) 2 hts (nw_of (nw_4 nh_ml_M_26 nh_im_M_good nh_se_M_good nh_in_M nh_co_M_good)) rfl rfl rfl (by decide +kernel) ⟨Nat.le_of_ble_eq_true rfl, Nat.le_of_ble_eq_true rfl⟩) (g_preV (ci := 5) (q := (nR_M, nT_M, 4)) hK hw hS rfl hm _) rfl rfl hl.1 rfl (lv_room (Nat.le_of_ble_eq_true rfl)) nd_M_push_46 ⟨by exact Nat.le_of_ble_eq_true rfl, by exact Nat.le_of_ble_eq_true rfl⟩) hS (fun v9 w6 H locs hp hw hS => ?_)
        obtain ⟨rfl, e9⟩ := hp
        obtain ⟨hJ, hF9⟩ := mo_cod hJ e9
        have hF0 := hF0.tr hF9
        obtain ⟨hm, ⟨g, hra, hg⟩, ⟨fs, hsa, hfs⟩, hrow, hinj⟩ := id hJ
        refine lv_if_ne (tgt := 54) hx hb nd_M_push_49 (by decide) (fun hc => ?_) (fun hc => absurd hc (by decide))
        refine lv_aload_n hx hb nd_M_push_54 rfl (lv_at hl 0 rfl) ?_
        refine lv_iload_n hx hb nd_M_push_55 rfl (lv_at hl 1 rfl) ?_
        refine lv_iload_n hx hb nd_M_push_56 rfl (lv_at hl 2 rfl) ?_
        refine g_callv (va_runV (As := [.int (nI i), .int (nI j)]) (rest := []) ⟨hx, hb, hml, hown, hts⟩ (c_M_copy l G w6 mo ra sa rr op sz f 0 i j (by omega) (by omega) hJ) (cwV (C := nR_M) 2 hts (nw_of (nw_4 nh_ml_M_30 nh_im_M_copy nh_se_M_copy nh_in_M nh_co_M_copy)) rfl rfl rfl (by decide +kernel) ⟨Nat.le_of_ble_eq_true rfl, Nat.le_of_ble_eq_true rfl⟩) (g_preV (ci := 5) (q := (nR_M, nT_M, 4)) hK hw hS rfl hm _) rfl rfl hl.1 rfl (lv_room (Nat.le_of_ble_eq_true rfl)) nd_M_push_57 ⟨by exact Nat.le_of_ble_eq_true rfl, by exact Nat.le_of_ble_eq_true rfl⟩) hS (fun w7 H locs hp hw hS => ?_)
        obtain ⟨h, hJ, hh, hF9⟩ := hp
        have hF0 := hF0.tr hF9
        obtain ⟨hm, ⟨g, hra, hg⟩, ⟨fs, hsa, hfs⟩, hrow, hinj⟩ := id hJ
        refine lv_aload_n hx hb nd_M_push_60 rfl (lv_at hl 0 rfl) ?_
        refine xw_get (T := nT_M) (N := 4) (ci := 5) hx hb hT nu_M hown hK.1 hw hm rfl 1 (by decide) (hT _ nh_fl_M_14) (fun _ h9 => h9) rfl nd_M_push_61 ?_
        refine lv_iload_n hx hb nd_M_push_64 rfl (lv_at hl 1 rfl) ?_
        refine xw_iald hx hb hK.1 hw 4 hsa rfl (vp_in_nI (by omega) (by decide)) nd_M_push_65 ?_
        refine lv_topi (fun y8 ey9 => ?_)
        obtain rfl : y8 = nI (sz j) := ey9.trans (by rw [nI_clamp (by omega)]; rw [hfs _ (by omega), va_up_self])
        refine lv_istore hx hb nd_M_push_66 hl (by decide) (lv' := [(5, .int (nI (sz j))), (0, .ref mo), (1, .int (nI i)), (2, .int (nI j)), (3, .long v)]) rfl (fun ls hl => ?_)
        have loop : ∀ (y : Nat) (c1 : Nat → Int64) (wl : xw_W) (ls : Array Slot) (H : Heap) (locs : List Loc), y ≤ sz j → mo_J G wl mo ra sa rr op (va_up sz i (sz j)) (va_up f i c1) 0 → mo_F mo sa rr w wl → (∀ z, y < z → z ≤ sz j → c1 z = h (z - 1)) → (∀ z, z ≤ y → z < sz j → c1 z = h z) → lv_has ls 6 [(5, .int (nI y)), (0, .ref mo), (1, .int (nI i)), (2, .int (nI j)), (3, .long v)] → g_P G wl H → g_S G s.heap H locs → W p l e ({ frames := 1, cells := 0, slots := 0, locals := 30 }) s m [.ref mo, .int (nI i), .int (nI j), .long v].toArray below meth c H locs (0) (0) (MQ below (g_Qi G (fun v9 w' => mo_Post G w mo ra sa rr (sp_push (op, sz, vs) (nI i) (nI j) v) v9.toInt64 w')) [.ref mo, .int (nI i), .int (nI j), .long v].toArray s 0 0 (xw_A (g_b G))) (F0 m 68 ls []) := by
          intro y
          induction y with
          | zero =>
            intro c1 wl ls H locs hy hJ hF0 hc1 hc2 hl hw hS
            obtain ⟨hm, ⟨g, hra, hg⟩, ⟨fs, hsa, hfs⟩, hrow, hinj⟩ := id hJ
            refine lv_iload hx hb nd_M_push_68 (lv_at hl 0 rfl) ?_
            refine lv_if_le (tgt := 99) hx hb nd_M_push_70 (by decide) (fun hc => ?_) (fun hc => absurd (by rw [nI_0]; decide) hc)
            refine lv_aload_n hx hb nd_M_push_99 rfl (lv_at hl 1 rfl) ?_
            refine xw_get (T := nT_M) (N := 4) (ci := 5) hx hb hT nu_M hown hK.1 hw hm rfl 0 (by decide) (hT _ nh_fl_M_11) (fun _ h9 => h9) rfl nd_M_push_100 ?_
            refine lv_iload_n hx hb nd_M_push_103 rfl (lv_at hl 2 rfl) ?_
            refine xw_aaldA (y := (rr i)) hx hb hK.1 hw 5 hra rfl (vp_in_nI (by omega) (by decide)) (by rw [nI_clamp (by omega)]; exact hg _ (by omega)) nd_M_push_104 ?_
            have hr_i := (hrow i (by omega)).2
            refine lv_iconst (v := 0) hx hb nd_M_push_105 (by decide) ?_
            refine lv_topi (fun y10 ey11 => ?_)
            obtain rfl : y10 = nI 0 := ey11.trans (rfl)
            refine lv_lload_n hx hb nd_M_push_106 rfl (lv_at hl 4 rfl) ?_
            refine xw_last hx hb hK.1 hB hw hS 0 hr_i rfl (vp_in_nI (by omega) (by decide)) nd_M_push_107 (fun H locs hw hS => ?_)
            rw [nI_clamp (by omega)] at hw
            obtain ⟨w12, ew13⟩ : ∃ z, z = va_up wl (rr i) (some (.inl (G.2.1 0, 3000, .inr (.inl (vp_updL (va_up f i c1 i) 0 v))))) := ⟨_, rfl⟩
            have hw : g_P G w12 H := by rw [ew13]; exact hw
            have hm : w12 mo = some (.inr (5, [.ref ra, .ref sa, .int (mo_b op), .int 0])) := by rw [ew13, va_up_ne _ _ (xw_ne hm hr_i (by simp))]; exact hm
            have hr_i : w12 (rr i) = some (.inl (G.2.1 0, 3000, .inr (.inl (vp_updL (va_up f i c1 i) 0 v)))) := by rw [ew13]; exact va_up_self _ _ _
            obtain ⟨hJ, hF9⟩ := mo_row hJ (by omega) ew13
            have hF0 := hF0.tr hF9
            rw [bx_uu, va_up_self] at hJ
            obtain ⟨hm, ⟨g, hra, hg⟩, ⟨fs, hsa, hfs⟩, hrow, hinj⟩ := id hJ
            refine lv_aload_n hx hb nd_M_push_108 rfl (lv_at hl 1 rfl) ?_
            refine xw_get (T := nT_M) (N := 4) (ci := 5) hx hb hT nu_M hown hK.1 hw hm rfl 1 (by decide) (hT _ nh_fl_M_14) (fun _ h9 => h9) rfl nd_M_push_109 ?_
            refine lv_iload_n hx hb nd_M_push_112 rfl (lv_at hl 2 rfl) ?_
            refine lv_dup2_11 hx hb nd_M_push_113 rfl rfl ?_
            refine xw_iald hx hb hK.1 hw 4 hsa rfl (vp_in_nI (by omega) (by decide)) nd_M_push_114 ?_
            refine lv_topi (fun y14 ey15 => ?_)
            obtain rfl : y14 = nI (sz j) := ey15.trans (by rw [nI_clamp (by omega)]; rw [hfs _ (by omega), va_up_self])
            refine lv_iconst (v := 1) hx hb nd_M_push_115 (by decide) ?_
            refine lv_iadd hx hb nd_M_push_116 ?_
            refine lv_topi (fun y16 ey17 => ?_)
            obtain rfl : y16 = nI (sz j + 1) := ey17.trans (nI_1 _)
            have hsa0 := hsa
            refine xw_iast hx hb hK.1 hB hw hS 4 hsa rfl (vp_in_nI (by omega) (by decide)) nd_M_push_117 (fun H locs hw hS => ?_)
            rw [nI_clamp (by omega)] at hw
            obtain ⟨w18, ew19⟩ : ∃ z, z = va_up w12 sa (some (.inl (G.2.1 4, 17, .inl (upd fs i (nI (sz j + 1)))))) := ⟨_, rfl⟩
            have hw : g_P G w18 H := by rw [ew19]; exact hw
            have hm : w18 mo = some (.inr (5, [.ref ra, .ref sa, .int (mo_b op), .int 0])) := by rw [ew19, va_up_ne _ _ (xw_ne hm hsa (by simp))]; exact hm
            have hsa : w18 sa = some (.inl (G.2.1 4, 17, .inl (upd fs i (nI (sz j + 1))))) := by rw [ew19]; exact va_up_self _ _ _
            obtain ⟨hJ, hF9⟩ := mo_siz hJ (by omega) (by omega) hsa0 ew19
            have hF0 := hF0.tr hF9
            rw [bx_uu] at hJ
            obtain ⟨hm, ⟨g, hra, hg⟩, ⟨fs, hsa, hfs⟩, hrow, hinj⟩ := id hJ
            refine lv_aload_n hx hb nd_M_push_118 rfl (lv_at hl 1 rfl) ?_
            refine xw_get (T := nT_M) (N := 4) (ci := 5) hx hb hT nu_M hown hK.1 hw hm rfl 1 (by decide) (hT _ nh_fl_M_14) (fun _ h9 => h9) rfl nd_M_push_119 ?_
            refine lv_iload_n hx hb nd_M_push_122 rfl (lv_at hl 2 rfl) ?_
            refine xw_iald hx hb hK.1 hw 4 hsa rfl (vp_in_nI (by omega) (by decide)) nd_M_push_123 ?_
            refine lv_topi (fun y20 ey21 => ?_)
            obtain rfl : y20 = nI (sz j + 1) := ey21.trans (by rw [nI_clamp (by omega)]; rw [hfs _ (by omega), va_up_self])
            have hfin : ∀ z, z < sz j + 1 → vp_updL c1 0 v z = sp_ps (vs j) v z := by
              intro z hz
              unfold sp_ps
              by_cases ez : z = 0
              · rw [if_pos ez, ez]; exact pk_uLs
              · rw [if_neg ez, pk_uLn ez, hc1 z (by omega) (by omega), hh (z - 1) (by omega)]; exact hv j (by omega) _ (by omega)
            exact g_iret hx hb hr hlocks hw hS (by rw [sp_push_0 hi hj hs]; exact ⟨⟨_, hJ, mo_fin hv hfin⟩, rfl, hF0⟩) (by exact Nat.le_of_ble_eq_true rfl) (by exact Nat.le_of_ble_eq_true rfl) nd_M_push_124
          | succ y ih =>
            intro c1 wl ls H locs hy hJ hF0 hc1 hc2 hl hw hS
            obtain ⟨hm, ⟨g, hra, hg⟩, ⟨fs, hsa, hfs⟩, hrow, hinj⟩ := id hJ
            refine lv_iload hx hb nd_M_push_68 (lv_at hl 0 rfl) ?_
            refine lv_if_le (tgt := 99) hx hb nd_M_push_70 (by decide) (fun hc => absurd hc (nI_nle (by omega) (by omega))) (fun hc => ?_)
            refine lv_aload_n hx hb nd_M_push_73 rfl (lv_at hl 1 rfl) ?_
            refine xw_get (T := nT_M) (N := 4) (ci := 5) hx hb hT nu_M hown hK.1 hw hm rfl 0 (by decide) (hT _ nh_fl_M_11) (fun _ h9 => h9) rfl nd_M_push_74 ?_
            refine lv_iload_n hx hb nd_M_push_77 rfl (lv_at hl 2 rfl) ?_
            refine xw_aaldA (y := (rr i)) hx hb hK.1 hw 5 hra rfl (vp_in_nI (by omega) (by decide)) (by rw [nI_clamp (by omega)]; exact hg _ (by omega)) nd_M_push_78 ?_
            have hr_i := (hrow i (by omega)).2
            refine lv_iload hx hb nd_M_push_79 (lv_at hl 0 rfl) ?_
            refine lv_aload_n hx hb nd_M_push_81 rfl (lv_at hl 1 rfl) ?_
            refine xw_get (T := nT_M) (N := 4) (ci := 5) hx hb hT nu_M hown hK.1 hw hm rfl 0 (by decide) (hT _ nh_fl_M_11) (fun _ h9 => h9) rfl nd_M_push_82 ?_
            refine lv_iload_n hx hb nd_M_push_85 rfl (lv_at hl 2 rfl) ?_
            refine xw_aaldA (y := (rr i)) hx hb hK.1 hw 5 hra rfl (vp_in_nI (by omega) (by decide)) (by rw [nI_clamp (by omega)]; exact hg _ (by omega)) nd_M_push_86 ?_
            have hr_i := (hrow i (by omega)).2
            refine lv_iload hx hb nd_M_push_87 (lv_at hl 0 rfl) ?_
            refine lv_iconst (v := 1) hx hb nd_M_push_89 (by decide) ?_
            refine lv_isub hx hb nd_M_push_90 ?_
            refine lv_topi (fun y10 ey11 => ?_)
            obtain rfl : y10 = nI y := ey11.trans (nI_pred y)
            refine xw_lald hx hb hK.1 hw 0 hr_i rfl (vp_in_nI (by omega) (by decide)) nd_M_push_91 ?_
            refine lv_topl (fun y12 ey13 => ?_)
            obtain rfl : y12 = c1 y := ey13.trans (by rw [nI_clamp (by omega), va_up_self])
            refine xw_last hx hb hK.1 hB hw hS 0 hr_i rfl (vp_in_nI (by omega) (by decide)) nd_M_push_92 (fun H locs hw hS => ?_)
            rw [nI_clamp (by omega)] at hw
            obtain ⟨w14, ew15⟩ : ∃ z, z = va_up wl (rr i) (some (.inl (G.2.1 0, 3000, .inr (.inl (vp_updL (va_up f i c1 i) (y + 1) (c1 y)))))) := ⟨_, rfl⟩
            have hw : g_P G w14 H := by rw [ew15]; exact hw
            have hm : w14 mo = some (.inr (5, [.ref ra, .ref sa, .int (mo_b op), .int 0])) := by rw [ew15, va_up_ne _ _ (xw_ne hm hr_i (by simp))]; exact hm
            have hr_i : w14 (rr i) = some (.inl (G.2.1 0, 3000, .inr (.inl (vp_updL (va_up f i c1 i) (y + 1) (c1 y))))) := by rw [ew15]; exact va_up_self _ _ _
            obtain ⟨hJ, hF9⟩ := mo_row hJ (by omega) ew15
            have hF0 := hF0.tr hF9
            rw [bx_uu, va_up_self] at hJ
            obtain ⟨hm, ⟨g, hra, hg⟩, ⟨fs, hsa, hfs⟩, hrow, hinj⟩ := id hJ
            refine lv_iinc (k := 0) hx hb nd_M_push_93 hl rfl rfl (by decide) (lv' := [(5, .int ((nI (y + 1)) + (-1))), (0, .ref mo), (1, .int (nI i)), (2, .int (nI j)), (3, .long v)]) rfl (fun ls hl => ?_)
            rw [nI_m1] at hl
            refine lv_goto (tgt := 68) hx hb nd_M_push_96 (by decide) ?_
            refine ih (vp_updL c1 (y + 1) (c1 y)) w14 ls H locs (by omega) hJ hF0 (fun z hz hz2 => ?_) (fun z hz hz2 => ?_) hl hw hS
            · by_cases ez : z = y + 1
              · rw [ez, pk_uLs]; exact hc2 y (by omega) (by omega)
              · rw [pk_uLn ez]; exact hc1 z (by omega) hz2
            · rw [pk_uLn (by omega)]; exact hc2 z (by omega) hz2
        exact loop (sz j) h w7 ls H locs (Nat.le_refl _) hJ hF0 (fun z h1 h2 => absurd h1 (by omega)) (fun z _ _ => rfl) hl hw hS
    · refine lv_aload_n hx hb nd_M_push_0 rfl (lv_at hl 0 rfl) ?_
      refine lv_iload_n hx hb nd_M_push_1 rfl (lv_at hl 1 rfl) ?_
      refine g_calli (va_runS (As := [.int (nI i)]) (rest := [.ref mo]) ⟨hx, hb, hml, hown, hts⟩ (c_M_isSlot1 l G w (nI i) (sp_slh hi)) (cwS 1 hts (nw_of (nw_3 nh_ml_M_22 nh_st_M_isSlot nh_in_M nh_co_M_isSlot)) rfl rfl rfl (by decide +kernel) ⟨Nat.le_of_ble_eq_true rfl, Nat.le_of_ble_eq_true rfl⟩) (g_preS hK hw hS _) rfl rfl hl.1 rfl (lv_room (Nat.le_of_ble_eq_true rfl)) nd_M_push_2 ⟨by exact Nat.le_of_ble_eq_true rfl, by exact Nat.le_of_ble_eq_true rfl⟩) hS (fun v9 w1 H locs hp hw hS => ?_)
      obtain ⟨rfl, hw9⟩ := hp
      rw [hw9] at hw
      refine lv_if_eq (tgt := 19) hx hb nd_M_push_5 (by decide) (fun hc => absurd hc (by decide)) (fun hc => ?_)
      refine lv_iload_n hx hb nd_M_push_8 rfl (lv_at hl 2 rfl) ?_
      refine g_calli (va_runS (As := [.int b]) (rest := [.ref mo]) ⟨hx, hb, hml, hown, hts⟩ (c_M_isSlot0 l G w b hb9) (cwS 1 hts (nw_of (nw_3 nh_ml_M_22 nh_st_M_isSlot nh_in_M nh_co_M_isSlot)) rfl rfl rfl (by decide +kernel) ⟨Nat.le_of_ble_eq_true rfl, Nat.le_of_ble_eq_true rfl⟩) (g_preS hK hw hS _) rfl rfl hl.1 rfl (lv_room (Nat.le_of_ble_eq_true rfl)) nd_M_push_9 ⟨by exact Nat.le_of_ble_eq_true rfl, by exact Nat.le_of_ble_eq_true rfl⟩) hS (fun v9 w2 H locs hp hw hS => ?_)
      obtain ⟨rfl, hw9⟩ := hp
      rw [hw9] at hw
      refine lv_if_eq (tgt := 19) hx hb nd_M_push_12 (by decide) (fun hc => ?_) (fun hc => absurd rfl hc)
      refine lv_iconst (v := 0) hx hb nd_M_push_19 (by decide) ?_
      refine lv_iconst (v := 1) hx hb nd_M_push_20 (by decide) ?_
      refine g_calli (va_runV (As := [.int 0, .int 1]) (rest := []) ⟨hx, hb, hml, hown, hts⟩ (c_M_good0 l G w mo ra sa (mo_b op) cd 1 hm) (cwV (C := nR_M) 2 hts (nw_of (nw_4 nh_ml_M_26 nh_im_M_good nh_se_M_good nh_in_M nh_co_M_good)) rfl rfl rfl (by decide +kernel) ⟨Nat.le_of_ble_eq_true rfl, Nat.le_of_ble_eq_true rfl⟩) (g_preV (ci := 5) (q := (nR_M, nT_M, 4)) hK hw hS rfl hm _) rfl rfl hl.1 rfl (lv_room (Nat.le_of_ble_eq_true rfl)) nd_M_push_21 ⟨by exact Nat.le_of_ble_eq_true rfl, by exact Nat.le_of_ble_eq_true rfl⟩) hS (fun v9 w3 H locs hp hw hS => ?_)
      obtain ⟨rfl, e9⟩ := hp
      obtain ⟨hJ, hF9⟩ := mo_cod hJ e9
      have hF0 := hF0.tr hF9
      obtain ⟨hm, ⟨g, hra, hg⟩, ⟨fs, hsa, hfs⟩, hrow, hinj⟩ := id hJ
      refine lv_if_eq (tgt := 52) hx hb nd_M_push_24 (by decide) (fun hc => ?_) (fun hc => absurd rfl hc)
      refine lv_iconst (v := 0) hx hb nd_M_push_52 (by decide) ?_
      exact g_iret hx hb hr hlocks hw hS (by rw [sp_push_1 (Or.inr hb9)]; exact ⟨⟨_, hJ, hv⟩, rfl, hF0⟩) (by exact Nat.le_of_ble_eq_true rfl) (by exact Nat.le_of_ble_eq_true rfl) nd_M_push_53
  · refine lv_aload_n hx hb nd_M_push_0 rfl (lv_at hl 0 rfl) ?_
    refine lv_iload_n hx hb nd_M_push_1 rfl (lv_at hl 1 rfl) ?_
    refine g_calli (va_runS (As := [.int a]) (rest := [.ref mo]) ⟨hx, hb, hml, hown, hts⟩ (c_M_isSlot0 l G w a ha) (cwS 1 hts (nw_of (nw_3 nh_ml_M_22 nh_st_M_isSlot nh_in_M nh_co_M_isSlot)) rfl rfl rfl (by decide +kernel) ⟨Nat.le_of_ble_eq_true rfl, Nat.le_of_ble_eq_true rfl⟩) (g_preS hK hw hS _) rfl rfl hl.1 rfl (lv_room (Nat.le_of_ble_eq_true rfl)) nd_M_push_2 ⟨by exact Nat.le_of_ble_eq_true rfl, by exact Nat.le_of_ble_eq_true rfl⟩) hS (fun v9 w1 H locs hp hw hS => ?_)
    obtain ⟨rfl, hw9⟩ := hp
    rw [hw9] at hw
    refine lv_if_eq (tgt := 19) hx hb nd_M_push_5 (by decide) (fun hc => ?_) (fun hc => absurd rfl hc)
    refine lv_iconst (v := 0) hx hb nd_M_push_19 (by decide) ?_
    refine lv_iconst (v := 1) hx hb nd_M_push_20 (by decide) ?_
    refine g_calli (va_runV (As := [.int 0, .int 1]) (rest := []) ⟨hx, hb, hml, hown, hts⟩ (c_M_good0 l G w mo ra sa (mo_b op) cd 1 hm) (cwV (C := nR_M) 2 hts (nw_of (nw_4 nh_ml_M_26 nh_im_M_good nh_se_M_good nh_in_M nh_co_M_good)) rfl rfl rfl (by decide +kernel) ⟨Nat.le_of_ble_eq_true rfl, Nat.le_of_ble_eq_true rfl⟩) (g_preV (ci := 5) (q := (nR_M, nT_M, 4)) hK hw hS rfl hm _) rfl rfl hl.1 rfl (lv_room (Nat.le_of_ble_eq_true rfl)) nd_M_push_21 ⟨by exact Nat.le_of_ble_eq_true rfl, by exact Nat.le_of_ble_eq_true rfl⟩) hS (fun v9 w2 H locs hp hw hS => ?_)
    obtain ⟨rfl, e9⟩ := hp
    obtain ⟨hJ, hF9⟩ := mo_cod hJ e9
    have hF0 := hF0.tr hF9
    obtain ⟨hm, ⟨g, hra, hg⟩, ⟨fs, hsa, hfs⟩, hrow, hinj⟩ := id hJ
    refine lv_if_eq (tgt := 52) hx hb nd_M_push_24 (by decide) (fun hc => ?_) (fun hc => absurd rfl hc)
    refine lv_iconst (v := 0) hx hb nd_M_push_52 (by decide) ?_
    exact g_iret hx hb hr hlocks hw hS (by rw [sp_push_1 (Or.inl ha)]; exact ⟨⟨_, hJ, hv⟩, rfl, hF0⟩) (by exact Nat.le_of_ble_eq_true rfl) (by exact Nat.le_of_ble_eq_true rfl) nd_M_push_53

set_option maxHeartbeats 4000000 in
set_option maxRecDepth 100000 in
theorem c_M_set (l : Launch) (G : g_G) (w : xw_W) (mo ra sa : Nat) (rr : Nat → Nat) (S : sp_S) (cd : Int32) (hI : mo_I G w mo ra sa rr S cd) (a b k : Int32) (v : Int64) : Met l ny_M_set nw_M_set ({ frames := 1, cells := 0, slots := 0, locals := 30 }) (g_Pc G w [.ref mo, .int a, .int b, .int k, .long v]) (g_Ql G (fun v9 w' => mo_Post G w mo ra sa rr (sp_set S a b k v) v9 w')) 0 0 (xw_A (g_b G)) := by
  refine g_met (by decide) (Nat.le_of_ble_eq_true rfl) rfl ?_
  intro p e s m below meth c ls hx hb hr hts hown hlocks hin hml hl hK hB hw hS
  have hT : ∀ w ∈ nw_T, w.before _ s = true := fun w h => hts w (List.mem_cons_of_mem _ h)
  have hown : s.vm.findClass "RadixShelfModel" = some m.cls := hown
  have hl : lv_has ls 8 [(0, .ref mo), (1, .int a), (2, .int b), (3, .int k), (4, .long v)] := hl
  obtain ⟨op, sz, vs⟩ := S
  obtain ⟨f, hJ9, hv9⟩ := hI
  have hJ : mo_J G w mo ra sa rr op sz f cd := hJ9
  have hv : ∀ k, k < 17 → ∀ z, z < sz k → f k z = vs k z := hv9
  clear hJ9 hv9
  have hF0 : mo_F mo sa rr w w := mo_F.rf
  obtain ⟨hm, ⟨g, hra, hg⟩, ⟨fs, hsa, hfs⟩, hrow, hinj⟩ := id hJ
  by_cases ha : 0 ≤ a ∧ a ≤ 15
  · obtain ⟨i, hi, rfl⟩ := sp_sl_of ha
    by_cases hb9 : 0 ≤ b ∧ b ≤ 15
    · refine lv_aload_n hx hb nd_M_set_0 rfl (lv_at hl 0 rfl) ?_
      refine lv_iload_n hx hb nd_M_set_1 rfl (lv_at hl 1 rfl) ?_
      refine g_calli (va_runS (As := [.int (nI i)]) (rest := [.ref mo]) ⟨hx, hb, hml, hown, hts⟩ (c_M_isSlot1 l G w (nI i) (sp_slh hi)) (cwS 1 hts (nw_of (nw_3 nh_ml_M_22 nh_st_M_isSlot nh_in_M nh_co_M_isSlot)) rfl rfl rfl (by decide +kernel) ⟨Nat.le_of_ble_eq_true rfl, Nat.le_of_ble_eq_true rfl⟩) (g_preS hK hw hS _) rfl rfl hl.1 rfl (lv_room (Nat.le_of_ble_eq_true rfl)) nd_M_set_2 ⟨by exact Nat.le_of_ble_eq_true rfl, by exact Nat.le_of_ble_eq_true rfl⟩) hS (fun v9 w1 H locs hp hw hS => ?_)
      obtain ⟨rfl, hw9⟩ := hp
      rw [hw9] at hw
      refine lv_if_eq (tgt := 19) hx hb nd_M_set_5 (by decide) (fun hc => absurd hc (by decide)) (fun hc => ?_)
      obtain ⟨j, hj, rfl⟩ := sp_sl_of hb9
      refine lv_iload_n hx hb nd_M_set_8 rfl (lv_at hl 2 rfl) ?_
      refine g_calli (va_runS (As := [.int (nI j)]) (rest := [.ref mo]) ⟨hx, hb, hml, hown, hts⟩ (c_M_isSlot1 l G w (nI j) (sp_slh hj)) (cwS 1 hts (nw_of (nw_3 nh_ml_M_22 nh_st_M_isSlot nh_in_M nh_co_M_isSlot)) rfl rfl rfl (by decide +kernel) ⟨Nat.le_of_ble_eq_true rfl, Nat.le_of_ble_eq_true rfl⟩) (g_preS hK hw hS _) rfl rfl hl.1 rfl (lv_room (Nat.le_of_ble_eq_true rfl)) nd_M_set_9 ⟨by exact Nat.le_of_ble_eq_true rfl, by exact Nat.le_of_ble_eq_true rfl⟩) hS (fun v9 w2 H locs hp hw hS => ?_)
      obtain ⟨rfl, hw9⟩ := hp
      rw [hw9] at hw
      refine lv_if_eq (tgt := 19) hx hb nd_M_set_12 (by decide) (fun hc => absurd hc (by decide)) (fun hc => ?_)
      refine lv_iconst (v := 1) hx hb nd_M_set_15 (by decide) ?_
      refine lv_goto (tgt := 20) hx hb nd_M_set_16 (by decide) ?_
      refine lv_iconst (v := 1) hx hb nd_M_set_20 (by decide) ?_
      refine g_calli (va_runV (As := [.int 1, .int 1]) (rest := []) ⟨hx, hb, hml, hown, hts⟩ (c_M_good1 l G w mo ra sa (mo_b op) cd 1 hm) (cwV (C := nR_M) 2 hts (nw_of (nw_4 nh_ml_M_26 nh_im_M_good nh_se_M_good nh_in_M nh_co_M_good)) rfl rfl rfl (by decide +kernel) ⟨Nat.le_of_ble_eq_true rfl, Nat.le_of_ble_eq_true rfl⟩) (g_preV (ci := 5) (q := (nR_M, nT_M, 4)) hK hw hS rfl hm _) rfl rfl hl.1 rfl (lv_room (Nat.le_of_ble_eq_true rfl)) nd_M_set_21 ⟨by exact Nat.le_of_ble_eq_true rfl, by exact Nat.le_of_ble_eq_true rfl⟩) hS (fun v9 w3 H locs hp hw hS => ?_)
      obtain ⟨rfl, e9⟩ := hp
      obtain ⟨hJ, hF9⟩ := mo_cod hJ e9
      have hF0 := hF0.tr hF9
      obtain ⟨hm, ⟨g, hra, hg⟩, ⟨fs, hsa, hfs⟩, hrow, hinj⟩ := id hJ
      refine lv_if_eq (tgt := 54) hx hb nd_M_set_24 (by decide) (fun hc => absurd hc (by decide)) (fun hc => ?_)
      have hj3 : sz j ≤ 3000 := (hrow j (by omega)).1
      by_cases hk : 0 ≤ k ∧ k < nI (sz j)
      · obtain ⟨x, hx1, rfl⟩ := sp_elo hj3 hk
        refine lv_aload_n hx hb nd_M_set_27 rfl (lv_at hl 0 rfl) ?_
        refine lv_iload_n hx hb nd_M_set_28 rfl (lv_at hl 3 rfl) ?_
        refine lv_if_lt (tgt := 46) hx hb nd_M_set_29 (by decide) (fun hc => absurd hc (nI_pos (by omega))) (fun hc => ?_)
        refine lv_iload_n hx hb nd_M_set_32 rfl (lv_at hl 3 rfl) ?_
        refine lv_aload_n hx hb nd_M_set_33 rfl (lv_at hl 0 rfl) ?_
        refine xw_get (T := nT_M) (N := 4) (ci := 5) hx hb hT nu_M hown hK.1 hw hm rfl 1 (by decide) (hT _ nh_fl_M_14) (fun _ h9 => h9) rfl nd_M_set_34 ?_
        refine lv_iload_n hx hb nd_M_set_37 rfl (lv_at hl 2 rfl) ?_
        refine xw_iald hx hb hK.1 hw 4 hsa rfl (vp_in_nI (by omega) (by decide)) nd_M_set_38 ?_
        refine lv_topi (fun y4 ey5 => ?_)
        obtain rfl : y4 = nI (sz j) := ey5.trans (by rw [nI_clamp (by omega)]; exact hfs _ (by omega))
        refine lv_icmp_ge (tgt := 46) hx hb nd_M_set_39 (by decide) (fun hc => absurd hc (nI_ge hx1 (by omega))) (fun hc => ?_)
        refine lv_iconst (v := 1) hx hb nd_M_set_42 (by decide) ?_
        refine lv_goto (tgt := 47) hx hb nd_M_set_43 (by decide) ?_
        refine lv_iconst (v := 2) hx hb nd_M_set_47 (by decide) ?_
        refine g_calli (va_runV (As := [.int 1, .int 2]) (rest := []) ⟨hx, hb, hml, hown, hts⟩ (c_M_good1 l G w3 mo ra sa (mo_b op) 0 2 hm) (cwV (C := nR_M) 2 hts (nw_of (nw_4 nh_ml_M_26 nh_im_M_good nh_se_M_good nh_in_M nh_co_M_good)) rfl rfl rfl (by decide +kernel) ⟨Nat.le_of_ble_eq_true rfl, Nat.le_of_ble_eq_true rfl⟩) (g_preV (ci := 5) (q := (nR_M, nT_M, 4)) hK hw hS rfl hm _) rfl rfl hl.1 rfl (lv_room (Nat.le_of_ble_eq_true rfl)) nd_M_set_48 ⟨by exact Nat.le_of_ble_eq_true rfl, by exact Nat.le_of_ble_eq_true rfl⟩) hS (fun v9 w6 H locs hp hw hS => ?_)
        obtain ⟨rfl, e9⟩ := hp
        obtain ⟨hJ, hF9⟩ := mo_cod hJ e9
        have hF0 := hF0.tr hF9
        obtain ⟨hm, ⟨g, hra, hg⟩, ⟨fs, hsa, hfs⟩, hrow, hinj⟩ := id hJ
        refine lv_if_ne (tgt := 56) hx hb nd_M_set_51 (by decide) (fun hc => ?_) (fun hc => absurd hc (by decide))
        refine lv_aload_n hx hb nd_M_set_56 rfl (lv_at hl 0 rfl) ?_
        refine lv_iload_n hx hb nd_M_set_57 rfl (lv_at hl 1 rfl) ?_
        refine lv_iload_n hx hb nd_M_set_58 rfl (lv_at hl 2 rfl) ?_
        refine g_callv (va_runV (As := [.int (nI i), .int (nI j)]) (rest := []) ⟨hx, hb, hml, hown, hts⟩ (c_M_copy l G w6 mo ra sa rr op sz f 0 i j (by omega) (by omega) hJ) (cwV (C := nR_M) 2 hts (nw_of (nw_4 nh_ml_M_30 nh_im_M_copy nh_se_M_copy nh_in_M nh_co_M_copy)) rfl rfl rfl (by decide +kernel) ⟨Nat.le_of_ble_eq_true rfl, Nat.le_of_ble_eq_true rfl⟩) (g_preV (ci := 5) (q := (nR_M, nT_M, 4)) hK hw hS rfl hm _) rfl rfl hl.1 rfl (lv_room (Nat.le_of_ble_eq_true rfl)) nd_M_set_59 ⟨by exact Nat.le_of_ble_eq_true rfl, by exact Nat.le_of_ble_eq_true rfl⟩) hS (fun w7 H locs hp hw hS => ?_)
        obtain ⟨h, hJ, hh, hF9⟩ := hp
        have hF0 := hF0.tr hF9
        obtain ⟨hm, ⟨g, hra, hg⟩, ⟨fs, hsa, hfs⟩, hrow, hinj⟩ := id hJ
        refine lv_aload_n hx hb nd_M_set_62 rfl (lv_at hl 0 rfl) ?_
        refine xw_get (T := nT_M) (N := 4) (ci := 5) hx hb hT nu_M hown hK.1 hw hm rfl 0 (by decide) (hT _ nh_fl_M_11) (fun _ h9 => h9) rfl nd_M_set_63 ?_
        refine lv_iload_n hx hb nd_M_set_66 rfl (lv_at hl 1 rfl) ?_
        refine xw_aaldA (y := (rr i)) hx hb hK.1 hw 5 hra rfl (vp_in_nI (by omega) (by decide)) (by rw [nI_clamp (by omega)]; exact hg _ (by omega)) nd_M_set_67 ?_
        have hr_i := (hrow i (by omega)).2
        refine lv_iload_n hx hb nd_M_set_68 rfl (lv_at hl 3 rfl) ?_
        refine xw_lald hx hb hK.1 hw 0 hr_i rfl (vp_in_nI (by omega) (by decide)) nd_M_set_69 ?_
        refine lv_topl (fun y8 ey9 => ?_)
        obtain rfl : y8 = vs j x := ey9.trans (by rw [nI_clamp (by omega), va_up_self, hh x hx1]; exact hv j (by omega) x hx1)
        refine lv_lstore hx hb nd_M_set_70 hl (by decide) (lv' := [(6, .long (vs j x)), (0, .ref mo), (1, .int (nI i)), (2, .int (nI j)), (3, .int (nI x)), (4, .long v)]) rfl (fun ls hl => ?_)
        refine lv_aload_n hx hb nd_M_set_72 rfl (lv_at hl 1 rfl) ?_
        refine xw_get (T := nT_M) (N := 4) (ci := 5) hx hb hT nu_M hown hK.1 hw hm rfl 0 (by decide) (hT _ nh_fl_M_11) (fun _ h9 => h9) rfl nd_M_set_73 ?_
        refine lv_iload_n hx hb nd_M_set_76 rfl (lv_at hl 2 rfl) ?_
        refine xw_aaldA (y := (rr i)) hx hb hK.1 hw 5 hra rfl (vp_in_nI (by omega) (by decide)) (by rw [nI_clamp (by omega)]; exact hg _ (by omega)) nd_M_set_77 ?_
        have hr_i := (hrow i (by omega)).2
        refine lv_iload_n hx hb nd_M_set_78 rfl (lv_at hl 4 rfl) ?_
        refine lv_lload hx hb nd_M_set_79 (lv_at hl 5 rfl) ?_
        refine xw_last hx hb hK.1 hB hw hS 0 hr_i rfl (vp_in_nI (by omega) (by decide)) nd_M_set_81 (fun H locs hw hS => ?_)
        rw [nI_clamp (by omega)] at hw
        obtain ⟨w10, ew11⟩ : ∃ z, z = va_up w7 (rr i) (some (.inl (G.2.1 0, 3000, .inr (.inl (vp_updL (va_up f i h i) x v))))) := ⟨_, rfl⟩
        have hw : g_P G w10 H := by rw [ew11]; exact hw
        have hm : w10 mo = some (.inr (5, [.ref ra, .ref sa, .int (mo_b op), .int 0])) := by rw [ew11, va_up_ne _ _ (xw_ne hm hr_i (by simp))]; exact hm
        have hr_i : w10 (rr i) = some (.inl (G.2.1 0, 3000, .inr (.inl (vp_updL (va_up f i h i) x v)))) := by rw [ew11]; exact va_up_self _ _ _
        obtain ⟨hJ, hF9⟩ := mo_row hJ (by omega) ew11
        have hF0 := hF0.tr hF9
        rw [bx_uu, va_up_self] at hJ
        obtain ⟨hm, ⟨g, hra, hg⟩, ⟨fs, hsa, hfs⟩, hrow, hinj⟩ := id hJ
        refine lv_lload hx hb nd_M_set_82 (lv_at hl 0 rfl) ?_
        exact g_lret hx hb hr hlocks hw hS (by rw [sp_set_0 hi hj hj3 hx1]; exact ⟨⟨_, hJ, mo_fin hv (mo_upd (fun z hz hne => (hh z hz).trans (hv j (by omega) z hz)))⟩, rfl, hF0⟩) (by exact Nat.le_of_ble_eq_true rfl) (by exact Nat.le_of_ble_eq_true rfl) nd_M_set_84
      · refine lv_aload_n hx hb nd_M_set_27 rfl (lv_at hl 0 rfl) ?_
        refine lv_iload_n hx hb nd_M_set_28 rfl (lv_at hl 3 rfl) ?_
        refine lv_if_lt (tgt := 46) hx hb nd_M_set_29 (by decide) (fun hc => ?_) (fun hc => ?_)
        · refine lv_iconst (v := 0) hx hb nd_M_set_46 (by decide) ?_
          refine lv_iconst (v := 2) hx hb nd_M_set_47 (by decide) ?_
          refine g_calli (va_runV (As := [.int 0, .int 2]) (rest := []) ⟨hx, hb, hml, hown, hts⟩ (c_M_good0 l G w3 mo ra sa (mo_b op) 0 2 hm) (cwV (C := nR_M) 2 hts (nw_of (nw_4 nh_ml_M_26 nh_im_M_good nh_se_M_good nh_in_M nh_co_M_good)) rfl rfl rfl (by decide +kernel) ⟨Nat.le_of_ble_eq_true rfl, Nat.le_of_ble_eq_true rfl⟩) (g_preV (ci := 5) (q := (nR_M, nT_M, 4)) hK hw hS rfl hm _) rfl rfl hl.1 rfl (lv_room (Nat.le_of_ble_eq_true rfl)) nd_M_set_48 ⟨by exact Nat.le_of_ble_eq_true rfl, by exact Nat.le_of_ble_eq_true rfl⟩) hS (fun v9 w4 H locs hp hw hS => ?_)
          obtain ⟨rfl, e9⟩ := hp
          obtain ⟨hJ, hF9⟩ := mo_cod hJ e9
          have hF0 := hF0.tr hF9
          obtain ⟨hm, ⟨g, hra, hg⟩, ⟨fs, hsa, hfs⟩, hrow, hinj⟩ := id hJ
          refine lv_if_ne (tgt := 56) hx hb nd_M_set_51 (by decide) (fun hc => absurd rfl hc) (fun hc => ?_)
          refine lv_lconst (v := 0) hx hb nd_M_set_54 (by decide) ?_
          exact g_lret hx hb hr hlocks hw hS (by rw [sp_set_2 hi hj hk]; exact ⟨⟨_, hJ, hv⟩, rfl, hF0⟩) (by exact Nat.le_of_ble_eq_true rfl) (by exact Nat.le_of_ble_eq_true rfl) nd_M_set_55
        · have hc0 := hc
          refine lv_iload_n hx hb nd_M_set_32 rfl (lv_at hl 3 rfl) ?_
          refine lv_aload_n hx hb nd_M_set_33 rfl (lv_at hl 0 rfl) ?_
          refine xw_get (T := nT_M) (N := 4) (ci := 5) hx hb hT nu_M hown hK.1 hw hm rfl 1 (by decide) (hT _ nh_fl_M_14) (fun _ h9 => h9) rfl nd_M_set_34 ?_
          refine lv_iload_n hx hb nd_M_set_37 rfl (lv_at hl 2 rfl) ?_
          refine xw_iald hx hb hK.1 hw 4 hsa rfl (vp_in_nI (by omega) (by decide)) nd_M_set_38 ?_
          refine lv_topi (fun y4 ey5 => ?_)
          obtain rfl : y4 = nI (sz j) := ey5.trans (by rw [nI_clamp (by omega)]; exact hfs _ (by omega))
          refine lv_icmp_ge (tgt := 46) hx hb nd_M_set_39 (by decide) (fun hc => ?_) (fun hc => absurd ⟨Int32.not_lt.mp hc0, Int32.not_le.mp hc⟩ hk)
          refine lv_iconst (v := 0) hx hb nd_M_set_46 (by decide) ?_
          refine lv_iconst (v := 2) hx hb nd_M_set_47 (by decide) ?_
          refine g_calli (va_runV (As := [.int 0, .int 2]) (rest := []) ⟨hx, hb, hml, hown, hts⟩ (c_M_good0 l G w3 mo ra sa (mo_b op) 0 2 hm) (cwV (C := nR_M) 2 hts (nw_of (nw_4 nh_ml_M_26 nh_im_M_good nh_se_M_good nh_in_M nh_co_M_good)) rfl rfl rfl (by decide +kernel) ⟨Nat.le_of_ble_eq_true rfl, Nat.le_of_ble_eq_true rfl⟩) (g_preV (ci := 5) (q := (nR_M, nT_M, 4)) hK hw hS rfl hm _) rfl rfl hl.1 rfl (lv_room (Nat.le_of_ble_eq_true rfl)) nd_M_set_48 ⟨by exact Nat.le_of_ble_eq_true rfl, by exact Nat.le_of_ble_eq_true rfl⟩) hS (fun v9 w6 H locs hp hw hS => ?_)
          obtain ⟨rfl, e9⟩ := hp
          obtain ⟨hJ, hF9⟩ := mo_cod hJ e9
          have hF0 := hF0.tr hF9
          obtain ⟨hm, ⟨g, hra, hg⟩, ⟨fs, hsa, hfs⟩, hrow, hinj⟩ := id hJ
          refine lv_if_ne (tgt := 56) hx hb nd_M_set_51 (by decide) (fun hc => absurd rfl hc) (fun hc => ?_)
          refine lv_lconst (v := 0) hx hb nd_M_set_54 (by decide) ?_
          exact g_lret hx hb hr hlocks hw hS (by rw [sp_set_2 hi hj hk]; exact ⟨⟨_, hJ, hv⟩, rfl, hF0⟩) (by exact Nat.le_of_ble_eq_true rfl) (by exact Nat.le_of_ble_eq_true rfl) nd_M_set_55
    · refine lv_aload_n hx hb nd_M_set_0 rfl (lv_at hl 0 rfl) ?_
      refine lv_iload_n hx hb nd_M_set_1 rfl (lv_at hl 1 rfl) ?_
      refine g_calli (va_runS (As := [.int (nI i)]) (rest := [.ref mo]) ⟨hx, hb, hml, hown, hts⟩ (c_M_isSlot1 l G w (nI i) (sp_slh hi)) (cwS 1 hts (nw_of (nw_3 nh_ml_M_22 nh_st_M_isSlot nh_in_M nh_co_M_isSlot)) rfl rfl rfl (by decide +kernel) ⟨Nat.le_of_ble_eq_true rfl, Nat.le_of_ble_eq_true rfl⟩) (g_preS hK hw hS _) rfl rfl hl.1 rfl (lv_room (Nat.le_of_ble_eq_true rfl)) nd_M_set_2 ⟨by exact Nat.le_of_ble_eq_true rfl, by exact Nat.le_of_ble_eq_true rfl⟩) hS (fun v9 w1 H locs hp hw hS => ?_)
      obtain ⟨rfl, hw9⟩ := hp
      rw [hw9] at hw
      refine lv_if_eq (tgt := 19) hx hb nd_M_set_5 (by decide) (fun hc => absurd hc (by decide)) (fun hc => ?_)
      refine lv_iload_n hx hb nd_M_set_8 rfl (lv_at hl 2 rfl) ?_
      refine g_calli (va_runS (As := [.int b]) (rest := [.ref mo]) ⟨hx, hb, hml, hown, hts⟩ (c_M_isSlot0 l G w b hb9) (cwS 1 hts (nw_of (nw_3 nh_ml_M_22 nh_st_M_isSlot nh_in_M nh_co_M_isSlot)) rfl rfl rfl (by decide +kernel) ⟨Nat.le_of_ble_eq_true rfl, Nat.le_of_ble_eq_true rfl⟩) (g_preS hK hw hS _) rfl rfl hl.1 rfl (lv_room (Nat.le_of_ble_eq_true rfl)) nd_M_set_9 ⟨by exact Nat.le_of_ble_eq_true rfl, by exact Nat.le_of_ble_eq_true rfl⟩) hS (fun v9 w2 H locs hp hw hS => ?_)
      obtain ⟨rfl, hw9⟩ := hp
      rw [hw9] at hw
      refine lv_if_eq (tgt := 19) hx hb nd_M_set_12 (by decide) (fun hc => ?_) (fun hc => absurd rfl hc)
      refine lv_iconst (v := 0) hx hb nd_M_set_19 (by decide) ?_
      refine lv_iconst (v := 1) hx hb nd_M_set_20 (by decide) ?_
      refine g_calli (va_runV (As := [.int 0, .int 1]) (rest := []) ⟨hx, hb, hml, hown, hts⟩ (c_M_good0 l G w mo ra sa (mo_b op) cd 1 hm) (cwV (C := nR_M) 2 hts (nw_of (nw_4 nh_ml_M_26 nh_im_M_good nh_se_M_good nh_in_M nh_co_M_good)) rfl rfl rfl (by decide +kernel) ⟨Nat.le_of_ble_eq_true rfl, Nat.le_of_ble_eq_true rfl⟩) (g_preV (ci := 5) (q := (nR_M, nT_M, 4)) hK hw hS rfl hm _) rfl rfl hl.1 rfl (lv_room (Nat.le_of_ble_eq_true rfl)) nd_M_set_21 ⟨by exact Nat.le_of_ble_eq_true rfl, by exact Nat.le_of_ble_eq_true rfl⟩) hS (fun v9 w3 H locs hp hw hS => ?_)
      obtain ⟨rfl, e9⟩ := hp
      obtain ⟨hJ, hF9⟩ := mo_cod hJ e9
      have hF0 := hF0.tr hF9
      obtain ⟨hm, ⟨g, hra, hg⟩, ⟨fs, hsa, hfs⟩, hrow, hinj⟩ := id hJ
      refine lv_if_eq (tgt := 54) hx hb nd_M_set_24 (by decide) (fun hc => ?_) (fun hc => absurd rfl hc)
      refine lv_lconst (v := 0) hx hb nd_M_set_54 (by decide) ?_
      exact g_lret hx hb hr hlocks hw hS (by rw [sp_set_1 (Or.inr hb9)]; exact ⟨⟨_, hJ, hv⟩, rfl, hF0⟩) (by exact Nat.le_of_ble_eq_true rfl) (by exact Nat.le_of_ble_eq_true rfl) nd_M_set_55
  · refine lv_aload_n hx hb nd_M_set_0 rfl (lv_at hl 0 rfl) ?_
    refine lv_iload_n hx hb nd_M_set_1 rfl (lv_at hl 1 rfl) ?_
    refine g_calli (va_runS (As := [.int a]) (rest := [.ref mo]) ⟨hx, hb, hml, hown, hts⟩ (c_M_isSlot0 l G w a ha) (cwS 1 hts (nw_of (nw_3 nh_ml_M_22 nh_st_M_isSlot nh_in_M nh_co_M_isSlot)) rfl rfl rfl (by decide +kernel) ⟨Nat.le_of_ble_eq_true rfl, Nat.le_of_ble_eq_true rfl⟩) (g_preS hK hw hS _) rfl rfl hl.1 rfl (lv_room (Nat.le_of_ble_eq_true rfl)) nd_M_set_2 ⟨by exact Nat.le_of_ble_eq_true rfl, by exact Nat.le_of_ble_eq_true rfl⟩) hS (fun v9 w1 H locs hp hw hS => ?_)
    obtain ⟨rfl, hw9⟩ := hp
    rw [hw9] at hw
    refine lv_if_eq (tgt := 19) hx hb nd_M_set_5 (by decide) (fun hc => ?_) (fun hc => absurd rfl hc)
    refine lv_iconst (v := 0) hx hb nd_M_set_19 (by decide) ?_
    refine lv_iconst (v := 1) hx hb nd_M_set_20 (by decide) ?_
    refine g_calli (va_runV (As := [.int 0, .int 1]) (rest := []) ⟨hx, hb, hml, hown, hts⟩ (c_M_good0 l G w mo ra sa (mo_b op) cd 1 hm) (cwV (C := nR_M) 2 hts (nw_of (nw_4 nh_ml_M_26 nh_im_M_good nh_se_M_good nh_in_M nh_co_M_good)) rfl rfl rfl (by decide +kernel) ⟨Nat.le_of_ble_eq_true rfl, Nat.le_of_ble_eq_true rfl⟩) (g_preV (ci := 5) (q := (nR_M, nT_M, 4)) hK hw hS rfl hm _) rfl rfl hl.1 rfl (lv_room (Nat.le_of_ble_eq_true rfl)) nd_M_set_21 ⟨by exact Nat.le_of_ble_eq_true rfl, by exact Nat.le_of_ble_eq_true rfl⟩) hS (fun v9 w2 H locs hp hw hS => ?_)
    obtain ⟨rfl, e9⟩ := hp
    obtain ⟨hJ, hF9⟩ := mo_cod hJ e9
    have hF0 := hF0.tr hF9
    obtain ⟨hm, ⟨g, hra, hg⟩, ⟨fs, hsa, hfs⟩, hrow, hinj⟩ := id hJ
    refine lv_if_eq (tgt := 54) hx hb nd_M_set_24 (by decide) (fun hc => ?_) (fun hc => absurd rfl hc)
    refine lv_lconst (v := 0) hx hb nd_M_set_54 (by decide) ?_
    exact g_lret hx hb hr hlocks hw hS (by rw [sp_set_1 (Or.inl ha)]; exact ⟨⟨_, hJ, hv⟩, rfl, hF0⟩) (by exact Nat.le_of_ble_eq_true rfl) (by exact Nat.le_of_ble_eq_true rfl) nd_M_set_55

set_option maxHeartbeats 4000000 in
set_option maxRecDepth 100000 in
theorem c_M_at (l : Launch) (G : g_G) (w : xw_W) (mo ra sa : Nat) (rr : Nat → Nat) (S : sp_S) (cd : Int32) (hI : mo_I G w mo ra sa rr S cd) (a k : Int32) : Met l ny_M_at nw_M_at ({ frames := 1, cells := 0, slots := 0, locals := 30 }) (g_Pc G w [.ref mo, .int a, .int k]) (g_Ql G (fun v9 w' => mo_Post G w mo ra sa rr (sp_at S a k) v9 w')) 0 0 (xw_A (g_b G)) := by
  refine g_met (by decide) (Nat.le_of_ble_eq_true rfl) rfl ?_
  intro p e s m below meth c ls hx hb hr hts hown hlocks hin hml hl hK hB hw hS
  have hT : ∀ w ∈ nw_T, w.before _ s = true := fun w h => hts w (List.mem_cons_of_mem _ h)
  have hown : s.vm.findClass "RadixShelfModel" = some m.cls := hown
  have hl : lv_has ls 3 [(0, .ref mo), (1, .int a), (2, .int k)] := hl
  obtain ⟨op, sz, vs⟩ := S
  obtain ⟨f, hJ9, hv9⟩ := hI
  have hJ : mo_J G w mo ra sa rr op sz f cd := hJ9
  have hv : ∀ k, k < 17 → ∀ z, z < sz k → f k z = vs k z := hv9
  clear hJ9 hv9
  have hF0 : mo_F mo sa rr w w := mo_F.rf
  obtain ⟨hm, ⟨g, hra, hg⟩, ⟨fs, hsa, hfs⟩, hrow, hinj⟩ := id hJ
  by_cases ha : 0 ≤ a ∧ a ≤ 15
  · obtain ⟨j, hj, rfl⟩ := sp_sl_of ha
    refine lv_aload_n hx hb nd_M_at_0 rfl (lv_at hl 0 rfl) ?_
    refine lv_iload_n hx hb nd_M_at_1 rfl (lv_at hl 1 rfl) ?_
    refine g_calli (va_runS (As := [.int (nI j)]) (rest := [.ref mo]) ⟨hx, hb, hml, hown, hts⟩ (c_M_isSlot1 l G w (nI j) (sp_slh hj)) (cwS 1 hts (nw_of (nw_3 nh_ml_M_22 nh_st_M_isSlot nh_in_M nh_co_M_isSlot)) rfl rfl rfl (by decide +kernel) ⟨Nat.le_of_ble_eq_true rfl, Nat.le_of_ble_eq_true rfl⟩) (g_preS hK hw hS _) rfl rfl hl.1 rfl (lv_room (Nat.le_of_ble_eq_true rfl)) nd_M_at_2 ⟨by exact Nat.le_of_ble_eq_true rfl, by exact Nat.le_of_ble_eq_true rfl⟩) hS (fun v9 w1 H locs hp hw hS => ?_)
    obtain ⟨rfl, hw9⟩ := hp
    rw [hw9] at hw
    refine lv_iconst (v := 1) hx hb nd_M_at_5 (by decide) ?_
    refine g_calli (va_runV (As := [.int 1, .int 1]) (rest := []) ⟨hx, hb, hml, hown, hts⟩ (c_M_good1 l G w mo ra sa (mo_b op) cd 1 hm) (cwV (C := nR_M) 2 hts (nw_of (nw_4 nh_ml_M_26 nh_im_M_good nh_se_M_good nh_in_M nh_co_M_good)) rfl rfl rfl (by decide +kernel) ⟨Nat.le_of_ble_eq_true rfl, Nat.le_of_ble_eq_true rfl⟩) (g_preV (ci := 5) (q := (nR_M, nT_M, 4)) hK hw hS rfl hm _) rfl rfl hl.1 rfl (lv_room (Nat.le_of_ble_eq_true rfl)) nd_M_at_6 ⟨by exact Nat.le_of_ble_eq_true rfl, by exact Nat.le_of_ble_eq_true rfl⟩) hS (fun v9 w2 H locs hp hw hS => ?_)
    obtain ⟨rfl, e9⟩ := hp
    obtain ⟨hJ, hF9⟩ := mo_cod hJ e9
    have hF0 := hF0.tr hF9
    obtain ⟨hm, ⟨g, hra, hg⟩, ⟨fs, hsa, hfs⟩, hrow, hinj⟩ := id hJ
    refine lv_if_eq (tgt := 39) hx hb nd_M_at_9 (by decide) (fun hc => absurd hc (by decide)) (fun hc => ?_)
    have hj3 : sz j ≤ 3000 := (hrow j (by omega)).1
    by_cases hk : 0 ≤ k ∧ k < nI (sz j)
    · obtain ⟨x, hx1, rfl⟩ := sp_elo hj3 hk
      refine lv_aload_n hx hb nd_M_at_12 rfl (lv_at hl 0 rfl) ?_
      refine lv_iload_n hx hb nd_M_at_13 rfl (lv_at hl 2 rfl) ?_
      refine lv_if_lt (tgt := 31) hx hb nd_M_at_14 (by decide) (fun hc => absurd hc (nI_pos (by omega))) (fun hc => ?_)
      refine lv_iload_n hx hb nd_M_at_17 rfl (lv_at hl 2 rfl) ?_
      refine lv_aload_n hx hb nd_M_at_18 rfl (lv_at hl 0 rfl) ?_
      refine xw_get (T := nT_M) (N := 4) (ci := 5) hx hb hT nu_M hown hK.1 hw hm rfl 1 (by decide) (hT _ nh_fl_M_14) (fun _ h9 => h9) rfl nd_M_at_19 ?_
      refine lv_iload_n hx hb nd_M_at_22 rfl (lv_at hl 1 rfl) ?_
      refine xw_iald hx hb hK.1 hw 4 hsa rfl (vp_in_nI (by omega) (by decide)) nd_M_at_23 ?_
      refine lv_topi (fun y3 ey4 => ?_)
      obtain rfl : y3 = nI (sz j) := ey4.trans (by rw [nI_clamp (by omega)]; exact hfs _ (by omega))
      refine lv_icmp_ge (tgt := 31) hx hb nd_M_at_24 (by decide) (fun hc => absurd hc (nI_ge hx1 (by omega))) (fun hc => ?_)
      refine lv_iconst (v := 1) hx hb nd_M_at_27 (by decide) ?_
      refine lv_goto (tgt := 32) hx hb nd_M_at_28 (by decide) ?_
      refine lv_iconst (v := 2) hx hb nd_M_at_32 (by decide) ?_
      refine g_calli (va_runV (As := [.int 1, .int 2]) (rest := []) ⟨hx, hb, hml, hown, hts⟩ (c_M_good1 l G w2 mo ra sa (mo_b op) 0 2 hm) (cwV (C := nR_M) 2 hts (nw_of (nw_4 nh_ml_M_26 nh_im_M_good nh_se_M_good nh_in_M nh_co_M_good)) rfl rfl rfl (by decide +kernel) ⟨Nat.le_of_ble_eq_true rfl, Nat.le_of_ble_eq_true rfl⟩) (g_preV (ci := 5) (q := (nR_M, nT_M, 4)) hK hw hS rfl hm _) rfl rfl hl.1 rfl (lv_room (Nat.le_of_ble_eq_true rfl)) nd_M_at_33 ⟨by exact Nat.le_of_ble_eq_true rfl, by exact Nat.le_of_ble_eq_true rfl⟩) hS (fun v9 w5 H locs hp hw hS => ?_)
      obtain ⟨rfl, e9⟩ := hp
      obtain ⟨hJ, hF9⟩ := mo_cod hJ e9
      have hF0 := hF0.tr hF9
      obtain ⟨hm, ⟨g, hra, hg⟩, ⟨fs, hsa, hfs⟩, hrow, hinj⟩ := id hJ
      refine lv_if_ne (tgt := 41) hx hb nd_M_at_36 (by decide) (fun hc => ?_) (fun hc => absurd hc (by decide))
      refine lv_aload_n hx hb nd_M_at_41 rfl (lv_at hl 0 rfl) ?_
      refine xw_get (T := nT_M) (N := 4) (ci := 5) hx hb hT nu_M hown hK.1 hw hm rfl 0 (by decide) (hT _ nh_fl_M_11) (fun _ h9 => h9) rfl nd_M_at_42 ?_
      refine lv_iload_n hx hb nd_M_at_45 rfl (lv_at hl 1 rfl) ?_
      refine xw_aaldA (y := (rr j)) hx hb hK.1 hw 5 hra rfl (vp_in_nI (by omega) (by decide)) (by rw [nI_clamp (by omega)]; exact hg _ (by omega)) nd_M_at_46 ?_
      have hr_j := (hrow j (by omega)).2
      refine lv_iload_n hx hb nd_M_at_47 rfl (lv_at hl 2 rfl) ?_
      refine xw_lald hx hb hK.1 hw 0 hr_j rfl (vp_in_nI (by omega) (by decide)) nd_M_at_48 ?_
      refine lv_topl (fun y6 ey7 => ?_)
      obtain rfl : y6 = vs j x := ey7.trans (by rw [nI_clamp (by omega)]; exact hv j (by omega) x hx1)
      exact g_lret hx hb hr hlocks hw hS (by rw [sp_at_0 hj hj3 hx1]; exact ⟨⟨_, hJ, hv⟩, rfl, hF0⟩) (by exact Nat.le_of_ble_eq_true rfl) (by exact Nat.le_of_ble_eq_true rfl) nd_M_at_49
    · refine lv_aload_n hx hb nd_M_at_12 rfl (lv_at hl 0 rfl) ?_
      refine lv_iload_n hx hb nd_M_at_13 rfl (lv_at hl 2 rfl) ?_
      refine lv_if_lt (tgt := 31) hx hb nd_M_at_14 (by decide) (fun hc => ?_) (fun hc => ?_)
      · refine lv_iconst (v := 0) hx hb nd_M_at_31 (by decide) ?_
        refine lv_iconst (v := 2) hx hb nd_M_at_32 (by decide) ?_
        refine g_calli (va_runV (As := [.int 0, .int 2]) (rest := []) ⟨hx, hb, hml, hown, hts⟩ (c_M_good0 l G w2 mo ra sa (mo_b op) 0 2 hm) (cwV (C := nR_M) 2 hts (nw_of (nw_4 nh_ml_M_26 nh_im_M_good nh_se_M_good nh_in_M nh_co_M_good)) rfl rfl rfl (by decide +kernel) ⟨Nat.le_of_ble_eq_true rfl, Nat.le_of_ble_eq_true rfl⟩) (g_preV (ci := 5) (q := (nR_M, nT_M, 4)) hK hw hS rfl hm _) rfl rfl hl.1 rfl (lv_room (Nat.le_of_ble_eq_true rfl)) nd_M_at_33 ⟨by exact Nat.le_of_ble_eq_true rfl, by exact Nat.le_of_ble_eq_true rfl⟩) hS (fun v9 w3 H locs hp hw hS => ?_)
        obtain ⟨rfl, e9⟩ := hp
        obtain ⟨hJ, hF9⟩ := mo_cod hJ e9
        have hF0 := hF0.tr hF9
        obtain ⟨hm, ⟨g, hra, hg⟩, ⟨fs, hsa, hfs⟩, hrow, hinj⟩ := id hJ
        refine lv_if_ne (tgt := 41) hx hb nd_M_at_36 (by decide) (fun hc => absurd rfl hc) (fun hc => ?_)
        refine lv_lconst (v := 0) hx hb nd_M_at_39 (by decide) ?_
        exact g_lret hx hb hr hlocks hw hS (by rw [sp_at_2 hj hk]; exact ⟨⟨_, hJ, hv⟩, rfl, hF0⟩) (by exact Nat.le_of_ble_eq_true rfl) (by exact Nat.le_of_ble_eq_true rfl) nd_M_at_40
      · have hc0 := hc
        refine lv_iload_n hx hb nd_M_at_17 rfl (lv_at hl 2 rfl) ?_
        refine lv_aload_n hx hb nd_M_at_18 rfl (lv_at hl 0 rfl) ?_
        refine xw_get (T := nT_M) (N := 4) (ci := 5) hx hb hT nu_M hown hK.1 hw hm rfl 1 (by decide) (hT _ nh_fl_M_14) (fun _ h9 => h9) rfl nd_M_at_19 ?_
        refine lv_iload_n hx hb nd_M_at_22 rfl (lv_at hl 1 rfl) ?_
        refine xw_iald hx hb hK.1 hw 4 hsa rfl (vp_in_nI (by omega) (by decide)) nd_M_at_23 ?_
        refine lv_topi (fun y3 ey4 => ?_)
        obtain rfl : y3 = nI (sz j) := ey4.trans (by rw [nI_clamp (by omega)]; exact hfs _ (by omega))
        refine lv_icmp_ge (tgt := 31) hx hb nd_M_at_24 (by decide) (fun hc => ?_) (fun hc => absurd ⟨Int32.not_lt.mp hc0, Int32.not_le.mp hc⟩ hk)
        refine lv_iconst (v := 0) hx hb nd_M_at_31 (by decide) ?_
        refine lv_iconst (v := 2) hx hb nd_M_at_32 (by decide) ?_
        refine g_calli (va_runV (As := [.int 0, .int 2]) (rest := []) ⟨hx, hb, hml, hown, hts⟩ (c_M_good0 l G w2 mo ra sa (mo_b op) 0 2 hm) (cwV (C := nR_M) 2 hts (nw_of (nw_4 nh_ml_M_26 nh_im_M_good nh_se_M_good nh_in_M nh_co_M_good)) rfl rfl rfl (by decide +kernel) ⟨Nat.le_of_ble_eq_true rfl, Nat.le_of_ble_eq_true rfl⟩) (g_preV (ci := 5) (q := (nR_M, nT_M, 4)) hK hw hS rfl hm _) rfl rfl hl.1 rfl (lv_room (Nat.le_of_ble_eq_true rfl)) nd_M_at_33 ⟨by exact Nat.le_of_ble_eq_true rfl, by exact Nat.le_of_ble_eq_true rfl⟩) hS (fun v9 w5 H locs hp hw hS => ?_)
        obtain ⟨rfl, e9⟩ := hp
        obtain ⟨hJ, hF9⟩ := mo_cod hJ e9
        have hF0 := hF0.tr hF9
        obtain ⟨hm, ⟨g, hra, hg⟩, ⟨fs, hsa, hfs⟩, hrow, hinj⟩ := id hJ
        refine lv_if_ne (tgt := 41) hx hb nd_M_at_36 (by decide) (fun hc => absurd rfl hc) (fun hc => ?_)
        refine lv_lconst (v := 0) hx hb nd_M_at_39 (by decide) ?_
        exact g_lret hx hb hr hlocks hw hS (by rw [sp_at_2 hj hk]; exact ⟨⟨_, hJ, hv⟩, rfl, hF0⟩) (by exact Nat.le_of_ble_eq_true rfl) (by exact Nat.le_of_ble_eq_true rfl) nd_M_at_40
  · refine lv_aload_n hx hb nd_M_at_0 rfl (lv_at hl 0 rfl) ?_
    refine lv_iload_n hx hb nd_M_at_1 rfl (lv_at hl 1 rfl) ?_
    refine g_calli (va_runS (As := [.int a]) (rest := [.ref mo]) ⟨hx, hb, hml, hown, hts⟩ (c_M_isSlot0 l G w a ha) (cwS 1 hts (nw_of (nw_3 nh_ml_M_22 nh_st_M_isSlot nh_in_M nh_co_M_isSlot)) rfl rfl rfl (by decide +kernel) ⟨Nat.le_of_ble_eq_true rfl, Nat.le_of_ble_eq_true rfl⟩) (g_preS hK hw hS _) rfl rfl hl.1 rfl (lv_room (Nat.le_of_ble_eq_true rfl)) nd_M_at_2 ⟨by exact Nat.le_of_ble_eq_true rfl, by exact Nat.le_of_ble_eq_true rfl⟩) hS (fun v9 w1 H locs hp hw hS => ?_)
    obtain ⟨rfl, hw9⟩ := hp
    rw [hw9] at hw
    refine lv_iconst (v := 1) hx hb nd_M_at_5 (by decide) ?_
    refine g_calli (va_runV (As := [.int 0, .int 1]) (rest := []) ⟨hx, hb, hml, hown, hts⟩ (c_M_good0 l G w mo ra sa (mo_b op) cd 1 hm) (cwV (C := nR_M) 2 hts (nw_of (nw_4 nh_ml_M_26 nh_im_M_good nh_se_M_good nh_in_M nh_co_M_good)) rfl rfl rfl (by decide +kernel) ⟨Nat.le_of_ble_eq_true rfl, Nat.le_of_ble_eq_true rfl⟩) (g_preV (ci := 5) (q := (nR_M, nT_M, 4)) hK hw hS rfl hm _) rfl rfl hl.1 rfl (lv_room (Nat.le_of_ble_eq_true rfl)) nd_M_at_6 ⟨by exact Nat.le_of_ble_eq_true rfl, by exact Nat.le_of_ble_eq_true rfl⟩) hS (fun v9 w2 H locs hp hw hS => ?_)
    obtain ⟨rfl, e9⟩ := hp
    obtain ⟨hJ, hF9⟩ := mo_cod hJ e9
    have hF0 := hF0.tr hF9
    obtain ⟨hm, ⟨g, hra, hg⟩, ⟨fs, hsa, hfs⟩, hrow, hinj⟩ := id hJ
    refine lv_if_eq (tgt := 39) hx hb nd_M_at_9 (by decide) (fun hc => ?_) (fun hc => absurd rfl hc)
    refine lv_lconst (v := 0) hx hb nd_M_at_39 (by decide) ?_
    exact g_lret hx hb hr hlocks hw hS (by rw [sp_at_1 ha]; exact ⟨⟨_, hJ, hv⟩, rfl, hF0⟩) (by exact Nat.le_of_ble_eq_true rfl) (by exact Nat.le_of_ble_eq_true rfl) nd_M_at_40

set_option maxHeartbeats 4000000 in
set_option maxRecDepth 100000 in
theorem c_M_size (l : Launch) (G : g_G) (w : xw_W) (mo ra sa : Nat) (rr : Nat → Nat) (S : sp_S) (cd : Int32) (hI : mo_I G w mo ra sa rr S cd) (a : Int32) : Met l ny_M_size nw_M_size ({ frames := 1, cells := 0, slots := 0, locals := 30 }) (g_Pc G w [.ref mo, .int a]) (g_Qi G (fun v9 w' => mo_Post G w mo ra sa rr (sp_size S a) v9.toInt64 w')) 0 0 (xw_A (g_b G)) := by
  refine g_met (by decide) (Nat.le_of_ble_eq_true rfl) rfl ?_
  intro p e s m below meth c ls hx hb hr hts hown hlocks hin hml hl hK hB hw hS
  have hT : ∀ w ∈ nw_T, w.before _ s = true := fun w h => hts w (List.mem_cons_of_mem _ h)
  have hown : s.vm.findClass "RadixShelfModel" = some m.cls := hown
  have hl : lv_has ls 2 [(0, .ref mo), (1, .int a)] := hl
  obtain ⟨op, sz, vs⟩ := S
  obtain ⟨f, hJ9, hv9⟩ := hI
  have hJ : mo_J G w mo ra sa rr op sz f cd := hJ9
  have hv : ∀ k, k < 17 → ∀ z, z < sz k → f k z = vs k z := hv9
  clear hJ9 hv9
  have hF0 : mo_F mo sa rr w w := mo_F.rf
  obtain ⟨hm, ⟨g, hra, hg⟩, ⟨fs, hsa, hfs⟩, hrow, hinj⟩ := id hJ
  by_cases ha : 0 ≤ a ∧ a ≤ 15
  · obtain ⟨j, hj, rfl⟩ := sp_sl_of ha
    refine lv_aload_n hx hb nd_M_size_0 rfl (lv_at hl 0 rfl) ?_
    refine lv_iload_n hx hb nd_M_size_1 rfl (lv_at hl 1 rfl) ?_
    refine g_calli (va_runS (As := [.int (nI j)]) (rest := [.ref mo]) ⟨hx, hb, hml, hown, hts⟩ (c_M_isSlot1 l G w (nI j) (sp_slh hj)) (cwS 1 hts (nw_of (nw_3 nh_ml_M_22 nh_st_M_isSlot nh_in_M nh_co_M_isSlot)) rfl rfl rfl (by decide +kernel) ⟨Nat.le_of_ble_eq_true rfl, Nat.le_of_ble_eq_true rfl⟩) (g_preS hK hw hS _) rfl rfl hl.1 rfl (lv_room (Nat.le_of_ble_eq_true rfl)) nd_M_size_2 ⟨by exact Nat.le_of_ble_eq_true rfl, by exact Nat.le_of_ble_eq_true rfl⟩) hS (fun v9 w1 H locs hp hw hS => ?_)
    obtain ⟨rfl, hw9⟩ := hp
    rw [hw9] at hw
    refine lv_iconst (v := 1) hx hb nd_M_size_5 (by decide) ?_
    refine g_calli (va_runV (As := [.int 1, .int 1]) (rest := []) ⟨hx, hb, hml, hown, hts⟩ (c_M_good1 l G w mo ra sa (mo_b op) cd 1 hm) (cwV (C := nR_M) 2 hts (nw_of (nw_4 nh_ml_M_26 nh_im_M_good nh_se_M_good nh_in_M nh_co_M_good)) rfl rfl rfl (by decide +kernel) ⟨Nat.le_of_ble_eq_true rfl, Nat.le_of_ble_eq_true rfl⟩) (g_preV (ci := 5) (q := (nR_M, nT_M, 4)) hK hw hS rfl hm _) rfl rfl hl.1 rfl (lv_room (Nat.le_of_ble_eq_true rfl)) nd_M_size_6 ⟨by exact Nat.le_of_ble_eq_true rfl, by exact Nat.le_of_ble_eq_true rfl⟩) hS (fun v9 w2 H locs hp hw hS => ?_)
    obtain ⟨rfl, e9⟩ := hp
    obtain ⟨hJ, hF9⟩ := mo_cod hJ e9
    have hF0 := hF0.tr hF9
    obtain ⟨hm, ⟨g, hra, hg⟩, ⟨fs, hsa, hfs⟩, hrow, hinj⟩ := id hJ
    refine lv_if_eq (tgt := 21) hx hb nd_M_size_9 (by decide) (fun hc => absurd hc (by decide)) (fun hc => ?_)
    refine lv_aload_n hx hb nd_M_size_12 rfl (lv_at hl 0 rfl) ?_
    refine xw_get (T := nT_M) (N := 4) (ci := 5) hx hb hT nu_M hown hK.1 hw hm rfl 1 (by decide) (hT _ nh_fl_M_14) (fun _ h9 => h9) rfl nd_M_size_13 ?_
    refine lv_iload_n hx hb nd_M_size_16 rfl (lv_at hl 1 rfl) ?_
    refine xw_iald hx hb hK.1 hw 4 hsa rfl (vp_in_nI (by omega) (by decide)) nd_M_size_17 ?_
    refine lv_topi (fun y3 ey4 => ?_)
    obtain rfl : y3 = nI (sz j) := ey4.trans (by rw [nI_clamp (by omega)]; exact hfs _ (by omega))
    refine lv_goto (tgt := 22) hx hb nd_M_size_18 (by decide) ?_
    exact g_iret hx hb hr hlocks hw hS (by rw [sp_size_0 hj]; exact ⟨⟨_, hJ, hv⟩, rfl, hF0⟩) (by exact Nat.le_of_ble_eq_true rfl) (by exact Nat.le_of_ble_eq_true rfl) nd_M_size_22
  · refine lv_aload_n hx hb nd_M_size_0 rfl (lv_at hl 0 rfl) ?_
    refine lv_iload_n hx hb nd_M_size_1 rfl (lv_at hl 1 rfl) ?_
    refine g_calli (va_runS (As := [.int a]) (rest := [.ref mo]) ⟨hx, hb, hml, hown, hts⟩ (c_M_isSlot0 l G w a ha) (cwS 1 hts (nw_of (nw_3 nh_ml_M_22 nh_st_M_isSlot nh_in_M nh_co_M_isSlot)) rfl rfl rfl (by decide +kernel) ⟨Nat.le_of_ble_eq_true rfl, Nat.le_of_ble_eq_true rfl⟩) (g_preS hK hw hS _) rfl rfl hl.1 rfl (lv_room (Nat.le_of_ble_eq_true rfl)) nd_M_size_2 ⟨by exact Nat.le_of_ble_eq_true rfl, by exact Nat.le_of_ble_eq_true rfl⟩) hS (fun v9 w1 H locs hp hw hS => ?_)
    obtain ⟨rfl, hw9⟩ := hp
    rw [hw9] at hw
    refine lv_iconst (v := 1) hx hb nd_M_size_5 (by decide) ?_
    refine g_calli (va_runV (As := [.int 0, .int 1]) (rest := []) ⟨hx, hb, hml, hown, hts⟩ (c_M_good0 l G w mo ra sa (mo_b op) cd 1 hm) (cwV (C := nR_M) 2 hts (nw_of (nw_4 nh_ml_M_26 nh_im_M_good nh_se_M_good nh_in_M nh_co_M_good)) rfl rfl rfl (by decide +kernel) ⟨Nat.le_of_ble_eq_true rfl, Nat.le_of_ble_eq_true rfl⟩) (g_preV (ci := 5) (q := (nR_M, nT_M, 4)) hK hw hS rfl hm _) rfl rfl hl.1 rfl (lv_room (Nat.le_of_ble_eq_true rfl)) nd_M_size_6 ⟨by exact Nat.le_of_ble_eq_true rfl, by exact Nat.le_of_ble_eq_true rfl⟩) hS (fun v9 w2 H locs hp hw hS => ?_)
    obtain ⟨rfl, e9⟩ := hp
    obtain ⟨hJ, hF9⟩ := mo_cod hJ e9
    have hF0 := hF0.tr hF9
    obtain ⟨hm, ⟨g, hra, hg⟩, ⟨fs, hsa, hfs⟩, hrow, hinj⟩ := id hJ
    refine lv_if_eq (tgt := 21) hx hb nd_M_size_9 (by decide) (fun hc => ?_) (fun hc => absurd rfl hc)
    refine lv_iconst (v := 0) hx hb nd_M_size_21 (by decide) ?_
    exact g_iret hx hb hr hlocks hw hS (by rw [sp_size_1 ha]; exact ⟨⟨_, hJ, hv⟩, rfl, hF0⟩) (by exact Nat.le_of_ble_eq_true rfl) (by exact Nat.le_of_ble_eq_true rfl) nd_M_size_22
