set_option maxHeartbeats 4000000 in
set_option maxRecDepth 100000 in
theorem c_M_cut (l : Launch) (G : g_G) (w : xw_W) (mo ra sa : Nat) (rr : Nat → Nat) (S : sp_S) (cd : Int32) (hI : mo_I G w mo ra sa rr S cd) (a b p0 p1 : Int32) : Met l ny_M_cut nw_M_cut ({ frames := 1, cells := 0, slots := 0, locals := 30 }) (g_Pc G w [.ref mo, .int a, .int b, .int p0, .int p1]) (g_Qi G (fun v9 w' => mo_Post G w mo ra sa rr (sp_cut S a b p0 p1) v9.toInt64 w')) 0 0 (xw_A (g_b G)) := by
  refine g_met (by decide) (Nat.le_of_ble_eq_true rfl) rfl ?_
  intro p e s m below meth c ls hx hb hr hts hown hlocks hin hml hl hK hB hw hS
  have hT : ∀ w ∈ nw_T, w.before _ s = true := fun w h => hts w (List.mem_cons_of_mem _ h)
  have hown : s.vm.findClass "RadixShelfModel" = some m.cls := hown
  have hl : lv_has ls 7 [(0, .ref mo), (1, .int a), (2, .int b), (3, .int p0), (4, .int p1)] := hl
  obtain ⟨op, sz, vs⟩ := S
  obtain ⟨f, hJ9, hv9⟩ := hI
  have hJ : mo_J G w mo ra sa rr op sz f cd := hJ9
  have hv : ∀ k, k < 17 → ∀ z, z < sz k → f k z = vs k z := hv9
  clear hJ9 hv9
  have hF0 : mo_F mo sa rr w w := mo_F.rf
  obtain ⟨hm, ⟨g, hra, hg⟩, ⟨fs, hsa, hfs⟩, hrow, hinj⟩ := id hJ
  by_cases ha : 0 ≤ a ∧ a ≤ 15
  · obtain ⟨i, hi, rfl⟩ := sp_sl_of ha
    by_cases hb9 : 0 ≤ b ∧ b ≤ 15
    · refine lv_aload_n hx hb nd_M_cut_0 rfl (lv_at hl 0 rfl) ?_
      refine lv_iload_n hx hb nd_M_cut_1 rfl (lv_at hl 1 rfl) ?_
      refine g_calli (va_runS (As := [.int (nI i)]) (rest := [.ref mo]) ⟨hx, hb, hml, hown, hts⟩ (c_M_isSlot1 l G w (nI i) (sp_slh hi)) (cwS 1 hts (nw_of (nw_3 nh_ml_M_22 nh_st_M_isSlot nh_in_M nh_co_M_isSlot)) rfl rfl rfl (by decide +kernel) ⟨Nat.le_of_ble_eq_true rfl, Nat.le_of_ble_eq_true rfl⟩) (g_preS hK hw hS _) rfl rfl hl.1 rfl (lv_room (Nat.le_of_ble_eq_true rfl)) nd_M_cut_2 ⟨by exact Nat.le_of_ble_eq_true rfl, by exact Nat.le_of_ble_eq_true rfl⟩) hS (fun v9 w1 H locs hp hw hS => ?_)
      obtain ⟨rfl, hw9⟩ := hp
      rw [hw9] at hw
      refine lv_if_eq (tgt := 28) hx hb nd_M_cut_5 (by decide) (fun hc => absurd hc (by decide)) (fun hc => ?_)
      obtain ⟨j, hj, rfl⟩ := sp_sl_of hb9
      refine lv_iload_n hx hb nd_M_cut_8 rfl (lv_at hl 2 rfl) ?_
      refine g_calli (va_runS (As := [.int (nI j)]) (rest := [.ref mo]) ⟨hx, hb, hml, hown, hts⟩ (c_M_isSlot1 l G w (nI j) (sp_slh hj)) (cwS 1 hts (nw_of (nw_3 nh_ml_M_22 nh_st_M_isSlot nh_in_M nh_co_M_isSlot)) rfl rfl rfl (by decide +kernel) ⟨Nat.le_of_ble_eq_true rfl, Nat.le_of_ble_eq_true rfl⟩) (g_preS hK hw hS _) rfl rfl hl.1 rfl (lv_room (Nat.le_of_ble_eq_true rfl)) nd_M_cut_9 ⟨by exact Nat.le_of_ble_eq_true rfl, by exact Nat.le_of_ble_eq_true rfl⟩) hS (fun v9 w2 H locs hp hw hS => ?_)
      obtain ⟨rfl, hw9⟩ := hp
      rw [hw9] at hw
      refine lv_if_eq (tgt := 28) hx hb nd_M_cut_12 (by decide) (fun hc => absurd hc (by decide)) (fun hc => ?_)
      refine lv_iload_n hx hb nd_M_cut_15 rfl (lv_at hl 3 rfl) ?_
      refine lv_if_lt (tgt := 28) hx hb nd_M_cut_16 (by decide) (fun hp0 => ?_) (fun hp0 => ?_)
      · refine lv_iconst (v := 0) hx hb nd_M_cut_28 (by decide) ?_
        refine lv_iconst (v := 1) hx hb nd_M_cut_29 (by decide) ?_
        refine g_calli (va_runV (As := [.int 0, .int 1]) (rest := []) ⟨hx, hb, hml, hown, hts⟩ (c_M_good0 l G w mo ra sa (mo_b op) cd 1 hm) (cwV (C := nR_M) 2 hts (nw_of (nw_4 nh_ml_M_26 nh_im_M_good nh_se_M_good nh_in_M nh_co_M_good)) rfl rfl rfl (by decide +kernel) ⟨Nat.le_of_ble_eq_true rfl, Nat.le_of_ble_eq_true rfl⟩) (g_preV (ci := 5) (q := (nR_M, nT_M, 4)) hK hw hS rfl hm _) rfl rfl hl.1 rfl (lv_room (Nat.le_of_ble_eq_true rfl)) nd_M_cut_30 ⟨by exact Nat.le_of_ble_eq_true rfl, by exact Nat.le_of_ble_eq_true rfl⟩) hS (fun v9 w3 H locs hp hw hS => ?_)
        obtain ⟨rfl, e9⟩ := hp
        obtain ⟨hJ, hF9⟩ := mo_cod hJ e9
        have hF0 := hF0.tr hF9
        obtain ⟨hm, ⟨g, hra, hg⟩, ⟨fs, hsa, hfs⟩, hrow, hinj⟩ := id hJ
        refine lv_if_eq (tgt := 66) hx hb nd_M_cut_33 (by decide) (fun hc => ?_) (fun hc => absurd rfl hc)
        refine lv_iconst (v := 0) hx hb nd_M_cut_66 (by decide) ?_
        exact g_iret hx hb hr hlocks hw hS (by rw [sp_cut_1 (Or.inr (Or.inr (Or.inl (Int32.not_le.mpr hp0))))]; exact ⟨⟨_, hJ, hv⟩, rfl, hF0⟩) (by exact Nat.le_of_ble_eq_true rfl) (by exact Nat.le_of_ble_eq_true rfl) nd_M_cut_67
      · refine lv_iload hx hb nd_M_cut_19 (lv_at hl 4 rfl) ?_
        refine lv_if_lt (tgt := 28) hx hb nd_M_cut_21 (by decide) (fun hp1 => ?_) (fun hp1 => ?_)
        · refine lv_iconst (v := 0) hx hb nd_M_cut_28 (by decide) ?_
          refine lv_iconst (v := 1) hx hb nd_M_cut_29 (by decide) ?_
          refine g_calli (va_runV (As := [.int 0, .int 1]) (rest := []) ⟨hx, hb, hml, hown, hts⟩ (c_M_good0 l G w mo ra sa (mo_b op) cd 1 hm) (cwV (C := nR_M) 2 hts (nw_of (nw_4 nh_ml_M_26 nh_im_M_good nh_se_M_good nh_in_M nh_co_M_good)) rfl rfl rfl (by decide +kernel) ⟨Nat.le_of_ble_eq_true rfl, Nat.le_of_ble_eq_true rfl⟩) (g_preV (ci := 5) (q := (nR_M, nT_M, 4)) hK hw hS rfl hm _) rfl rfl hl.1 rfl (lv_room (Nat.le_of_ble_eq_true rfl)) nd_M_cut_30 ⟨by exact Nat.le_of_ble_eq_true rfl, by exact Nat.le_of_ble_eq_true rfl⟩) hS (fun v9 w3 H locs hp hw hS => ?_)
          obtain ⟨rfl, e9⟩ := hp
          obtain ⟨hJ, hF9⟩ := mo_cod hJ e9
          have hF0 := hF0.tr hF9
          obtain ⟨hm, ⟨g, hra, hg⟩, ⟨fs, hsa, hfs⟩, hrow, hinj⟩ := id hJ
          refine lv_if_eq (tgt := 66) hx hb nd_M_cut_33 (by decide) (fun hc => ?_) (fun hc => absurd rfl hc)
          refine lv_iconst (v := 0) hx hb nd_M_cut_66 (by decide) ?_
          exact g_iret hx hb hr hlocks hw hS (by rw [sp_cut_1 (Or.inr (Or.inr (Or.inr (Int32.not_le.mpr hp1))))]; exact ⟨⟨_, hJ, hv⟩, rfl, hF0⟩) (by exact Nat.le_of_ble_eq_true rfl) (by exact Nat.le_of_ble_eq_true rfl) nd_M_cut_67
        · obtain ⟨x, hx1, rfl⟩ := nI_of hp0
          obtain ⟨y0, hy1, rfl⟩ := nI_of hp1
          refine lv_iconst (v := 1) hx hb nd_M_cut_24 (by decide) ?_
          refine lv_goto (tgt := 29) hx hb nd_M_cut_25 (by decide) ?_
          refine lv_iconst (v := 1) hx hb nd_M_cut_29 (by decide) ?_
          refine g_calli (va_runV (As := [.int 1, .int 1]) (rest := []) ⟨hx, hb, hml, hown, hts⟩ (c_M_good1 l G w mo ra sa (mo_b op) cd 1 hm) (cwV (C := nR_M) 2 hts (nw_of (nw_4 nh_ml_M_26 nh_im_M_good nh_se_M_good nh_in_M nh_co_M_good)) rfl rfl rfl (by decide +kernel) ⟨Nat.le_of_ble_eq_true rfl, Nat.le_of_ble_eq_true rfl⟩) (g_preV (ci := 5) (q := (nR_M, nT_M, 4)) hK hw hS rfl hm _) rfl rfl hl.1 rfl (lv_room (Nat.le_of_ble_eq_true rfl)) nd_M_cut_30 ⟨by exact Nat.le_of_ble_eq_true rfl, by exact Nat.le_of_ble_eq_true rfl⟩) hS (fun v9 w3 H locs hp hw hS => ?_)
          obtain ⟨rfl, e9⟩ := hp
          obtain ⟨hJ, hF9⟩ := mo_cod hJ e9
          have hF0 := hF0.tr hF9
          obtain ⟨hm, ⟨g, hra, hg⟩, ⟨fs, hsa, hfs⟩, hrow, hinj⟩ := id hJ
          refine lv_if_eq (tgt := 66) hx hb nd_M_cut_33 (by decide) (fun hc => absurd hc (by decide)) (fun hc => ?_)
          have hj3 : sz j ≤ 3000 := (hrow j (by omega)).1
          refine lv_aload_n hx hb nd_M_cut_36 rfl (lv_at hl 0 rfl) ?_
          refine lv_iload_n hx hb nd_M_cut_37 rfl (lv_at hl 3 rfl) ?_
          refine lv_i2l hx hb nd_M_cut_38 rfl ?_
          refine lv_iload hx hb nd_M_cut_39 (lv_at hl 4 rfl) ?_
          refine lv_i2l hx hb nd_M_cut_41 rfl ?_
          refine lv_ladd hx hb nd_M_cut_42 ?_
          refine lv_topl (fun y4 ey5 => ?_)
          obtain rfl : y4 = lN (x + y0) := ey5.trans (by rw [nI_l hx1, nI_l hy1, lN_add])
          refine lv_aload_n hx hb nd_M_cut_43 rfl (lv_at hl 0 rfl) ?_
          refine xw_get (T := nT_M) (N := 4) (ci := 5) hx hb hT nu_M hown hK.1 hw hm rfl 1 (by decide) (hT _ nh_fl_M_14) (fun _ h9 => h9) rfl nd_M_cut_44 ?_
          refine lv_iload_n hx hb nd_M_cut_47 rfl (lv_at hl 2 rfl) ?_
          refine xw_iald hx hb hK.1 hw 4 hsa rfl (vp_in_nI (by omega) (by decide)) nd_M_cut_48 ?_
          refine lv_topi (fun y6 ey7 => ?_)
          obtain rfl : y6 = nI (sz j) := ey7.trans (by rw [nI_clamp (by omega)]; exact hfs _ (by omega))
          refine lv_i2l hx hb nd_M_cut_49 rfl ?_
          refine lv_topl (fun y8 ey9 => ?_)
          obtain rfl : y8 = lN (sz j) := ey9.trans (nI_l (by omega))
          refine W.lcmp hx hb nd_M_cut_50 ?_
          refine lv_if_gt (tgt := 58) hx hb nd_M_cut_51 (by decide) (fun hc => ?_) (fun hc => ?_)
          · have hs : ¬ x + y0 ≤ sz j := fun z => absurd ((sp_cmp (by omega) (by omega)).mpr z) (Int32.not_le.mpr hc)
            refine lv_iconst (v := 0) hx hb nd_M_cut_58 (by decide) ?_
            refine lv_iconst (v := 2) hx hb nd_M_cut_59 (by decide) ?_
            refine g_calli (va_runV (As := [.int 0, .int 2]) (rest := []) ⟨hx, hb, hml, hown, hts⟩ (c_M_good0 l G w3 mo ra sa (mo_b op) 0 2 hm) (cwV (C := nR_M) 2 hts (nw_of (nw_4 nh_ml_M_26 nh_im_M_good nh_se_M_good nh_in_M nh_co_M_good)) rfl rfl rfl (by decide +kernel) ⟨Nat.le_of_ble_eq_true rfl, Nat.le_of_ble_eq_true rfl⟩) (g_preV (ci := 5) (q := (nR_M, nT_M, 4)) hK hw hS rfl hm _) rfl rfl hl.1 rfl (lv_room (Nat.le_of_ble_eq_true rfl)) nd_M_cut_60 ⟨by exact Nat.le_of_ble_eq_true rfl, by exact Nat.le_of_ble_eq_true rfl⟩) hS (fun v9 w10 H locs hp hw hS => ?_)
            obtain ⟨rfl, e9⟩ := hp
            obtain ⟨hJ, hF9⟩ := mo_cod hJ e9
            have hF0 := hF0.tr hF9
            obtain ⟨hm, ⟨g, hra, hg⟩, ⟨fs, hsa, hfs⟩, hrow, hinj⟩ := id hJ
            refine lv_if_ne (tgt := 68) hx hb nd_M_cut_63 (by decide) (fun hc => absurd rfl hc) (fun hc => ?_)
            refine lv_iconst (v := 0) hx hb nd_M_cut_66 (by decide) ?_
            exact g_iret hx hb hr hlocks hw hS (by rw [sp_cut_2 hi hj hx1 hy1 hs]; exact ⟨⟨_, hJ, hv⟩, rfl, hF0⟩) (by exact Nat.le_of_ble_eq_true rfl) (by exact Nat.le_of_ble_eq_true rfl) nd_M_cut_67
          · have hs : x + y0 ≤ sz j := (sp_cmp (by omega) (by omega)).mp (Int32.not_lt.mp hc)
            refine lv_iconst (v := 1) hx hb nd_M_cut_54 (by decide) ?_
            refine lv_goto (tgt := 59) hx hb nd_M_cut_55 (by decide) ?_
            refine lv_iconst (v := 2) hx hb nd_M_cut_59 (by decide) ?_
            refine g_calli (va_runV (As := [.int 1, .int 2]) (rest := []) ⟨hx, hb, hml, hown, hts⟩ (c_M_good1 l G w3 mo ra sa (mo_b op) 0 2 hm) (cwV (C := nR_M) 2 hts (nw_of (nw_4 nh_ml_M_26 nh_im_M_good nh_se_M_good nh_in_M nh_co_M_good)) rfl rfl rfl (by decide +kernel) ⟨Nat.le_of_ble_eq_true rfl, Nat.le_of_ble_eq_true rfl⟩) (g_preV (ci := 5) (q := (nR_M, nT_M, 4)) hK hw hS rfl hm _) rfl rfl hl.1 rfl (lv_room (Nat.le_of_ble_eq_true rfl)) nd_M_cut_60 ⟨by exact Nat.le_of_ble_eq_true rfl, by exact Nat.le_of_ble_eq_true rfl⟩) hS (fun v9 w10 H locs hp hw hS => ?_)
            obtain ⟨rfl, e9⟩ := hp
            obtain ⟨hJ, hF9⟩ := mo_cod hJ e9
            have hF0 := hF0.tr hF9
            obtain ⟨hm, ⟨g, hra, hg⟩, ⟨fs, hsa, hfs⟩, hrow, hinj⟩ := id hJ
            refine lv_if_ne (tgt := 68) hx hb nd_M_cut_63 (by decide) (fun hc => ?_) (fun hc => absurd hc (by decide))
            refine lv_aload_n hx hb nd_M_cut_68 rfl (lv_at hl 0 rfl) ?_
            refine xw_get (T := nT_M) (N := 4) (ci := 5) hx hb hT nu_M hown hK.1 hw hm rfl 1 (by decide) (hT _ nh_fl_M_14) (fun _ h9 => h9) rfl nd_M_cut_69 ?_
            refine lv_iload_n hx hb nd_M_cut_72 rfl (lv_at hl 2 rfl) ?_
            refine xw_iald hx hb hK.1 hw 4 hsa rfl (vp_in_nI (by omega) (by decide)) nd_M_cut_73 ?_
            refine lv_topi (fun y11 ey12 => ?_)
            obtain rfl : y11 = nI (sz j) := ey12.trans (by rw [nI_clamp (by omega)]; exact hfs _ (by omega))
            refine lv_iload_n hx hb nd_M_cut_74 rfl (lv_at hl 3 rfl) ?_
            refine lv_isub hx hb nd_M_cut_75 ?_
            refine lv_topi (fun y13 ey14 => ?_)
            obtain rfl : y13 = nI (sz j - x) := ey14.trans (pk_sub (by omega))
            refine lv_iload hx hb nd_M_cut_76 (lv_at hl 4 rfl) ?_
            refine lv_isub hx hb nd_M_cut_78 ?_
            refine lv_topi (fun y15 ey16 => ?_)
            obtain rfl : y15 = nI (sz j - (x + y0)) := ey16.trans ((pk_sub (by omega)).trans (congrArg nI (by omega)))
            refine lv_istore hx hb nd_M_cut_79 hl (by decide) (lv' := [(5, .int (nI (sz j - (x + y0)))), (0, .ref mo), (1, .int (nI i)), (2, .int (nI j)), (3, .int (nI x)), (4, .int (nI y0))]) rfl (fun ls hl => ?_)
            refine lv_iconst (v := 0) hx hb nd_M_cut_81 (by decide) ?_
            refine lv_istore hx hb nd_M_cut_82 hl (by decide) (lv' := [(6, .int 0), (5, .int (nI (sz j - (x + y0)))), (0, .ref mo), (1, .int (nI i)), (2, .int (nI j)), (3, .int (nI x)), (4, .int (nI y0))]) rfl (fun ls hl => ?_)
            have loop : ∀ (m9 y : Nat) (c1 : Nat → Int64) (wl : xw_W) (ls : Array Slot) (H : Heap) (locs : List Loc), m9 + y = sz j - (x + y0) → mo_J G wl mo ra sa rr op sz (va_up f i c1) 0 → mo_F mo sa rr w wl → (∀ z, z < y → c1 z = f j (x + z)) → (i = j → ∀ z, y ≤ z → c1 z = f j z) → lv_has ls 7 [(6, .int (nI y)), (5, .int (nI (sz j - (x + y0)))), (0, .ref mo), (1, .int (nI i)), (2, .int (nI j)), (3, .int (nI x)), (4, .int (nI y0))] → g_P G wl H → g_S G s.heap H locs → W p l e ({ frames := 1, cells := 0, slots := 0, locals := 30 }) s m [.ref mo, .int (nI i), .int (nI j), .int (nI x), .int (nI y0)].toArray below meth c H locs (0) (0) (MQ below (g_Qi G (fun v9 w' => mo_Post G w mo ra sa rr (sp_cut (op, sz, vs) (nI i) (nI j) (nI x) (nI y0)) v9.toInt64 w')) [.ref mo, .int (nI i), .int (nI j), .int (nI x), .int (nI y0)].toArray s 0 0 (xw_A (g_b G))) (F0 m 84 ls []) := by
              intro m9
              induction m9 with
              | zero =>
                intro y c1 wl ls H locs hmi hJ hF0 hc1 hc2 hl hw hS
                obtain ⟨hm, ⟨g, hra, hg⟩, ⟨fs, hsa, hfs⟩, hrow, hinj⟩ := id hJ
                refine lv_iload hx hb nd_M_cut_84 (lv_at hl 0 rfl) ?_
                refine lv_iload hx hb nd_M_cut_86 (lv_at hl 1 rfl) ?_
                have hyy : y = sz j - (x + y0) := by omega
                refine lv_icmp_ge (tgt := 117) hx hb nd_M_cut_88 (by decide) (fun hc => ?_) (fun hc => absurd (nI_le (by omega) (by omega)) hc)
                refine lv_aload_n hx hb nd_M_cut_117 rfl (lv_at hl 2 rfl) ?_
                refine xw_get (T := nT_M) (N := 4) (ci := 5) hx hb hT nu_M hown hK.1 hw hm rfl 1 (by decide) (hT _ nh_fl_M_14) (fun _ h9 => h9) rfl nd_M_cut_118 ?_
                refine lv_iload_n hx hb nd_M_cut_121 rfl (lv_at hl 3 rfl) ?_
                refine lv_iload hx hb nd_M_cut_122 (lv_at hl 1 rfl) ?_
                have hsa0 := hsa
                refine xw_iast hx hb hK.1 hB hw hS 4 hsa rfl (vp_in_nI (by omega) (by decide)) nd_M_cut_124 (fun H locs hw hS => ?_)
                rw [nI_clamp (by omega)] at hw
                obtain ⟨w17, ew18⟩ : ∃ z, z = va_up wl sa (some (.inl (G.2.1 4, 17, .inl (upd fs i (nI (sz j - (x + y0))))))) := ⟨_, rfl⟩
                have hw : g_P G w17 H := by rw [ew18]; exact hw
                have hm : w17 mo = some (.inr (5, [.ref ra, .ref sa, .int (mo_b op), .int 0])) := by rw [ew18, va_up_ne _ _ (xw_ne hm hsa (by simp))]; exact hm
                have hsa : w17 sa = some (.inl (G.2.1 4, 17, .inl (upd fs i (nI (sz j - (x + y0)))))) := by rw [ew18]; exact va_up_self _ _ _
                obtain ⟨hJ, hF9⟩ := mo_siz hJ (by omega) (by omega) hsa0 ew18
                have hF0 := hF0.tr hF9
                obtain ⟨hm, ⟨g, hra, hg⟩, ⟨fs, hsa, hfs⟩, hrow, hinj⟩ := id hJ
                refine lv_iload hx hb nd_M_cut_125 (lv_at hl 1 rfl) ?_
                exact g_iret hx hb hr hlocks hw hS (by rw [sp_cut_0 hi hj hx1 hy1 hs]; exact ⟨⟨_, hJ, mo_fin hv (fun z hz => (hc1 z (by omega)).trans (hv j (by omega) (x + z) (by omega)))⟩, rfl, hF0⟩) (by exact Nat.le_of_ble_eq_true rfl) (by exact Nat.le_of_ble_eq_true rfl) nd_M_cut_127
              | succ m9 ih =>
                intro y c1 wl ls H locs hmi hJ hF0 hc1 hc2 hl hw hS
                obtain ⟨hm, ⟨g, hra, hg⟩, ⟨fs, hsa, hfs⟩, hrow, hinj⟩ := id hJ
                refine lv_iload hx hb nd_M_cut_84 (lv_at hl 0 rfl) ?_
                refine lv_iload hx hb nd_M_cut_86 (lv_at hl 1 rfl) ?_
                refine lv_icmp_ge (tgt := 117) hx hb nd_M_cut_88 (by decide) (fun hc => absurd hc (nI_ge (by omega) (by omega))) (fun hc => ?_)
                refine lv_aload_n hx hb nd_M_cut_91 rfl (lv_at hl 2 rfl) ?_
                refine xw_get (T := nT_M) (N := 4) (ci := 5) hx hb hT nu_M hown hK.1 hw hm rfl 0 (by decide) (hT _ nh_fl_M_11) (fun _ h9 => h9) rfl nd_M_cut_92 ?_
                refine lv_iload_n hx hb nd_M_cut_95 rfl (lv_at hl 3 rfl) ?_
                refine xw_aaldA (y := (rr i)) hx hb hK.1 hw 5 hra rfl (vp_in_nI (by omega) (by decide)) (by rw [nI_clamp (by omega)]; exact hg _ (by omega)) nd_M_cut_96 ?_
                have hr_i := (hrow i (by omega)).2
                refine lv_iload hx hb nd_M_cut_97 (lv_at hl 0 rfl) ?_
                refine lv_aload_n hx hb nd_M_cut_99 rfl (lv_at hl 2 rfl) ?_
                refine xw_get (T := nT_M) (N := 4) (ci := 5) hx hb hT nu_M hown hK.1 hw hm rfl 0 (by decide) (hT _ nh_fl_M_11) (fun _ h9 => h9) rfl nd_M_cut_100 ?_
                refine lv_iload_n hx hb nd_M_cut_103 rfl (lv_at hl 4 rfl) ?_
                refine xw_aaldA (y := (rr j)) hx hb hK.1 hw 5 hra rfl (vp_in_nI (by omega) (by decide)) (by rw [nI_clamp (by omega)]; exact hg _ (by omega)) nd_M_cut_104 ?_
                have hr_j := (hrow j (by omega)).2
                have hval : va_up f i c1 j (x + y) = f j (x + y) := by
                  by_cases e9 : i = j
                  · rw [← e9, va_up_self, e9]; exact hc2 e9 _ (by omega)
                  · rw [va_up_ne _ _ (Ne.symm e9)]
                refine lv_iload hx hb nd_M_cut_105 (lv_at hl 0 rfl) ?_
                refine lv_iload_n hx hb nd_M_cut_107 rfl (lv_at hl 5 rfl) ?_
                refine lv_iadd hx hb nd_M_cut_108 ?_
                refine lv_topi (fun y17 ey18 => ?_)
                obtain rfl : y17 = nI (x + y) := ey18.trans ((nI_add y x).trans (congrArg nI (by omega)))
                refine xw_lald hx hb hK.1 hw 0 hr_j rfl (vp_in_nI (by omega) (by decide)) nd_M_cut_109 ?_
                refine lv_topl (fun y19 ey20 => ?_)
                obtain rfl : y19 = f j (x + y) := ey20.trans (by rw [nI_clamp (by omega)]; exact hval)
                refine xw_last hx hb hK.1 hB hw hS 0 hr_i rfl (vp_in_nI (by omega) (by decide)) nd_M_cut_110 (fun H locs hw hS => ?_)
                rw [nI_clamp (by omega)] at hw
                obtain ⟨w21, ew22⟩ : ∃ z, z = va_up wl (rr i) (some (.inl (G.2.1 0, 3000, .inr (.inl (vp_updL (va_up f i c1 i) y (f j (x + y))))))) := ⟨_, rfl⟩
                have hw : g_P G w21 H := by rw [ew22]; exact hw
                have hm : w21 mo = some (.inr (5, [.ref ra, .ref sa, .int (mo_b op), .int 0])) := by rw [ew22, va_up_ne _ _ (xw_ne hm hr_i (by simp))]; exact hm
                have hr_i : w21 (rr i) = some (.inl (G.2.1 0, 3000, .inr (.inl (vp_updL (va_up f i c1 i) y (f j (x + y)))))) := by rw [ew22]; exact va_up_self _ _ _
                obtain ⟨hJ, hF9⟩ := mo_row hJ (by omega) ew22
                have hF0 := hF0.tr hF9
                rw [bx_uu, va_up_self] at hJ
                obtain ⟨hm, ⟨g, hra, hg⟩, ⟨fs, hsa, hfs⟩, hrow, hinj⟩ := id hJ
                refine lv_iinc (k := 0) hx hb nd_M_cut_111 hl rfl rfl (by decide) (lv' := [(6, .int ((nI y) + 1)), (5, .int (nI (sz j - (x + y0)))), (0, .ref mo), (1, .int (nI i)), (2, .int (nI j)), (3, .int (nI x)), (4, .int (nI y0))]) rfl (fun ls hl => ?_)
                rw [nI_1] at hl
                refine lv_goto (tgt := 84) hx hb nd_M_cut_114 (by decide) ?_
                refine ih (y + 1) (vp_updL c1 y (f j (x + y))) w21 ls H locs (by omega) hJ hF0 (fun z hz => ?_) (fun e9 z hz => ?_) hl hw hS
                · by_cases ez : z = y
                  · rw [ez, pk_uLs]
                  · rw [pk_uLn ez]; exact hc1 z (by omega)
                · rw [pk_uLn (by omega)]; exact hc2 e9 z (by omega)
            exact loop (sz j - (x + y0)) 0 (f i) w10 ls H locs (by omega) (by rw [va_up_same]; exact hJ) hF0 (fun z hz => absurd hz (by omega)) (fun e9 z _ => by rw [e9]) hl hw hS
    · refine lv_aload_n hx hb nd_M_cut_0 rfl (lv_at hl 0 rfl) ?_
      refine lv_iload_n hx hb nd_M_cut_1 rfl (lv_at hl 1 rfl) ?_
      refine g_calli (va_runS (As := [.int (nI i)]) (rest := [.ref mo]) ⟨hx, hb, hml, hown, hts⟩ (c_M_isSlot1 l G w (nI i) (sp_slh hi)) (cwS 1 hts (nw_of (nw_3 nh_ml_M_22 nh_st_M_isSlot nh_in_M nh_co_M_isSlot)) rfl rfl rfl (by decide +kernel) ⟨Nat.le_of_ble_eq_true rfl, Nat.le_of_ble_eq_true rfl⟩) (g_preS hK hw hS _) rfl rfl hl.1 rfl (lv_room (Nat.le_of_ble_eq_true rfl)) nd_M_cut_2 ⟨by exact Nat.le_of_ble_eq_true rfl, by exact Nat.le_of_ble_eq_true rfl⟩) hS (fun v9 w1 H locs hp hw hS => ?_)
      obtain ⟨rfl, hw9⟩ := hp
      rw [hw9] at hw
      refine lv_if_eq (tgt := 28) hx hb nd_M_cut_5 (by decide) (fun hc => absurd hc (by decide)) (fun hc => ?_)
      refine lv_iload_n hx hb nd_M_cut_8 rfl (lv_at hl 2 rfl) ?_
      refine g_calli (va_runS (As := [.int b]) (rest := [.ref mo]) ⟨hx, hb, hml, hown, hts⟩ (c_M_isSlot0 l G w b hb9) (cwS 1 hts (nw_of (nw_3 nh_ml_M_22 nh_st_M_isSlot nh_in_M nh_co_M_isSlot)) rfl rfl rfl (by decide +kernel) ⟨Nat.le_of_ble_eq_true rfl, Nat.le_of_ble_eq_true rfl⟩) (g_preS hK hw hS _) rfl rfl hl.1 rfl (lv_room (Nat.le_of_ble_eq_true rfl)) nd_M_cut_9 ⟨by exact Nat.le_of_ble_eq_true rfl, by exact Nat.le_of_ble_eq_true rfl⟩) hS (fun v9 w2 H locs hp hw hS => ?_)
      obtain ⟨rfl, hw9⟩ := hp
      rw [hw9] at hw
      refine lv_if_eq (tgt := 28) hx hb nd_M_cut_12 (by decide) (fun hc => ?_) (fun hc => absurd rfl hc)
      refine lv_iconst (v := 0) hx hb nd_M_cut_28 (by decide) ?_
      refine lv_iconst (v := 1) hx hb nd_M_cut_29 (by decide) ?_
      refine g_calli (va_runV (As := [.int 0, .int 1]) (rest := []) ⟨hx, hb, hml, hown, hts⟩ (c_M_good0 l G w mo ra sa (mo_b op) cd 1 hm) (cwV (C := nR_M) 2 hts (nw_of (nw_4 nh_ml_M_26 nh_im_M_good nh_se_M_good nh_in_M nh_co_M_good)) rfl rfl rfl (by decide +kernel) ⟨Nat.le_of_ble_eq_true rfl, Nat.le_of_ble_eq_true rfl⟩) (g_preV (ci := 5) (q := (nR_M, nT_M, 4)) hK hw hS rfl hm _) rfl rfl hl.1 rfl (lv_room (Nat.le_of_ble_eq_true rfl)) nd_M_cut_30 ⟨by exact Nat.le_of_ble_eq_true rfl, by exact Nat.le_of_ble_eq_true rfl⟩) hS (fun v9 w3 H locs hp hw hS => ?_)
      obtain ⟨rfl, e9⟩ := hp
      obtain ⟨hJ, hF9⟩ := mo_cod hJ e9
      have hF0 := hF0.tr hF9
      obtain ⟨hm, ⟨g, hra, hg⟩, ⟨fs, hsa, hfs⟩, hrow, hinj⟩ := id hJ
      refine lv_if_eq (tgt := 66) hx hb nd_M_cut_33 (by decide) (fun hc => ?_) (fun hc => absurd rfl hc)
      refine lv_iconst (v := 0) hx hb nd_M_cut_66 (by decide) ?_
      exact g_iret hx hb hr hlocks hw hS (by rw [sp_cut_1 (Or.inr (Or.inl hb9))]; exact ⟨⟨_, hJ, hv⟩, rfl, hF0⟩) (by exact Nat.le_of_ble_eq_true rfl) (by exact Nat.le_of_ble_eq_true rfl) nd_M_cut_67
  · refine lv_aload_n hx hb nd_M_cut_0 rfl (lv_at hl 0 rfl) ?_
    refine lv_iload_n hx hb nd_M_cut_1 rfl (lv_at hl 1 rfl) ?_
    refine g_calli (va_runS (As := [.int a]) (rest := [.ref mo]) ⟨hx, hb, hml, hown, hts⟩ (c_M_isSlot0 l G w a ha) (cwS 1 hts (nw_of (nw_3 nh_ml_M_22 nh_st_M_isSlot nh_in_M nh_co_M_isSlot)) rfl rfl rfl (by decide +kernel) ⟨Nat.le_of_ble_eq_true rfl, Nat.le_of_ble_eq_true rfl⟩) (g_preS hK hw hS _) rfl rfl hl.1 rfl (lv_room (Nat.le_of_ble_eq_true rfl)) nd_M_cut_2 ⟨by exact Nat.le_of_ble_eq_true rfl, by exact Nat.le_of_ble_eq_true rfl⟩) hS (fun v9 w1 H locs hp hw hS => ?_)
    obtain ⟨rfl, hw9⟩ := hp
    rw [hw9] at hw
    refine lv_if_eq (tgt := 28) hx hb nd_M_cut_5 (by decide) (fun hc => ?_) (fun hc => absurd rfl hc)
    refine lv_iconst (v := 0) hx hb nd_M_cut_28 (by decide) ?_
    refine lv_iconst (v := 1) hx hb nd_M_cut_29 (by decide) ?_
    refine g_calli (va_runV (As := [.int 0, .int 1]) (rest := []) ⟨hx, hb, hml, hown, hts⟩ (c_M_good0 l G w mo ra sa (mo_b op) cd 1 hm) (cwV (C := nR_M) 2 hts (nw_of (nw_4 nh_ml_M_26 nh_im_M_good nh_se_M_good nh_in_M nh_co_M_good)) rfl rfl rfl (by decide +kernel) ⟨Nat.le_of_ble_eq_true rfl, Nat.le_of_ble_eq_true rfl⟩) (g_preV (ci := 5) (q := (nR_M, nT_M, 4)) hK hw hS rfl hm _) rfl rfl hl.1 rfl (lv_room (Nat.le_of_ble_eq_true rfl)) nd_M_cut_30 ⟨by exact Nat.le_of_ble_eq_true rfl, by exact Nat.le_of_ble_eq_true rfl⟩) hS (fun v9 w2 H locs hp hw hS => ?_)
    obtain ⟨rfl, e9⟩ := hp
    obtain ⟨hJ, hF9⟩ := mo_cod hJ e9
    have hF0 := hF0.tr hF9
    obtain ⟨hm, ⟨g, hra, hg⟩, ⟨fs, hsa, hfs⟩, hrow, hinj⟩ := id hJ
    refine lv_if_eq (tgt := 66) hx hb nd_M_cut_33 (by decide) (fun hc => ?_) (fun hc => absurd rfl hc)
    refine lv_iconst (v := 0) hx hb nd_M_cut_66 (by decide) ?_
    exact g_iret hx hb hr hlocks hw hS (by rw [sp_cut_1 (Or.inl ha)]; exact ⟨⟨_, hJ, hv⟩, rfl, hF0⟩) (by exact Nat.le_of_ble_eq_true rfl) (by exact Nat.le_of_ble_eq_true rfl) nd_M_cut_67

set_option maxHeartbeats 4000000 in
set_option maxRecDepth 100000 in
theorem c_M_fill (l : Launch) (G : g_G) (w : xw_W) (mo ra sa : Nat) (rr : Nat → Nat) (S : sp_S) (cd : Int32) (hI : mo_I G w mo ra sa rr S cd) (a : Int32) (x0 st : Int64) (n : Int32) : Met l ny_M_fill nw_M_fill ({ frames := 1, cells := 0, slots := 0, locals := 30 }) (g_Pc G w [.ref mo, .int a, .long x0, .long st, .int n]) (g_Qi G (fun v9 w' => mo_Post G w mo ra sa rr (sp_fill S a x0 st n) v9.toInt64 w')) 0 0 (xw_A (g_b G)) := by
  refine g_met (by decide) (Nat.le_of_ble_eq_true rfl) rfl ?_
  intro p e s m below meth c ls hx hb hr hts hown hlocks hin hml hl hK hB hw hS
  have hT : ∀ w ∈ nw_T, w.before _ s = true := fun w h => hts w (List.mem_cons_of_mem _ h)
  have hown : s.vm.findClass "RadixShelfModel" = some m.cls := hown
  have hl : lv_has ls 8 [(0, .ref mo), (1, .int a), (2, .long x0), (4, .long st), (6, .int n)] := hl
  obtain ⟨op, sz, vs⟩ := S
  obtain ⟨f, hJ9, hv9⟩ := hI
  have hJ : mo_J G w mo ra sa rr op sz f cd := hJ9
  have hv : ∀ k, k < 17 → ∀ z, z < sz k → f k z = vs k z := hv9
  clear hJ9 hv9
  have hF0 : mo_F mo sa rr w w := mo_F.rf
  obtain ⟨hm, ⟨g, hra, hg⟩, ⟨fs, hsa, hfs⟩, hrow, hinj⟩ := id hJ
  by_cases ha : 0 ≤ a ∧ a ≤ 15
  · obtain ⟨i, hi, rfl⟩ := sp_sl_of ha
    refine lv_aload_n hx hb nd_M_fill_0 rfl (lv_at hl 0 rfl) ?_
    refine lv_iload_n hx hb nd_M_fill_1 rfl (lv_at hl 1 rfl) ?_
    refine g_calli (va_runS (As := [.int (nI i)]) (rest := [.ref mo]) ⟨hx, hb, hml, hown, hts⟩ (c_M_isSlot1 l G w (nI i) (sp_slh hi)) (cwS 1 hts (nw_of (nw_3 nh_ml_M_22 nh_st_M_isSlot nh_in_M nh_co_M_isSlot)) rfl rfl rfl (by decide +kernel) ⟨Nat.le_of_ble_eq_true rfl, Nat.le_of_ble_eq_true rfl⟩) (g_preS hK hw hS _) rfl rfl hl.1 rfl (lv_room (Nat.le_of_ble_eq_true rfl)) nd_M_fill_2 ⟨by exact Nat.le_of_ble_eq_true rfl, by exact Nat.le_of_ble_eq_true rfl⟩) hS (fun v9 w1 H locs hp hw hS => ?_)
    obtain ⟨rfl, hw9⟩ := hp
    rw [hw9] at hw
    refine lv_if_eq (tgt := 25) hx hb nd_M_fill_5 (by decide) (fun hc => absurd hc (by decide)) (fun hc => ?_)
    refine lv_iload hx hb nd_M_fill_8 (lv_at hl 4 rfl) ?_
    refine lv_if_lt (tgt := 25) hx hb nd_M_fill_10 (by decide) (fun hp0 => ?_) (fun hp0 => ?_)
    · refine lv_iconst (v := 0) hx hb nd_M_fill_25 (by decide) ?_
      refine lv_iconst (v := 1) hx hb nd_M_fill_26 (by decide) ?_
      refine g_calli (va_runV (As := [.int 0, .int 1]) (rest := []) ⟨hx, hb, hml, hown, hts⟩ (c_M_good0 l G w mo ra sa (mo_b op) cd 1 hm) (cwV (C := nR_M) 2 hts (nw_of (nw_4 nh_ml_M_26 nh_im_M_good nh_se_M_good nh_in_M nh_co_M_good)) rfl rfl rfl (by decide +kernel) ⟨Nat.le_of_ble_eq_true rfl, Nat.le_of_ble_eq_true rfl⟩) (g_preV (ci := 5) (q := (nR_M, nT_M, 4)) hK hw hS rfl hm _) rfl rfl hl.1 rfl (lv_room (Nat.le_of_ble_eq_true rfl)) nd_M_fill_27 ⟨by exact Nat.le_of_ble_eq_true rfl, by exact Nat.le_of_ble_eq_true rfl⟩) hS (fun v9 w2 H locs hp hw hS => ?_)
      obtain ⟨rfl, e9⟩ := hp
      obtain ⟨hJ, hF9⟩ := mo_cod hJ e9
      have hF0 := hF0.tr hF9
      obtain ⟨hm, ⟨g, hra, hg⟩, ⟨fs, hsa, hfs⟩, hrow, hinj⟩ := id hJ
      refine lv_if_ne (tgt := 35) hx hb nd_M_fill_30 (by decide) (fun hc => absurd rfl hc) (fun hc => ?_)
      refine lv_iconst (v := 0) hx hb nd_M_fill_33 (by decide) ?_
      exact g_iret hx hb hr hlocks hw hS (by rw [sp_fill_1 (Or.inr (fun z => absurd z.1 (Int32.not_le.mpr hp0)))]; exact ⟨⟨_, hJ, hv⟩, rfl, hF0⟩) (by exact Nat.le_of_ble_eq_true rfl) (by exact Nat.le_of_ble_eq_true rfl) nd_M_fill_34
    · refine lv_iload hx hb nd_M_fill_13 (lv_at hl 4 rfl) ?_
      refine lv_sipush (v := 2000) hx hb nd_M_fill_15 (by decide) ?_
      refine lv_icmp_gt (tgt := 25) hx hb nd_M_fill_18 (by decide) (fun hp1 => ?_) (fun hp1 => ?_)
      · refine lv_iconst (v := 0) hx hb nd_M_fill_25 (by decide) ?_
        refine lv_iconst (v := 1) hx hb nd_M_fill_26 (by decide) ?_
        refine g_calli (va_runV (As := [.int 0, .int 1]) (rest := []) ⟨hx, hb, hml, hown, hts⟩ (c_M_good0 l G w mo ra sa (mo_b op) cd 1 hm) (cwV (C := nR_M) 2 hts (nw_of (nw_4 nh_ml_M_26 nh_im_M_good nh_se_M_good nh_in_M nh_co_M_good)) rfl rfl rfl (by decide +kernel) ⟨Nat.le_of_ble_eq_true rfl, Nat.le_of_ble_eq_true rfl⟩) (g_preV (ci := 5) (q := (nR_M, nT_M, 4)) hK hw hS rfl hm _) rfl rfl hl.1 rfl (lv_room (Nat.le_of_ble_eq_true rfl)) nd_M_fill_27 ⟨by exact Nat.le_of_ble_eq_true rfl, by exact Nat.le_of_ble_eq_true rfl⟩) hS (fun v9 w2 H locs hp hw hS => ?_)
        obtain ⟨rfl, e9⟩ := hp
        obtain ⟨hJ, hF9⟩ := mo_cod hJ e9
        have hF0 := hF0.tr hF9
        obtain ⟨hm, ⟨g, hra, hg⟩, ⟨fs, hsa, hfs⟩, hrow, hinj⟩ := id hJ
        refine lv_if_ne (tgt := 35) hx hb nd_M_fill_30 (by decide) (fun hc => absurd rfl hc) (fun hc => ?_)
        refine lv_iconst (v := 0) hx hb nd_M_fill_33 (by decide) ?_
        exact g_iret hx hb hr hlocks hw hS (by rw [sp_fill_1 (Or.inr (fun z => absurd z.2 (Int32.not_le.mpr hp1)))]; exact ⟨⟨_, hJ, hv⟩, rfl, hF0⟩) (by exact Nat.le_of_ble_eq_true rfl) (by exact Nat.le_of_ble_eq_true rfl) nd_M_fill_34
      · obtain ⟨x, hx1, rfl⟩ := nI_of2 (n := 2000) (by decide) hp0 (Int32.not_lt.mp hp1)
        refine lv_iconst (v := 1) hx hb nd_M_fill_21 (by decide) ?_
        refine lv_goto (tgt := 26) hx hb nd_M_fill_22 (by decide) ?_
        refine lv_iconst (v := 1) hx hb nd_M_fill_26 (by decide) ?_
        refine g_calli (va_runV (As := [.int 1, .int 1]) (rest := []) ⟨hx, hb, hml, hown, hts⟩ (c_M_good1 l G w mo ra sa (mo_b op) cd 1 hm) (cwV (C := nR_M) 2 hts (nw_of (nw_4 nh_ml_M_26 nh_im_M_good nh_se_M_good nh_in_M nh_co_M_good)) rfl rfl rfl (by decide +kernel) ⟨Nat.le_of_ble_eq_true rfl, Nat.le_of_ble_eq_true rfl⟩) (g_preV (ci := 5) (q := (nR_M, nT_M, 4)) hK hw hS rfl hm _) rfl rfl hl.1 rfl (lv_room (Nat.le_of_ble_eq_true rfl)) nd_M_fill_27 ⟨by exact Nat.le_of_ble_eq_true rfl, by exact Nat.le_of_ble_eq_true rfl⟩) hS (fun v9 w2 H locs hp hw hS => ?_)
        obtain ⟨rfl, e9⟩ := hp
        obtain ⟨hJ, hF9⟩ := mo_cod hJ e9
        have hF0 := hF0.tr hF9
        obtain ⟨hm, ⟨g, hra, hg⟩, ⟨fs, hsa, hfs⟩, hrow, hinj⟩ := id hJ
        refine lv_if_ne (tgt := 35) hx hb nd_M_fill_30 (by decide) (fun hc => ?_) (fun hc => absurd hc (by decide))
        refine lv_iconst (v := 0) hx hb nd_M_fill_35 (by decide) ?_
        refine lv_istore hx hb nd_M_fill_36 hl (by decide) (lv' := [(7, .int 0), (0, .ref mo), (1, .int (nI i)), (2, .long x0), (4, .long st), (6, .int (nI x))]) rfl (fun ls hl => ?_)
        have loop : ∀ (m9 y : Nat) (c1 : Nat → Int64) (wl : xw_W) (ls : Array Slot) (H : Heap) (locs : List Loc), m9 + y = x → mo_J G wl mo ra sa rr op sz (va_up f i c1) 0 → mo_F mo sa rr w wl → (∀ z, z < y → c1 z = x0 + lN z * st) → lv_has ls 8 [(7, .int (nI y)), (0, .ref mo), (1, .int (nI i)), (2, .long x0), (4, .long st), (6, .int (nI x))] → g_P G wl H → g_S G s.heap H locs → W p l e ({ frames := 1, cells := 0, slots := 0, locals := 30 }) s m [.ref mo, .int (nI i), .long x0, .long st, .int (nI x)].toArray below meth c H locs (0) (0) (MQ below (g_Qi G (fun v9 w' => mo_Post G w mo ra sa rr (sp_fill (op, sz, vs) (nI i) x0 st (nI x)) v9.toInt64 w')) [.ref mo, .int (nI i), .long x0, .long st, .int (nI x)].toArray s 0 0 (xw_A (g_b G))) (F0 m 38 ls []) := by
          intro m9
          induction m9 with
          | zero =>
            intro y c1 wl ls H locs hmi hJ hF0 hc1 hl hw hS
            obtain ⟨hm, ⟨g, hra, hg⟩, ⟨fs, hsa, hfs⟩, hrow, hinj⟩ := id hJ
            refine lv_iload hx hb nd_M_fill_38 (lv_at hl 0 rfl) ?_
            refine lv_iload hx hb nd_M_fill_40 (lv_at hl 5 rfl) ?_
            have hyy : y = x := by omega
            refine lv_icmp_ge (tgt := 68) hx hb nd_M_fill_42 (by decide) (fun hc => ?_) (fun hc => absurd (nI_le (by omega) (by omega)) hc)
            refine lv_aload_n hx hb nd_M_fill_68 rfl (lv_at hl 1 rfl) ?_
            refine xw_get (T := nT_M) (N := 4) (ci := 5) hx hb hT nu_M hown hK.1 hw hm rfl 1 (by decide) (hT _ nh_fl_M_14) (fun _ h9 => h9) rfl nd_M_fill_69 ?_
            refine lv_iload_n hx hb nd_M_fill_72 rfl (lv_at hl 2 rfl) ?_
            refine lv_iload hx hb nd_M_fill_73 (lv_at hl 5 rfl) ?_
            have hsa0 := hsa
            refine xw_iast hx hb hK.1 hB hw hS 4 hsa rfl (vp_in_nI (by omega) (by decide)) nd_M_fill_75 (fun H locs hw hS => ?_)
            rw [nI_clamp (by omega)] at hw
            obtain ⟨w3, ew4⟩ : ∃ z, z = va_up wl sa (some (.inl (G.2.1 4, 17, .inl (upd fs i (nI x))))) := ⟨_, rfl⟩
            have hw : g_P G w3 H := by rw [ew4]; exact hw
            have hm : w3 mo = some (.inr (5, [.ref ra, .ref sa, .int (mo_b op), .int 0])) := by rw [ew4, va_up_ne _ _ (xw_ne hm hsa (by simp))]; exact hm
            have hsa : w3 sa = some (.inl (G.2.1 4, 17, .inl (upd fs i (nI x)))) := by rw [ew4]; exact va_up_self _ _ _
            obtain ⟨hJ, hF9⟩ := mo_siz hJ (by omega) (by omega) hsa0 ew4
            have hF0 := hF0.tr hF9
            obtain ⟨hm, ⟨g, hra, hg⟩, ⟨fs, hsa, hfs⟩, hrow, hinj⟩ := id hJ
            refine lv_iload hx hb nd_M_fill_76 (lv_at hl 5 rfl) ?_
            exact g_iret hx hb hr hlocks hw hS (by rw [sp_fill_0 hi hx1]; exact ⟨⟨_, hJ, mo_fin hv (fun z hz => hc1 z (by omega))⟩, rfl, hF0⟩) (by exact Nat.le_of_ble_eq_true rfl) (by exact Nat.le_of_ble_eq_true rfl) nd_M_fill_78
          | succ m9 ih =>
            intro y c1 wl ls H locs hmi hJ hF0 hc1 hl hw hS
            obtain ⟨hm, ⟨g, hra, hg⟩, ⟨fs, hsa, hfs⟩, hrow, hinj⟩ := id hJ
            refine lv_iload hx hb nd_M_fill_38 (lv_at hl 0 rfl) ?_
            refine lv_iload hx hb nd_M_fill_40 (lv_at hl 5 rfl) ?_
            refine lv_icmp_ge (tgt := 68) hx hb nd_M_fill_42 (by decide) (fun hc => absurd hc (nI_ge (by omega) (by omega))) (fun hc => ?_)
            refine lv_aload_n hx hb nd_M_fill_45 rfl (lv_at hl 1 rfl) ?_
            refine xw_get (T := nT_M) (N := 4) (ci := 5) hx hb hT nu_M hown hK.1 hw hm rfl 0 (by decide) (hT _ nh_fl_M_11) (fun _ h9 => h9) rfl nd_M_fill_46 ?_
            refine lv_iload_n hx hb nd_M_fill_49 rfl (lv_at hl 2 rfl) ?_
            refine xw_aaldA (y := (rr i)) hx hb hK.1 hw 5 hra rfl (vp_in_nI (by omega) (by decide)) (by rw [nI_clamp (by omega)]; exact hg _ (by omega)) nd_M_fill_50 ?_
            have hr_i := (hrow i (by omega)).2
            refine lv_iload hx hb nd_M_fill_51 (lv_at hl 0 rfl) ?_
            refine lv_lload_n hx hb nd_M_fill_53 rfl (lv_at hl 3 rfl) ?_
            refine lv_iload hx hb nd_M_fill_54 (lv_at hl 0 rfl) ?_
            refine lv_i2l hx hb nd_M_fill_56 rfl ?_
            refine lv_topl (fun y3 ey4 => ?_)
            obtain rfl : y3 = lN y := ey4.trans (nI_l (by omega))
            refine lv_lload hx hb nd_M_fill_57 (lv_at hl 4 rfl) ?_
            refine lv_lmul hx hb nd_M_fill_59 ?_
            refine lv_ladd hx hb nd_M_fill_60 ?_
            refine xw_last hx hb hK.1 hB hw hS 0 hr_i rfl (vp_in_nI (by omega) (by decide)) nd_M_fill_61 (fun H locs hw hS => ?_)
            rw [nI_clamp (by omega)] at hw
            obtain ⟨w5, ew6⟩ : ∃ z, z = va_up wl (rr i) (some (.inl (G.2.1 0, 3000, .inr (.inl (vp_updL (va_up f i c1 i) y (x0 + lN y * st)))))) := ⟨_, rfl⟩
            have hw : g_P G w5 H := by rw [ew6]; exact hw
            have hm : w5 mo = some (.inr (5, [.ref ra, .ref sa, .int (mo_b op), .int 0])) := by rw [ew6, va_up_ne _ _ (xw_ne hm hr_i (by simp))]; exact hm
            have hr_i : w5 (rr i) = some (.inl (G.2.1 0, 3000, .inr (.inl (vp_updL (va_up f i c1 i) y (x0 + lN y * st))))) := by rw [ew6]; exact va_up_self _ _ _
            obtain ⟨hJ, hF9⟩ := mo_row hJ (by omega) ew6
            have hF0 := hF0.tr hF9
            rw [bx_uu, va_up_self] at hJ
            obtain ⟨hm, ⟨g, hra, hg⟩, ⟨fs, hsa, hfs⟩, hrow, hinj⟩ := id hJ
            refine lv_iinc (k := 0) hx hb nd_M_fill_62 hl rfl rfl (by decide) (lv' := [(7, .int ((nI y) + 1)), (0, .ref mo), (1, .int (nI i)), (2, .long x0), (4, .long st), (6, .int (nI x))]) rfl (fun ls hl => ?_)
            rw [nI_1] at hl
            refine lv_goto (tgt := 38) hx hb nd_M_fill_65 (by decide) ?_
            refine ih (y + 1) (vp_updL c1 y (x0 + lN y * st)) w5 ls H locs (by omega) hJ hF0 (fun z hz => ?_) hl hw hS
            by_cases ez : z = y
            · rw [ez, pk_uLs]
            · rw [pk_uLn ez]; exact hc1 z (by omega)
        exact loop x 0 (f i) w2 ls H locs (by omega) (by rw [va_up_same]; exact hJ) hF0 (fun z hz => absurd hz (by omega)) hl hw hS
  · refine lv_aload_n hx hb nd_M_fill_0 rfl (lv_at hl 0 rfl) ?_
    refine lv_iload_n hx hb nd_M_fill_1 rfl (lv_at hl 1 rfl) ?_
    refine g_calli (va_runS (As := [.int a]) (rest := [.ref mo]) ⟨hx, hb, hml, hown, hts⟩ (c_M_isSlot0 l G w a ha) (cwS 1 hts (nw_of (nw_3 nh_ml_M_22 nh_st_M_isSlot nh_in_M nh_co_M_isSlot)) rfl rfl rfl (by decide +kernel) ⟨Nat.le_of_ble_eq_true rfl, Nat.le_of_ble_eq_true rfl⟩) (g_preS hK hw hS _) rfl rfl hl.1 rfl (lv_room (Nat.le_of_ble_eq_true rfl)) nd_M_fill_2 ⟨by exact Nat.le_of_ble_eq_true rfl, by exact Nat.le_of_ble_eq_true rfl⟩) hS (fun v9 w1 H locs hp hw hS => ?_)
    obtain ⟨rfl, hw9⟩ := hp
    rw [hw9] at hw
    refine lv_if_eq (tgt := 25) hx hb nd_M_fill_5 (by decide) (fun hc => ?_) (fun hc => absurd rfl hc)
    refine lv_iconst (v := 0) hx hb nd_M_fill_25 (by decide) ?_
    refine lv_iconst (v := 1) hx hb nd_M_fill_26 (by decide) ?_
    refine g_calli (va_runV (As := [.int 0, .int 1]) (rest := []) ⟨hx, hb, hml, hown, hts⟩ (c_M_good0 l G w mo ra sa (mo_b op) cd 1 hm) (cwV (C := nR_M) 2 hts (nw_of (nw_4 nh_ml_M_26 nh_im_M_good nh_se_M_good nh_in_M nh_co_M_good)) rfl rfl rfl (by decide +kernel) ⟨Nat.le_of_ble_eq_true rfl, Nat.le_of_ble_eq_true rfl⟩) (g_preV (ci := 5) (q := (nR_M, nT_M, 4)) hK hw hS rfl hm _) rfl rfl hl.1 rfl (lv_room (Nat.le_of_ble_eq_true rfl)) nd_M_fill_27 ⟨by exact Nat.le_of_ble_eq_true rfl, by exact Nat.le_of_ble_eq_true rfl⟩) hS (fun v9 w2 H locs hp hw hS => ?_)
    obtain ⟨rfl, e9⟩ := hp
    obtain ⟨hJ, hF9⟩ := mo_cod hJ e9
    have hF0 := hF0.tr hF9
    obtain ⟨hm, ⟨g, hra, hg⟩, ⟨fs, hsa, hfs⟩, hrow, hinj⟩ := id hJ
    refine lv_if_ne (tgt := 35) hx hb nd_M_fill_30 (by decide) (fun hc => absurd rfl hc) (fun hc => ?_)
    refine lv_iconst (v := 0) hx hb nd_M_fill_33 (by decide) ?_
    exact g_iret hx hb hr hlocks hw hS (by rw [sp_fill_1 (Or.inl ha)]; exact ⟨⟨_, hJ, hv⟩, rfl, hF0⟩) (by exact Nat.le_of_ble_eq_true rfl) (by exact Nat.le_of_ble_eq_true rfl) nd_M_fill_34

set_option maxHeartbeats 4000000 in
set_option maxRecDepth 100000 in
theorem c_M_hash (l : Launch) (G : g_G) (w : xw_W) (mo ra sa : Nat) (rr : Nat → Nat) (S : sp_S) (cd : Int32) (hI : mo_I G w mo ra sa rr S cd) (a : Int32) : Met l ny_M_hash nw_M_hash ({ frames := 1, cells := 0, slots := 0, locals := 30 }) (g_Pc G w [.ref mo, .int a]) (g_Ql G (fun v9 w' => mo_Post G w mo ra sa rr (sp_hash S a) v9 w')) 0 0 (xw_A (g_b G)) := by
  refine g_met (by decide) (Nat.le_of_ble_eq_true rfl) rfl ?_
  intro p e s m below meth c ls hx hb hr hts hown hlocks hin hml hl hK hB hw hS
  have hT : ∀ w ∈ nw_T, w.before _ s = true := fun w h => hts w (List.mem_cons_of_mem _ h)
  have hown : s.vm.findClass "RadixShelfModel" = some m.cls := hown
  have hl : lv_has ls 5 [(0, .ref mo), (1, .int a)] := hl
  obtain ⟨op, sz, vs⟩ := S
  obtain ⟨f, hJ9, hv9⟩ := hI
  have hJ : mo_J G w mo ra sa rr op sz f cd := hJ9
  have hv : ∀ k, k < 17 → ∀ z, z < sz k → f k z = vs k z := hv9
  clear hJ9 hv9
  have hF0 : mo_F mo sa rr w w := mo_F.rf
  obtain ⟨hm, ⟨g, hra, hg⟩, ⟨fs, hsa, hfs⟩, hrow, hinj⟩ := id hJ
  by_cases ha : 0 ≤ a ∧ a ≤ 15
  · obtain ⟨j, hj, rfl⟩ := sp_sl_of ha
    refine lv_aload_n hx hb nd_M_hash_0 rfl (lv_at hl 0 rfl) ?_
    refine lv_iload_n hx hb nd_M_hash_1 rfl (lv_at hl 1 rfl) ?_
    refine g_calli (va_runS (As := [.int (nI j)]) (rest := [.ref mo]) ⟨hx, hb, hml, hown, hts⟩ (c_M_isSlot1 l G w (nI j) (sp_slh hj)) (cwS 1 hts (nw_of (nw_3 nh_ml_M_22 nh_st_M_isSlot nh_in_M nh_co_M_isSlot)) rfl rfl rfl (by decide +kernel) ⟨Nat.le_of_ble_eq_true rfl, Nat.le_of_ble_eq_true rfl⟩) (g_preS hK hw hS _) rfl rfl hl.1 rfl (lv_room (Nat.le_of_ble_eq_true rfl)) nd_M_hash_2 ⟨by exact Nat.le_of_ble_eq_true rfl, by exact Nat.le_of_ble_eq_true rfl⟩) hS (fun v9 w1 H locs hp hw hS => ?_)
    obtain ⟨rfl, hw9⟩ := hp
    rw [hw9] at hw
    refine lv_iconst (v := 1) hx hb nd_M_hash_5 (by decide) ?_
    refine g_calli (va_runV (As := [.int 1, .int 1]) (rest := []) ⟨hx, hb, hml, hown, hts⟩ (c_M_good1 l G w mo ra sa (mo_b op) cd 1 hm) (cwV (C := nR_M) 2 hts (nw_of (nw_4 nh_ml_M_26 nh_im_M_good nh_se_M_good nh_in_M nh_co_M_good)) rfl rfl rfl (by decide +kernel) ⟨Nat.le_of_ble_eq_true rfl, Nat.le_of_ble_eq_true rfl⟩) (g_preV (ci := 5) (q := (nR_M, nT_M, 4)) hK hw hS rfl hm _) rfl rfl hl.1 rfl (lv_room (Nat.le_of_ble_eq_true rfl)) nd_M_hash_6 ⟨by exact Nat.le_of_ble_eq_true rfl, by exact Nat.le_of_ble_eq_true rfl⟩) hS (fun v9 w2 H locs hp hw hS => ?_)
    obtain ⟨rfl, e9⟩ := hp
    obtain ⟨hJ, hF9⟩ := mo_cod hJ e9
    have hF0 := hF0.tr hF9
    obtain ⟨hm, ⟨g, hra, hg⟩, ⟨fs, hsa, hfs⟩, hrow, hinj⟩ := id hJ
    refine lv_if_ne (tgt := 14) hx hb nd_M_hash_9 (by decide) (fun hc => ?_) (fun hc => absurd hc (by decide))
    refine lv_lconst (v := 1) hx hb nd_M_hash_14 (by decide) ?_
    refine lv_lstore_n hx hb nd_M_hash_15 rfl hl (by decide) (lv' := [(2, .long 1), (0, .ref mo), (1, .int (nI j))]) rfl (fun ls hl => ?_)
    refine lv_iconst (v := 0) hx hb nd_M_hash_16 (by decide) ?_
    refine lv_istore hx hb nd_M_hash_17 hl (by decide) (lv' := [(4, .int 0), (2, .long 1), (0, .ref mo), (1, .int (nI j))]) rfl (fun ls hl => ?_)
    have hj3 : sz j ≤ 3000 := (hrow j (by omega)).1
    have loop : ∀ (m9 y : Nat) (ls : Array Slot) (H : Heap) (locs : List Loc), m9 + y = sz j → lv_has ls 5 [(4, .int (nI y)), (2, .long (sp_hs (vs j) y)), (0, .ref mo), (1, .int (nI j))] → g_P G w2 H → g_S G s.heap H locs → W p l e ({ frames := 1, cells := 0, slots := 0, locals := 30 }) s m [.ref mo, .int (nI j)].toArray below meth c H locs (0) (0) (MQ below (g_Ql G (fun v9 w' => mo_Post G w mo ra sa rr (sp_hash (op, sz, vs) (nI j)) v9 w')) [.ref mo, .int (nI j)].toArray s 0 0 (xw_A (g_b G))) (F0 m 19 ls []) := by
      intro m9
      induction m9 with
      | zero =>
        intro y ls H locs hmi hl hw hS
        refine lv_iload hx hb nd_M_hash_19 (lv_at hl 0 rfl) ?_
        refine lv_aload_n hx hb nd_M_hash_21 rfl (lv_at hl 2 rfl) ?_
        refine xw_get (T := nT_M) (N := 4) (ci := 5) hx hb hT nu_M hown hK.1 hw hm rfl 1 (by decide) (hT _ nh_fl_M_14) (fun _ h9 => h9) rfl nd_M_hash_22 ?_
        refine lv_iload_n hx hb nd_M_hash_25 rfl (lv_at hl 3 rfl) ?_
        refine xw_iald hx hb hK.1 hw 4 hsa rfl (vp_in_nI (by omega) (by decide)) nd_M_hash_26 ?_
        refine lv_topi (fun y3 ey4 => ?_)
        obtain rfl : y3 = nI (sz j) := ey4.trans (by rw [nI_clamp (by omega)]; exact hfs _ (by omega))
        obtain rfl : y = sz j := by omega
        refine lv_icmp_ge (tgt := 52) hx hb nd_M_hash_27 (by decide) (fun hc => ?_) (fun hc => absurd (nI_le (by omega) (by omega)) hc)
        refine lv_lload_n hx hb nd_M_hash_52 rfl (lv_at hl 1 rfl) ?_
        exact g_lret hx hb hr hlocks hw hS (by rw [sp_hash_0 hj]; exact ⟨⟨_, hJ, hv⟩, rfl, hF0⟩) (by exact Nat.le_of_ble_eq_true rfl) (by exact Nat.le_of_ble_eq_true rfl) nd_M_hash_53
      | succ m9 ih =>
        intro y ls H locs hmi hl hw hS
        refine lv_iload hx hb nd_M_hash_19 (lv_at hl 0 rfl) ?_
        refine lv_aload_n hx hb nd_M_hash_21 rfl (lv_at hl 2 rfl) ?_
        refine xw_get (T := nT_M) (N := 4) (ci := 5) hx hb hT nu_M hown hK.1 hw hm rfl 1 (by decide) (hT _ nh_fl_M_14) (fun _ h9 => h9) rfl nd_M_hash_22 ?_
        refine lv_iload_n hx hb nd_M_hash_25 rfl (lv_at hl 3 rfl) ?_
        refine xw_iald hx hb hK.1 hw 4 hsa rfl (vp_in_nI (by omega) (by decide)) nd_M_hash_26 ?_
        refine lv_topi (fun y3 ey4 => ?_)
        obtain rfl : y3 = nI (sz j) := ey4.trans (by rw [nI_clamp (by omega)]; exact hfs _ (by omega))
        refine lv_icmp_ge (tgt := 52) hx hb nd_M_hash_27 (by decide) (fun hc => absurd hc (nI_ge (by omega) (by omega))) (fun hc => ?_)
        refine lv_ldc2 hx hb hown (hT _ nh_kl_M_34) nd_M_hash_30 ?_
        refine lv_lload_n hx hb nd_M_hash_33 rfl (lv_at hl 1 rfl) ?_
        refine lv_lmul hx hb nd_M_hash_34 ?_
        refine lv_aload_n hx hb nd_M_hash_35 rfl (lv_at hl 2 rfl) ?_
        refine xw_get (T := nT_M) (N := 4) (ci := 5) hx hb hT nu_M hown hK.1 hw hm rfl 0 (by decide) (hT _ nh_fl_M_11) (fun _ h9 => h9) rfl nd_M_hash_36 ?_
        refine lv_iload_n hx hb nd_M_hash_39 rfl (lv_at hl 3 rfl) ?_
        refine xw_aaldA (y := (rr j)) hx hb hK.1 hw 5 hra rfl (vp_in_nI (by omega) (by decide)) (by rw [nI_clamp (by omega)]; exact hg _ (by omega)) nd_M_hash_40 ?_
        have hr_j := (hrow j (by omega)).2
        refine lv_iload hx hb nd_M_hash_41 (lv_at hl 0 rfl) ?_
        refine xw_lald hx hb hK.1 hw 0 hr_j rfl (vp_in_nI (by omega) (by decide)) nd_M_hash_43 ?_
        refine lv_topl (fun y5 ey6 => ?_)
        obtain rfl : y5 = vs j y := ey6.trans (by rw [nI_clamp (by omega)]; exact hv j (by omega) y (by omega))
        refine lv_ladd hx hb nd_M_hash_44 ?_
        refine lv_lstore_n hx hb nd_M_hash_45 rfl hl (by decide) (lv' := [(2, .long ((31 * (sp_hs (vs j) y)) + (vs j y))), (4, .int (nI y)), (0, .ref mo), (1, .int (nI j))]) rfl (fun ls hl => ?_)
        refine lv_iinc (k := 1) hx hb nd_M_hash_46 hl rfl rfl (by decide) (lv' := [(4, .int ((nI y) + 1)), (2, .long ((31 * (sp_hs (vs j) y)) + (vs j y))), (0, .ref mo), (1, .int (nI j))]) rfl (fun ls hl => ?_)
        rw [nI_1] at hl
        refine lv_goto (tgt := 19) hx hb nd_M_hash_49 (by decide) ?_
        exact ih (y + 1) ls H locs (by omega) hl hw hS
    exact loop (sz j) 0 ls H locs (by omega) hl hw hS
  · refine lv_aload_n hx hb nd_M_hash_0 rfl (lv_at hl 0 rfl) ?_
    refine lv_iload_n hx hb nd_M_hash_1 rfl (lv_at hl 1 rfl) ?_
    refine g_calli (va_runS (As := [.int a]) (rest := [.ref mo]) ⟨hx, hb, hml, hown, hts⟩ (c_M_isSlot0 l G w a ha) (cwS 1 hts (nw_of (nw_3 nh_ml_M_22 nh_st_M_isSlot nh_in_M nh_co_M_isSlot)) rfl rfl rfl (by decide +kernel) ⟨Nat.le_of_ble_eq_true rfl, Nat.le_of_ble_eq_true rfl⟩) (g_preS hK hw hS _) rfl rfl hl.1 rfl (lv_room (Nat.le_of_ble_eq_true rfl)) nd_M_hash_2 ⟨by exact Nat.le_of_ble_eq_true rfl, by exact Nat.le_of_ble_eq_true rfl⟩) hS (fun v9 w1 H locs hp hw hS => ?_)
    obtain ⟨rfl, hw9⟩ := hp
    rw [hw9] at hw
    refine lv_iconst (v := 1) hx hb nd_M_hash_5 (by decide) ?_
    refine g_calli (va_runV (As := [.int 0, .int 1]) (rest := []) ⟨hx, hb, hml, hown, hts⟩ (c_M_good0 l G w mo ra sa (mo_b op) cd 1 hm) (cwV (C := nR_M) 2 hts (nw_of (nw_4 nh_ml_M_26 nh_im_M_good nh_se_M_good nh_in_M nh_co_M_good)) rfl rfl rfl (by decide +kernel) ⟨Nat.le_of_ble_eq_true rfl, Nat.le_of_ble_eq_true rfl⟩) (g_preV (ci := 5) (q := (nR_M, nT_M, 4)) hK hw hS rfl hm _) rfl rfl hl.1 rfl (lv_room (Nat.le_of_ble_eq_true rfl)) nd_M_hash_6 ⟨by exact Nat.le_of_ble_eq_true rfl, by exact Nat.le_of_ble_eq_true rfl⟩) hS (fun v9 w2 H locs hp hw hS => ?_)
    obtain ⟨rfl, e9⟩ := hp
    obtain ⟨hJ, hF9⟩ := mo_cod hJ e9
    have hF0 := hF0.tr hF9
    obtain ⟨hm, ⟨g, hra, hg⟩, ⟨fs, hsa, hfs⟩, hrow, hinj⟩ := id hJ
    refine lv_if_ne (tgt := 14) hx hb nd_M_hash_9 (by decide) (fun hc => absurd rfl hc) (fun hc => ?_)
    refine lv_lconst (v := 0) hx hb nd_M_hash_12 (by decide) ?_
    exact g_lret hx hb hr hlocks hw hS (by rw [sp_hash_1 ha]; exact ⟨⟨_, hJ, hv⟩, rfl, hF0⟩) (by exact Nat.le_of_ble_eq_true rfl) (by exact Nat.le_of_ble_eq_true rfl) nd_M_hash_13

set_option maxHeartbeats 4000000 in
set_option maxRecDepth 100000 in
theorem c_M_open (l : Launch) (G : g_G) (w : xw_W) (mo ra sa : Nat) (rr : Nat → Nat) (S : sp_S) (cd : Int32) (hI : mo_I G w mo ra sa rr S cd) (a : Int32) : Met l ny_M_open nw_M_open ({ frames := 1, cells := 0, slots := 0, locals := 30 }) (g_Pc G w [.ref mo, .int a]) (g_Qv G (fun w' => mo_Post G w mo ra sa rr (sp_opn S a) 0 w')) 0 0 (xw_A (g_b G)) := by
  refine g_met (by decide) (Nat.le_of_ble_eq_true rfl) rfl ?_
  intro p e s m below meth c ls hx hb hr hts hown hlocks hin hml hl hK hB hw hS
  have hT : ∀ w ∈ nw_T, w.before _ s = true := fun w h => hts w (List.mem_cons_of_mem _ h)
  have hown : s.vm.findClass "RadixShelfModel" = some m.cls := hown
  have hl : lv_has ls 2 [(0, .ref mo), (1, .int a)] := hl
  obtain ⟨op, sz, vs⟩ := S
  obtain ⟨f, hJ9, hv9⟩ := hI
  have hJ : mo_J G w mo ra sa rr op sz f cd := hJ9
  have hv : ∀ k, k < 17 → ∀ z, z < sz k → f k z = vs k z := hv9
  clear hJ9 hv9
  have hF0 : mo_F mo sa rr w w := mo_F.rf
  obtain ⟨hm, ⟨g, hra, hg⟩, ⟨fs, hsa, hfs⟩, hrow, hinj⟩ := id hJ
  by_cases ha : 0 ≤ a ∧ a ≤ 15
  · obtain ⟨j, hj, rfl⟩ := sp_sl_of ha
    refine lv_aload_n hx hb nd_M_open_0 rfl (lv_at hl 0 rfl) ?_
    refine lv_iload_n hx hb nd_M_open_1 rfl (lv_at hl 1 rfl) ?_
    refine g_calli (va_runS (As := [.int (nI j)]) (rest := [.ref mo]) ⟨hx, hb, hml, hown, hts⟩ (c_M_isSlot1 l G w (nI j) (sp_slh hj)) (cwS 1 hts (nw_of (nw_3 nh_ml_M_22 nh_st_M_isSlot nh_in_M nh_co_M_isSlot)) rfl rfl rfl (by decide +kernel) ⟨Nat.le_of_ble_eq_true rfl, Nat.le_of_ble_eq_true rfl⟩) (g_preS hK hw hS _) rfl rfl hl.1 rfl (lv_room (Nat.le_of_ble_eq_true rfl)) nd_M_open_2 ⟨by exact Nat.le_of_ble_eq_true rfl, by exact Nat.le_of_ble_eq_true rfl⟩) hS (fun v9 w1 H locs hp hw hS => ?_)
    obtain ⟨rfl, hw9⟩ := hp
    rw [hw9] at hw
    refine lv_iconst (v := 1) hx hb nd_M_open_5 (by decide) ?_
    refine g_calli (va_runV (As := [.int 1, .int 1]) (rest := []) ⟨hx, hb, hml, hown, hts⟩ (c_M_good1 l G w mo ra sa (mo_b op) cd 1 hm) (cwV (C := nR_M) 2 hts (nw_of (nw_4 nh_ml_M_26 nh_im_M_good nh_se_M_good nh_in_M nh_co_M_good)) rfl rfl rfl (by decide +kernel) ⟨Nat.le_of_ble_eq_true rfl, Nat.le_of_ble_eq_true rfl⟩) (g_preV (ci := 5) (q := (nR_M, nT_M, 4)) hK hw hS rfl hm _) rfl rfl hl.1 rfl (lv_room (Nat.le_of_ble_eq_true rfl)) nd_M_open_6 ⟨by exact Nat.le_of_ble_eq_true rfl, by exact Nat.le_of_ble_eq_true rfl⟩) hS (fun v9 w2 H locs hp hw hS => ?_)
    obtain ⟨rfl, e9⟩ := hp
    obtain ⟨hJ, hF9⟩ := mo_cod hJ e9
    have hF0 := hF0.tr hF9
    obtain ⟨hm, ⟨g, hra, hg⟩, ⟨fs, hsa, hfs⟩, hrow, hinj⟩ := id hJ
    refine lv_if_eq (tgt := 32) hx hb nd_M_open_9 (by decide) (fun hc => absurd hc (by decide)) (fun hc => ?_)
    rcases op with _ | _
    · obtain ⟨hm, ⟨g, hra, hg⟩, ⟨fs, hsa, hfs⟩, hrow, hinj⟩ := id hJ
      refine lv_aload_n hx hb nd_M_open_12 rfl (lv_at hl 0 rfl) ?_
      refine lv_aload_n hx hb nd_M_open_13 rfl (lv_at hl 0 rfl) ?_
      refine xw_get (T := nT_M) (N := 4) (ci := 5) hx hb hT nu_M hown hK.1 hw hm rfl 2 (by decide) (hT _ nh_fl_M_36) (fun _ h9 => h9) rfl nd_M_open_14 ?_
      refine lv_topi (fun y3 ey4 => ?_)
      obtain rfl : y3 = 0 := ey4.trans (rfl)
      refine lv_if_ne (tgt := 24) hx hb nd_M_open_17 (by decide) (fun hc => absurd rfl hc) (fun hc => ?_)
      refine lv_iconst (v := 1) hx hb nd_M_open_20 (by decide) ?_
      refine lv_goto (tgt := 25) hx hb nd_M_open_21 (by decide) ?_
      refine lv_iconst (v := 2) hx hb nd_M_open_25 (by decide) ?_
      refine g_calli (va_runV (As := [.int 1, .int 2]) (rest := []) ⟨hx, hb, hml, hown, hts⟩ (c_M_good1 l G w2 mo ra sa (mo_b false) 0 2 hm) (cwV (C := nR_M) 2 hts (nw_of (nw_4 nh_ml_M_26 nh_im_M_good nh_se_M_good nh_in_M nh_co_M_good)) rfl rfl rfl (by decide +kernel) ⟨Nat.le_of_ble_eq_true rfl, Nat.le_of_ble_eq_true rfl⟩) (g_preV (ci := 5) (q := (nR_M, nT_M, 4)) hK hw hS rfl hm _) rfl rfl hl.1 rfl (lv_room (Nat.le_of_ble_eq_true rfl)) nd_M_open_26 ⟨by exact Nat.le_of_ble_eq_true rfl, by exact Nat.le_of_ble_eq_true rfl⟩) hS (fun v9 w5 H locs hp hw hS => ?_)
      obtain ⟨rfl, e9⟩ := hp
      obtain ⟨hJ, hF9⟩ := mo_cod hJ e9
      have hF0 := hF0.tr hF9
      obtain ⟨hm, ⟨g, hra, hg⟩, ⟨fs, hsa, hfs⟩, hrow, hinj⟩ := id hJ
      refine lv_if_ne (tgt := 33) hx hb nd_M_open_29 (by decide) (fun hc => ?_) (fun hc => absurd hc (by decide))
      refine lv_aload_n hx hb nd_M_open_33 rfl (lv_at hl 0 rfl) ?_
      refine lv_bipush (v := 16) hx hb nd_M_open_34 (by decide) ?_
      refine lv_topi (fun y1 ey1 => ?_)
      obtain rfl : y1 = nI 16 := ey1.trans rfl
      refine lv_iload_n hx hb nd_M_open_36 rfl (lv_at hl 1 rfl) ?_
      refine g_callv (va_runV (As := [.int (nI 16), .int (nI j)]) (rest := []) ⟨hx, hb, hml, hown, hts⟩ (c_M_copy l G w5 mo ra sa rr false sz f 0 16 j (by omega) (by omega) hJ) (cwV (C := nR_M) 2 hts (nw_of (nw_4 nh_ml_M_30 nh_im_M_copy nh_se_M_copy nh_in_M nh_co_M_copy)) rfl rfl rfl (by decide +kernel) ⟨Nat.le_of_ble_eq_true rfl, Nat.le_of_ble_eq_true rfl⟩) (g_preV (ci := 5) (q := (nR_M, nT_M, 4)) hK hw hS rfl hm _) rfl rfl hl.1 rfl (lv_room (Nat.le_of_ble_eq_true rfl)) nd_M_open_37 ⟨by exact Nat.le_of_ble_eq_true rfl, by exact Nat.le_of_ble_eq_true rfl⟩) hS (fun w6 H locs hp hw hS => ?_)
      obtain ⟨h, hJ, hh, hF9⟩ := hp
      have hF0 := hF0.tr hF9
      obtain ⟨hm, ⟨g, hra, hg⟩, ⟨fs, hsa, hfs⟩, hrow, hinj⟩ := id hJ
      refine lv_aload_n hx hb nd_M_open_40 rfl (lv_at hl 0 rfl) ?_
      refine lv_iconst (v := 1) hx hb nd_M_open_41 (by decide) ?_
      refine lv_topi (fun y7 ey8 => ?_)
      obtain rfl : y7 = mo_b true := ey8.trans (rfl)
      refine xw_put (T := nT_M) (N := 4) (ci := 5) (v := .int (mo_b true)) (ty := .boolean) hx hb hT nu_M nt_M nk_M nn_M hown hK.1 hB hw hS hm rfl 2 (by decide) (hT _ nh_fl_M_36) (fun _ h9 => h9) rfl (by decide +kernel) rfl rfl (Nat.le_of_ble_eq_true rfl) nd_M_open_42 (fun H locs hw hS => ?_)
      obtain ⟨w9, ew10⟩ : ∃ z, z = va_up w6 mo (some (.inr (5, [.ref ra, .ref sa, .int (mo_b true), .int 0]))) := ⟨_, rfl⟩
      have hw : g_P G w9 H := by rw [ew10]; exact hw
      have hra : w9 ra = some (.inl (G.2.1 5, 17, .inr (.inr (.inr (.inr g))))) := by rw [ew10, va_up_ne _ _ (xw_ne hra hm (by simp))]; exact hra
      have hsa : w9 sa = some (.inl (G.2.1 4, 17, .inl fs)) := by rw [ew10, va_up_ne _ _ (xw_ne hsa hm (by simp))]; exact hsa
      have hm : w9 mo = some (.inr (5, [.ref ra, .ref sa, .int (mo_b true), .int 0])) := by rw [ew10]; exact va_up_self _ _ _
      obtain ⟨hJ, hF9⟩ := mo_cod hJ ew10
      have hF0 := hF0.tr hF9
      exact g_vret hx hb hr hlocks hw hS (by rw [sp_opn_0 hj]; exact ⟨⟨_, hJ, mo_fin hv (fun z hz => (hh z hz).trans (hv j (by omega) z hz))⟩, rfl, hF0⟩) (by exact Nat.le_of_ble_eq_true rfl) (by exact Nat.le_of_ble_eq_true rfl) nd_M_open_45
    · obtain ⟨hm, ⟨g, hra, hg⟩, ⟨fs, hsa, hfs⟩, hrow, hinj⟩ := id hJ
      refine lv_aload_n hx hb nd_M_open_12 rfl (lv_at hl 0 rfl) ?_
      refine lv_aload_n hx hb nd_M_open_13 rfl (lv_at hl 0 rfl) ?_
      refine xw_get (T := nT_M) (N := 4) (ci := 5) hx hb hT nu_M hown hK.1 hw hm rfl 2 (by decide) (hT _ nh_fl_M_36) (fun _ h9 => h9) rfl nd_M_open_14 ?_
      refine lv_topi (fun y3 ey4 => ?_)
      obtain rfl : y3 = 1 := ey4.trans (rfl)
      refine lv_if_ne (tgt := 24) hx hb nd_M_open_17 (by decide) (fun hc => ?_) (fun hc => absurd hc (by decide))
      refine lv_iconst (v := 0) hx hb nd_M_open_24 (by decide) ?_
      refine lv_iconst (v := 2) hx hb nd_M_open_25 (by decide) ?_
      refine g_calli (va_runV (As := [.int 0, .int 2]) (rest := []) ⟨hx, hb, hml, hown, hts⟩ (c_M_good0 l G w2 mo ra sa (mo_b true) 0 2 hm) (cwV (C := nR_M) 2 hts (nw_of (nw_4 nh_ml_M_26 nh_im_M_good nh_se_M_good nh_in_M nh_co_M_good)) rfl rfl rfl (by decide +kernel) ⟨Nat.le_of_ble_eq_true rfl, Nat.le_of_ble_eq_true rfl⟩) (g_preV (ci := 5) (q := (nR_M, nT_M, 4)) hK hw hS rfl hm _) rfl rfl hl.1 rfl (lv_room (Nat.le_of_ble_eq_true rfl)) nd_M_open_26 ⟨by exact Nat.le_of_ble_eq_true rfl, by exact Nat.le_of_ble_eq_true rfl⟩) hS (fun v9 w5 H locs hp hw hS => ?_)
      obtain ⟨rfl, e9⟩ := hp
      obtain ⟨hJ, hF9⟩ := mo_cod hJ e9
      have hF0 := hF0.tr hF9
      obtain ⟨hm, ⟨g, hra, hg⟩, ⟨fs, hsa, hfs⟩, hrow, hinj⟩ := id hJ
      refine lv_if_ne (tgt := 33) hx hb nd_M_open_29 (by decide) (fun hc => absurd rfl hc) (fun hc => ?_)
      exact g_vret hx hb hr hlocks hw hS (by rw [sp_opn_2 hj]; exact ⟨⟨_, hJ, hv⟩, rfl, hF0⟩) (by exact Nat.le_of_ble_eq_true rfl) (by exact Nat.le_of_ble_eq_true rfl) nd_M_open_32
  · refine lv_aload_n hx hb nd_M_open_0 rfl (lv_at hl 0 rfl) ?_
    refine lv_iload_n hx hb nd_M_open_1 rfl (lv_at hl 1 rfl) ?_
    refine g_calli (va_runS (As := [.int a]) (rest := [.ref mo]) ⟨hx, hb, hml, hown, hts⟩ (c_M_isSlot0 l G w a ha) (cwS 1 hts (nw_of (nw_3 nh_ml_M_22 nh_st_M_isSlot nh_in_M nh_co_M_isSlot)) rfl rfl rfl (by decide +kernel) ⟨Nat.le_of_ble_eq_true rfl, Nat.le_of_ble_eq_true rfl⟩) (g_preS hK hw hS _) rfl rfl hl.1 rfl (lv_room (Nat.le_of_ble_eq_true rfl)) nd_M_open_2 ⟨by exact Nat.le_of_ble_eq_true rfl, by exact Nat.le_of_ble_eq_true rfl⟩) hS (fun v9 w1 H locs hp hw hS => ?_)
    obtain ⟨rfl, hw9⟩ := hp
    rw [hw9] at hw
    refine lv_iconst (v := 1) hx hb nd_M_open_5 (by decide) ?_
    refine g_calli (va_runV (As := [.int 0, .int 1]) (rest := []) ⟨hx, hb, hml, hown, hts⟩ (c_M_good0 l G w mo ra sa (mo_b op) cd 1 hm) (cwV (C := nR_M) 2 hts (nw_of (nw_4 nh_ml_M_26 nh_im_M_good nh_se_M_good nh_in_M nh_co_M_good)) rfl rfl rfl (by decide +kernel) ⟨Nat.le_of_ble_eq_true rfl, Nat.le_of_ble_eq_true rfl⟩) (g_preV (ci := 5) (q := (nR_M, nT_M, 4)) hK hw hS rfl hm _) rfl rfl hl.1 rfl (lv_room (Nat.le_of_ble_eq_true rfl)) nd_M_open_6 ⟨by exact Nat.le_of_ble_eq_true rfl, by exact Nat.le_of_ble_eq_true rfl⟩) hS (fun v9 w2 H locs hp hw hS => ?_)
    obtain ⟨rfl, e9⟩ := hp
    obtain ⟨hJ, hF9⟩ := mo_cod hJ e9
    have hF0 := hF0.tr hF9
    obtain ⟨hm, ⟨g, hra, hg⟩, ⟨fs, hsa, hfs⟩, hrow, hinj⟩ := id hJ
    refine lv_if_eq (tgt := 32) hx hb nd_M_open_9 (by decide) (fun hc => ?_) (fun hc => absurd rfl hc)
    exact g_vret hx hb hr hlocks hw hS (by rw [sp_opn_1 ha]; exact ⟨⟨_, hJ, hv⟩, rfl, hF0⟩) (by exact Nat.le_of_ble_eq_true rfl) (by exact Nat.le_of_ble_eq_true rfl) nd_M_open_32

set_option maxHeartbeats 4000000 in
set_option maxRecDepth 100000 in
theorem c_M_freeze (l : Launch) (G : g_G) (w : xw_W) (mo ra sa : Nat) (rr : Nat → Nat) (S : sp_S) (cd : Int32) (hI : mo_I G w mo ra sa rr S cd) (a : Int32) : Met l ny_M_freeze nw_M_freeze ({ frames := 1, cells := 0, slots := 0, locals := 30 }) (g_Pc G w [.ref mo, .int a]) (g_Qi G (fun v9 w' => mo_Post G w mo ra sa rr (sp_freeze S a) v9.toInt64 w')) 0 0 (xw_A (g_b G)) := by
  refine g_met (by decide) (Nat.le_of_ble_eq_true rfl) rfl ?_
  intro p e s m below meth c ls hx hb hr hts hown hlocks hin hml hl hK hB hw hS
  have hT : ∀ w ∈ nw_T, w.before _ s = true := fun w h => hts w (List.mem_cons_of_mem _ h)
  have hown : s.vm.findClass "RadixShelfModel" = some m.cls := hown
  have hl : lv_has ls 2 [(0, .ref mo), (1, .int a)] := hl
  obtain ⟨op, sz, vs⟩ := S
  obtain ⟨f, hJ9, hv9⟩ := hI
  have hJ : mo_J G w mo ra sa rr op sz f cd := hJ9
  have hv : ∀ k, k < 17 → ∀ z, z < sz k → f k z = vs k z := hv9
  clear hJ9 hv9
  have hF0 : mo_F mo sa rr w w := mo_F.rf
  obtain ⟨hm, ⟨g, hra, hg⟩, ⟨fs, hsa, hfs⟩, hrow, hinj⟩ := id hJ
  by_cases ha : 0 ≤ a ∧ a ≤ 15
  · obtain ⟨i, hi, rfl⟩ := sp_sl_of ha
    refine lv_aload_n hx hb nd_M_freeze_0 rfl (lv_at hl 0 rfl) ?_
    refine lv_iload_n hx hb nd_M_freeze_1 rfl (lv_at hl 1 rfl) ?_
    refine g_calli (va_runS (As := [.int (nI i)]) (rest := [.ref mo]) ⟨hx, hb, hml, hown, hts⟩ (c_M_isSlot1 l G w (nI i) (sp_slh hi)) (cwS 1 hts (nw_of (nw_3 nh_ml_M_22 nh_st_M_isSlot nh_in_M nh_co_M_isSlot)) rfl rfl rfl (by decide +kernel) ⟨Nat.le_of_ble_eq_true rfl, Nat.le_of_ble_eq_true rfl⟩) (g_preS hK hw hS _) rfl rfl hl.1 rfl (lv_room (Nat.le_of_ble_eq_true rfl)) nd_M_freeze_2 ⟨by exact Nat.le_of_ble_eq_true rfl, by exact Nat.le_of_ble_eq_true rfl⟩) hS (fun v9 w1 H locs hp hw hS => ?_)
    obtain ⟨rfl, hw9⟩ := hp
    rw [hw9] at hw
    refine lv_iconst (v := 1) hx hb nd_M_freeze_5 (by decide) ?_
    refine g_calli (va_runV (As := [.int 1, .int 1]) (rest := []) ⟨hx, hb, hml, hown, hts⟩ (c_M_good1 l G w mo ra sa (mo_b op) cd 1 hm) (cwV (C := nR_M) 2 hts (nw_of (nw_4 nh_ml_M_26 nh_im_M_good nh_se_M_good nh_in_M nh_co_M_good)) rfl rfl rfl (by decide +kernel) ⟨Nat.le_of_ble_eq_true rfl, Nat.le_of_ble_eq_true rfl⟩) (g_preV (ci := 5) (q := (nR_M, nT_M, 4)) hK hw hS rfl hm _) rfl rfl hl.1 rfl (lv_room (Nat.le_of_ble_eq_true rfl)) nd_M_freeze_6 ⟨by exact Nat.le_of_ble_eq_true rfl, by exact Nat.le_of_ble_eq_true rfl⟩) hS (fun v9 w2 H locs hp hw hS => ?_)
    obtain ⟨rfl, e9⟩ := hp
    obtain ⟨hJ, hF9⟩ := mo_cod hJ e9
    have hF0 := hF0.tr hF9
    obtain ⟨hm, ⟨g, hra, hg⟩, ⟨fs, hsa, hfs⟩, hrow, hinj⟩ := id hJ
    refine lv_if_eq (tgt := 24) hx hb nd_M_freeze_9 (by decide) (fun hc => absurd hc (by decide)) (fun hc => ?_)
    rcases op with _ | _
    · obtain ⟨hm, ⟨g, hra, hg⟩, ⟨fs, hsa, hfs⟩, hrow, hinj⟩ := id hJ
      refine lv_aload_n hx hb nd_M_freeze_12 rfl (lv_at hl 0 rfl) ?_
      refine lv_aload_n hx hb nd_M_freeze_13 rfl (lv_at hl 0 rfl) ?_
      refine xw_get (T := nT_M) (N := 4) (ci := 5) hx hb hT nu_M hown hK.1 hw hm rfl 2 (by decide) (hT _ nh_fl_M_36) (fun _ h9 => h9) rfl nd_M_freeze_14 ?_
      refine lv_topi (fun y3 ey4 => ?_)
      obtain rfl : y3 = 0 := ey4.trans (rfl)
      refine lv_iconst (v := 2) hx hb nd_M_freeze_17 (by decide) ?_
      refine g_calli (va_runV (As := [.int 0, .int 2]) (rest := []) ⟨hx, hb, hml, hown, hts⟩ (c_M_good0 l G w2 mo ra sa (mo_b false) 0 2 hm) (cwV (C := nR_M) 2 hts (nw_of (nw_4 nh_ml_M_26 nh_im_M_good nh_se_M_good nh_in_M nh_co_M_good)) rfl rfl rfl (by decide +kernel) ⟨Nat.le_of_ble_eq_true rfl, Nat.le_of_ble_eq_true rfl⟩) (g_preV (ci := 5) (q := (nR_M, nT_M, 4)) hK hw hS rfl hm _) rfl rfl hl.1 rfl (lv_room (Nat.le_of_ble_eq_true rfl)) nd_M_freeze_18 ⟨by exact Nat.le_of_ble_eq_true rfl, by exact Nat.le_of_ble_eq_true rfl⟩) hS (fun v9 w5 H locs hp hw hS => ?_)
      obtain ⟨rfl, e9⟩ := hp
      obtain ⟨hJ, hF9⟩ := mo_cod hJ e9
      have hF0 := hF0.tr hF9
      obtain ⟨hm, ⟨g, hra, hg⟩, ⟨fs, hsa, hfs⟩, hrow, hinj⟩ := id hJ
      refine lv_if_ne (tgt := 26) hx hb nd_M_freeze_21 (by decide) (fun hc => absurd rfl hc) (fun hc => ?_)
      refine lv_iconst (v := 0) hx hb nd_M_freeze_24 (by decide) ?_
      exact g_iret hx hb hr hlocks hw hS (by rw [sp_freeze_2 hi]; exact ⟨⟨_, hJ, hv⟩, rfl, hF0⟩) (by exact Nat.le_of_ble_eq_true rfl) (by exact Nat.le_of_ble_eq_true rfl) nd_M_freeze_25
    · obtain ⟨hm, ⟨g, hra, hg⟩, ⟨fs, hsa, hfs⟩, hrow, hinj⟩ := id hJ
      refine lv_aload_n hx hb nd_M_freeze_12 rfl (lv_at hl 0 rfl) ?_
      refine lv_aload_n hx hb nd_M_freeze_13 rfl (lv_at hl 0 rfl) ?_
      refine xw_get (T := nT_M) (N := 4) (ci := 5) hx hb hT nu_M hown hK.1 hw hm rfl 2 (by decide) (hT _ nh_fl_M_36) (fun _ h9 => h9) rfl nd_M_freeze_14 ?_
      refine lv_topi (fun y3 ey4 => ?_)
      obtain rfl : y3 = 1 := ey4.trans (rfl)
      refine lv_iconst (v := 2) hx hb nd_M_freeze_17 (by decide) ?_
      refine g_calli (va_runV (As := [.int 1, .int 2]) (rest := []) ⟨hx, hb, hml, hown, hts⟩ (c_M_good1 l G w2 mo ra sa (mo_b true) 0 2 hm) (cwV (C := nR_M) 2 hts (nw_of (nw_4 nh_ml_M_26 nh_im_M_good nh_se_M_good nh_in_M nh_co_M_good)) rfl rfl rfl (by decide +kernel) ⟨Nat.le_of_ble_eq_true rfl, Nat.le_of_ble_eq_true rfl⟩) (g_preV (ci := 5) (q := (nR_M, nT_M, 4)) hK hw hS rfl hm _) rfl rfl hl.1 rfl (lv_room (Nat.le_of_ble_eq_true rfl)) nd_M_freeze_18 ⟨by exact Nat.le_of_ble_eq_true rfl, by exact Nat.le_of_ble_eq_true rfl⟩) hS (fun v9 w5 H locs hp hw hS => ?_)
      obtain ⟨rfl, e9⟩ := hp
      obtain ⟨hJ, hF9⟩ := mo_cod hJ e9
      have hF0 := hF0.tr hF9
      obtain ⟨hm, ⟨g, hra, hg⟩, ⟨fs, hsa, hfs⟩, hrow, hinj⟩ := id hJ
      refine lv_if_ne (tgt := 26) hx hb nd_M_freeze_21 (by decide) (fun hc => ?_) (fun hc => absurd hc (by decide))
      refine lv_aload_n hx hb nd_M_freeze_26 rfl (lv_at hl 0 rfl) ?_
      refine lv_iload_n hx hb nd_M_freeze_27 rfl (lv_at hl 1 rfl) ?_
      refine lv_bipush (v := 16) hx hb nd_M_freeze_28 (by decide) ?_
      refine lv_topi (fun y6 ey7 => ?_)
      obtain rfl : y6 = nI 16 := ey7.trans (rfl)
      refine g_callv (va_runV (As := [.int (nI i), .int (nI 16)]) (rest := []) ⟨hx, hb, hml, hown, hts⟩ (c_M_copy l G w5 mo ra sa rr true sz f 0 i 16 (by omega) (by omega) hJ) (cwV (C := nR_M) 2 hts (nw_of (nw_4 nh_ml_M_30 nh_im_M_copy nh_se_M_copy nh_in_M nh_co_M_copy)) rfl rfl rfl (by decide +kernel) ⟨Nat.le_of_ble_eq_true rfl, Nat.le_of_ble_eq_true rfl⟩) (g_preV (ci := 5) (q := (nR_M, nT_M, 4)) hK hw hS rfl hm _) rfl rfl hl.1 rfl (lv_room (Nat.le_of_ble_eq_true rfl)) nd_M_freeze_30 ⟨by exact Nat.le_of_ble_eq_true rfl, by exact Nat.le_of_ble_eq_true rfl⟩) hS (fun w8 H locs hp hw hS => ?_)
      obtain ⟨h, hJ, hh, hF9⟩ := hp
      have hF0 := hF0.tr hF9
      obtain ⟨hm, ⟨g, hra, hg⟩, ⟨fs, hsa, hfs⟩, hrow, hinj⟩ := id hJ
      refine lv_aload_n hx hb nd_M_freeze_33 rfl (lv_at hl 0 rfl) ?_
      refine lv_iconst (v := 0) hx hb nd_M_freeze_34 (by decide) ?_
      refine lv_topi (fun y9 ey10 => ?_)
      obtain rfl : y9 = mo_b false := ey10.trans (rfl)
      refine xw_put (T := nT_M) (N := 4) (ci := 5) (v := .int (mo_b false)) (ty := .boolean) hx hb hT nu_M nt_M nk_M nn_M hown hK.1 hB hw hS hm rfl 2 (by decide) (hT _ nh_fl_M_36) (fun _ h9 => h9) rfl (by decide +kernel) rfl rfl (Nat.le_of_ble_eq_true rfl) nd_M_freeze_35 (fun H locs hw hS => ?_)
      obtain ⟨w11, ew12⟩ : ∃ z, z = va_up w8 mo (some (.inr (5, [.ref ra, .ref sa, .int (mo_b false), .int 0]))) := ⟨_, rfl⟩
      have hw : g_P G w11 H := by rw [ew12]; exact hw
      have hra : w11 ra = some (.inl (G.2.1 5, 17, .inr (.inr (.inr (.inr g))))) := by rw [ew12, va_up_ne _ _ (xw_ne hra hm (by simp))]; exact hra
      have hsa : w11 sa = some (.inl (G.2.1 4, 17, .inl fs)) := by rw [ew12, va_up_ne _ _ (xw_ne hsa hm (by simp))]; exact hsa
      have hm : w11 mo = some (.inr (5, [.ref ra, .ref sa, .int (mo_b false), .int 0])) := by rw [ew12]; exact va_up_self _ _ _
      refine lv_aload_n hx hb nd_M_freeze_38 rfl (lv_at hl 0 rfl) ?_
      refine xw_get (T := nT_M) (N := 4) (ci := 5) hx hb hT nu_M hown hK.1 hw hm rfl 1 (by decide) (hT _ nh_fl_M_14) (fun _ h9 => h9) rfl nd_M_freeze_39 ?_
      refine lv_iload_n hx hb nd_M_freeze_42 rfl (lv_at hl 1 rfl) ?_
      obtain ⟨hJ, hF9⟩ := mo_cod hJ ew12
      have hF0 := hF0.tr hF9
      obtain ⟨hm, ⟨g, hra, hg⟩, ⟨fs, hsa, hfs⟩, hrow, hinj⟩ := id hJ
      refine xw_iald hx hb hK.1 hw 4 hsa rfl (vp_in_nI (by omega) (by decide)) nd_M_freeze_43 ?_
      refine lv_topi (fun y13 ey14 => ?_)
      obtain rfl : y13 = nI (sz 16) := ey14.trans (by rw [nI_clamp (by omega)]; rw [hfs _ (by omega), va_up_self])
      exact g_iret hx hb hr hlocks hw hS (by rw [sp_freeze_0 hi]; exact ⟨⟨_, hJ, mo_fin hv (fun z hz => (hh z hz).trans (hv 16 (by omega) z hz))⟩, rfl, hF0⟩) (by exact Nat.le_of_ble_eq_true rfl) (by exact Nat.le_of_ble_eq_true rfl) nd_M_freeze_44
  · refine lv_aload_n hx hb nd_M_freeze_0 rfl (lv_at hl 0 rfl) ?_
    refine lv_iload_n hx hb nd_M_freeze_1 rfl (lv_at hl 1 rfl) ?_
    refine g_calli (va_runS (As := [.int a]) (rest := [.ref mo]) ⟨hx, hb, hml, hown, hts⟩ (c_M_isSlot0 l G w a ha) (cwS 1 hts (nw_of (nw_3 nh_ml_M_22 nh_st_M_isSlot nh_in_M nh_co_M_isSlot)) rfl rfl rfl (by decide +kernel) ⟨Nat.le_of_ble_eq_true rfl, Nat.le_of_ble_eq_true rfl⟩) (g_preS hK hw hS _) rfl rfl hl.1 rfl (lv_room (Nat.le_of_ble_eq_true rfl)) nd_M_freeze_2 ⟨by exact Nat.le_of_ble_eq_true rfl, by exact Nat.le_of_ble_eq_true rfl⟩) hS (fun v9 w1 H locs hp hw hS => ?_)
    obtain ⟨rfl, hw9⟩ := hp
    rw [hw9] at hw
    refine lv_iconst (v := 1) hx hb nd_M_freeze_5 (by decide) ?_
    refine g_calli (va_runV (As := [.int 0, .int 1]) (rest := []) ⟨hx, hb, hml, hown, hts⟩ (c_M_good0 l G w mo ra sa (mo_b op) cd 1 hm) (cwV (C := nR_M) 2 hts (nw_of (nw_4 nh_ml_M_26 nh_im_M_good nh_se_M_good nh_in_M nh_co_M_good)) rfl rfl rfl (by decide +kernel) ⟨Nat.le_of_ble_eq_true rfl, Nat.le_of_ble_eq_true rfl⟩) (g_preV (ci := 5) (q := (nR_M, nT_M, 4)) hK hw hS rfl hm _) rfl rfl hl.1 rfl (lv_room (Nat.le_of_ble_eq_true rfl)) nd_M_freeze_6 ⟨by exact Nat.le_of_ble_eq_true rfl, by exact Nat.le_of_ble_eq_true rfl⟩) hS (fun v9 w2 H locs hp hw hS => ?_)
    obtain ⟨rfl, e9⟩ := hp
    obtain ⟨hJ, hF9⟩ := mo_cod hJ e9
    have hF0 := hF0.tr hF9
    obtain ⟨hm, ⟨g, hra, hg⟩, ⟨fs, hsa, hfs⟩, hrow, hinj⟩ := id hJ
    refine lv_if_eq (tgt := 24) hx hb nd_M_freeze_9 (by decide) (fun hc => ?_) (fun hc => absurd rfl hc)
    refine lv_iconst (v := 0) hx hb nd_M_freeze_24 (by decide) ?_
    exact g_iret hx hb hr hlocks hw hS (by rw [sp_freeze_1 ha]; exact ⟨⟨_, hJ, hv⟩, rfl, hF0⟩) (by exact Nat.le_of_ble_eq_true rfl) (by exact Nat.le_of_ble_eq_true rfl) nd_M_freeze_25

set_option maxHeartbeats 4000000 in
set_option maxRecDepth 100000 in
theorem c_M_build (l : Launch) (G : g_G) (w : xw_W) (mo ra sa : Nat) (rr : Nat → Nat) (S : sp_S) (cd : Int32) (hI : mo_I G w mo ra sa rr S cd) (k a : Int32) (v : Int64) : Met l ny_M_build nw_M_build ({ frames := 1, cells := 0, slots := 0, locals := 30 }) (g_Pc G w [.ref mo, .int k, .int a, .long v]) (g_Qi G (fun v9 w' => mo_Post G w mo ra sa rr (sp_build S k a v) v9.toInt64 w')) 0 0 (xw_A (g_b G)) := by
  refine g_met (by decide) (Nat.le_of_ble_eq_true rfl) rfl ?_
  intro p e s m below meth c ls hx hb hr hts hown hlocks hin hml hl hK hB hw hS
  have hT : ∀ w ∈ nw_T, w.before _ s = true := fun w h => hts w (List.mem_cons_of_mem _ h)
  have hown : s.vm.findClass "RadixShelfModel" = some m.cls := hown
  have hl : lv_has ls 6 [(0, .ref mo), (1, .int k), (2, .int a), (3, .long v)] := hl
  obtain ⟨op, sz, vs⟩ := S
  obtain ⟨f, hJ9, hv9⟩ := hI
  have hJ : mo_J G w mo ra sa rr op sz f cd := hJ9
  have hv : ∀ k, k < 17 → ∀ z, z < sz k → f k z = vs k z := hv9
  clear hJ9 hv9
  have hF0 : mo_F mo sa rr w w := mo_F.rf
  obtain ⟨hm, ⟨g, hra, hg⟩, ⟨fs, hsa, hfs⟩, hrow, hinj⟩ := id hJ
  by_cases hk : 0 ≤ k ∧ k ≤ 2
  · refine lv_aload_n hx hb nd_M_build_0 rfl (lv_at hl 0 rfl) ?_
    refine lv_iload_n hx hb nd_M_build_1 rfl (lv_at hl 1 rfl) ?_
    refine lv_if_lt (tgt := 14) hx hb nd_M_build_2 (by decide) (fun hc => absurd hc (Int32.not_lt.mpr hk.1)) (fun hc => ?_)
    refine lv_iload_n hx hb nd_M_build_5 rfl (lv_at hl 1 rfl) ?_
    refine lv_iconst (v := 2) hx hb nd_M_build_6 (by decide) ?_
    refine lv_icmp_gt (tgt := 14) hx hb nd_M_build_7 (by decide) (fun hc => absurd hc (Int32.not_lt.mpr hk.2)) (fun hc => ?_)
    refine lv_iconst (v := 1) hx hb nd_M_build_10 (by decide) ?_
    refine lv_goto (tgt := 15) hx hb nd_M_build_11 (by decide) ?_
    refine lv_iconst (v := 1) hx hb nd_M_build_15 (by decide) ?_
    refine g_calli (va_runV (As := [.int 1, .int 1]) (rest := []) ⟨hx, hb, hml, hown, hts⟩ (c_M_good1 l G w mo ra sa (mo_b op) cd 1 hm) (cwV (C := nR_M) 2 hts (nw_of (nw_4 nh_ml_M_26 nh_im_M_good nh_se_M_good nh_in_M nh_co_M_good)) rfl rfl rfl (by decide +kernel) ⟨Nat.le_of_ble_eq_true rfl, Nat.le_of_ble_eq_true rfl⟩) (g_preV (ci := 5) (q := (nR_M, nT_M, 4)) hK hw hS rfl hm _) rfl rfl hl.1 rfl (lv_room (Nat.le_of_ble_eq_true rfl)) nd_M_build_16 ⟨by exact Nat.le_of_ble_eq_true rfl, by exact Nat.le_of_ble_eq_true rfl⟩) hS (fun v9 w1 H locs hp hw hS => ?_)
    obtain ⟨rfl, e9⟩ := hp
    obtain ⟨hJ, hF9⟩ := mo_cod hJ e9
    have hF0 := hF0.tr hF9
    obtain ⟨hm, ⟨g, hra, hg⟩, ⟨fs, hsa, hfs⟩, hrow, hinj⟩ := id hJ
    refine lv_if_eq (tgt := 34) hx hb nd_M_build_19 (by decide) (fun hc => absurd hc (by decide)) (fun hc => ?_)
    rcases op with _ | _
    · obtain ⟨hm, ⟨g, hra, hg⟩, ⟨fs, hsa, hfs⟩, hrow, hinj⟩ := id hJ
      refine lv_aload_n hx hb nd_M_build_22 rfl (lv_at hl 0 rfl) ?_
      refine lv_aload_n hx hb nd_M_build_23 rfl (lv_at hl 0 rfl) ?_
      refine xw_get (T := nT_M) (N := 4) (ci := 5) hx hb hT nu_M hown hK.1 hw hm rfl 2 (by decide) (hT _ nh_fl_M_36) (fun _ h9 => h9) rfl nd_M_build_24 ?_
      refine lv_topi (fun y2 ey3 => ?_)
      obtain rfl : y2 = 0 := ey3.trans (rfl)
      refine lv_iconst (v := 2) hx hb nd_M_build_27 (by decide) ?_
      refine g_calli (va_runV (As := [.int 0, .int 2]) (rest := []) ⟨hx, hb, hml, hown, hts⟩ (c_M_good0 l G w1 mo ra sa (mo_b false) 0 2 hm) (cwV (C := nR_M) 2 hts (nw_of (nw_4 nh_ml_M_26 nh_im_M_good nh_se_M_good nh_in_M nh_co_M_good)) rfl rfl rfl (by decide +kernel) ⟨Nat.le_of_ble_eq_true rfl, Nat.le_of_ble_eq_true rfl⟩) (g_preV (ci := 5) (q := (nR_M, nT_M, 4)) hK hw hS rfl hm _) rfl rfl hl.1 rfl (lv_room (Nat.le_of_ble_eq_true rfl)) nd_M_build_28 ⟨by exact Nat.le_of_ble_eq_true rfl, by exact Nat.le_of_ble_eq_true rfl⟩) hS (fun v9 w4 H locs hp hw hS => ?_)
      obtain ⟨rfl, e9⟩ := hp
      obtain ⟨hJ, hF9⟩ := mo_cod hJ e9
      have hF0 := hF0.tr hF9
      obtain ⟨hm, ⟨g, hra, hg⟩, ⟨fs, hsa, hfs⟩, hrow, hinj⟩ := id hJ
      refine lv_if_ne (tgt := 36) hx hb nd_M_build_31 (by decide) (fun hc => absurd rfl hc) (fun hc => ?_)
      refine lv_iconst (v := 0) hx hb nd_M_build_34 (by decide) ?_
      exact g_iret hx hb hr hlocks hw hS (by rw [sp_build_2 hk]; exact ⟨⟨_, hJ, hv⟩, rfl, hF0⟩) (by exact Nat.le_of_ble_eq_true rfl) (by exact Nat.le_of_ble_eq_true rfl) nd_M_build_35
    · obtain ⟨hm, ⟨g, hra, hg⟩, ⟨fs, hsa, hfs⟩, hrow, hinj⟩ := id hJ
      refine lv_aload_n hx hb nd_M_build_22 rfl (lv_at hl 0 rfl) ?_
      refine lv_aload_n hx hb nd_M_build_23 rfl (lv_at hl 0 rfl) ?_
      refine xw_get (T := nT_M) (N := 4) (ci := 5) hx hb hT nu_M hown hK.1 hw hm rfl 2 (by decide) (hT _ nh_fl_M_36) (fun _ h9 => h9) rfl nd_M_build_24 ?_
      refine lv_topi (fun y2 ey3 => ?_)
      obtain rfl : y2 = 1 := ey3.trans (rfl)
      refine lv_iconst (v := 2) hx hb nd_M_build_27 (by decide) ?_
      refine g_calli (va_runV (As := [.int 1, .int 2]) (rest := []) ⟨hx, hb, hml, hown, hts⟩ (c_M_good1 l G w1 mo ra sa (mo_b true) 0 2 hm) (cwV (C := nR_M) 2 hts (nw_of (nw_4 nh_ml_M_26 nh_im_M_good nh_se_M_good nh_in_M nh_co_M_good)) rfl rfl rfl (by decide +kernel) ⟨Nat.le_of_ble_eq_true rfl, Nat.le_of_ble_eq_true rfl⟩) (g_preV (ci := 5) (q := (nR_M, nT_M, 4)) hK hw hS rfl hm _) rfl rfl hl.1 rfl (lv_room (Nat.le_of_ble_eq_true rfl)) nd_M_build_28 ⟨by exact Nat.le_of_ble_eq_true rfl, by exact Nat.le_of_ble_eq_true rfl⟩) hS (fun v9 w4 H locs hp hw hS => ?_)
      obtain ⟨rfl, e9⟩ := hp
      obtain ⟨hJ, hF9⟩ := mo_cod hJ e9
      have hF0 := hF0.tr hF9
      obtain ⟨hm, ⟨g, hra, hg⟩, ⟨fs, hsa, hfs⟩, hrow, hinj⟩ := id hJ
      refine lv_if_ne (tgt := 36) hx hb nd_M_build_31 (by decide) (fun hc => ?_) (fun hc => absurd hc (by decide))
      have hj3 : sz 16 ≤ 3000 := (hrow 16 (by omega)).1
      refine lv_aload_n hx hb nd_M_build_36 rfl (lv_at hl 0 rfl) ?_
      refine xw_get (T := nT_M) (N := 4) (ci := 5) hx hb hT nu_M hown hK.1 hw hm rfl 1 (by decide) (hT _ nh_fl_M_14) (fun _ h9 => h9) rfl nd_M_build_37 ?_
      refine lv_bipush (v := 16) hx hb nd_M_build_40 (by decide) ?_
      refine lv_topi (fun y5 ey6 => ?_)
      obtain rfl : y5 = nI 16 := ey6.trans (rfl)
      refine xw_iald hx hb hK.1 hw 4 hsa rfl (vp_in_nI (by omega) (by decide)) nd_M_build_42 ?_
      refine lv_topi (fun y7 ey8 => ?_)
      obtain rfl : y7 = nI (sz 16) := ey8.trans (by rw [nI_clamp (by omega)]; exact hfs _ (by omega))
      refine lv_istore hx hb nd_M_build_43 hl (by decide) (lv' := [(5, .int (nI (sz 16))), (0, .ref mo), (1, .int k), (2, .int a), (3, .long v)]) rfl (fun ls hl => ?_)
      refine lv_iload_n hx hb nd_M_build_45 rfl (lv_at hl 2 rfl) ?_
      refine lv_if_ne (tgt := 97) hx hb nd_M_build_46 (by decide) (fun hc => ?_) (fun hc => ?_)
      · refine lv_iload_n hx hb nd_M_build_97 rfl (lv_at hl 2 rfl) ?_
        refine lv_iconst (v := 1) hx hb nd_M_build_98 (by decide) ?_
        refine lv_icmp_ne (tgt := 140) hx hb nd_M_build_99 (by decide) (fun hc2 => ?_) (fun hc2 => ?_)
        · obtain rfl := sp_k2 hk hc hc2
          refine lv_aload_n hx hb nd_M_build_140 rfl (lv_at hl 1 rfl) ?_
          refine lv_iload hx hb nd_M_build_141 (lv_at hl 0 rfl) ?_
          refine lv_if_le (tgt := 150) hx hb nd_M_build_143 (by decide) (fun hc3 => ?_) (fun hc3 => ?_)
          · have hs : ¬ 0 < sz 16 := fun z => absurd hc3 (nI_nle z (by omega))
            refine lv_iconst (v := 0) hx hb nd_M_build_150 (by decide) ?_
            refine lv_iconst (v := 3) hx hb nd_M_build_151 (by decide) ?_
            refine g_calli (va_runV (As := [.int 0, .int 3]) (rest := []) ⟨hx, hb, hml, hown, hts⟩ (c_M_good0 l G w4 mo ra sa (mo_b true) 0 3 hm) (cwV (C := nR_M) 2 hts (nw_of (nw_4 nh_ml_M_26 nh_im_M_good nh_se_M_good nh_in_M nh_co_M_good)) rfl rfl rfl (by decide +kernel) ⟨Nat.le_of_ble_eq_true rfl, Nat.le_of_ble_eq_true rfl⟩) (g_preV (ci := 5) (q := (nR_M, nT_M, 4)) hK hw hS rfl hm _) rfl rfl hl.1 rfl (lv_room (Nat.le_of_ble_eq_true rfl)) nd_M_build_152 ⟨by exact Nat.le_of_ble_eq_true rfl, by exact Nat.le_of_ble_eq_true rfl⟩) hS (fun v9 w9 H locs hp hw hS => ?_)
            obtain ⟨rfl, e9⟩ := hp
            obtain ⟨hJ, hF9⟩ := mo_cod hJ e9
            have hF0 := hF0.tr hF9
            obtain ⟨hm, ⟨g, hra, hg⟩, ⟨fs, hsa, hfs⟩, hrow, hinj⟩ := id hJ
            refine lv_if_ne (tgt := 160) hx hb nd_M_build_155 (by decide) (fun hc => absurd rfl hc) (fun hc => ?_)
            refine lv_iconst (v := 0) hx hb nd_M_build_158 (by decide) ?_
            exact g_iret hx hb hr hlocks hw hS (by rw [sp_build_32 hs]; exact ⟨⟨_, hJ, hv⟩, rfl, hF0⟩) (by exact Nat.le_of_ble_eq_true rfl) (by exact Nat.le_of_ble_eq_true rfl) nd_M_build_159
          · have hs : 0 < sz 16 := by
              rcases Nat.eq_zero_or_pos (sz 16) with z | z
              · exact absurd (by rw [z, nI_0]; decide) hc3
              · exact z
            refine lv_iconst (v := 1) hx hb nd_M_build_146 (by decide) ?_
            refine lv_goto (tgt := 151) hx hb nd_M_build_147 (by decide) ?_
            refine lv_iconst (v := 3) hx hb nd_M_build_151 (by decide) ?_
            refine g_calli (va_runV (As := [.int 1, .int 3]) (rest := []) ⟨hx, hb, hml, hown, hts⟩ (c_M_good1 l G w4 mo ra sa (mo_b true) 0 3 hm) (cwV (C := nR_M) 2 hts (nw_of (nw_4 nh_ml_M_26 nh_im_M_good nh_se_M_good nh_in_M nh_co_M_good)) rfl rfl rfl (by decide +kernel) ⟨Nat.le_of_ble_eq_true rfl, Nat.le_of_ble_eq_true rfl⟩) (g_preV (ci := 5) (q := (nR_M, nT_M, 4)) hK hw hS rfl hm _) rfl rfl hl.1 rfl (lv_room (Nat.le_of_ble_eq_true rfl)) nd_M_build_152 ⟨by exact Nat.le_of_ble_eq_true rfl, by exact Nat.le_of_ble_eq_true rfl⟩) hS (fun v9 w9 H locs hp hw hS => ?_)
            obtain ⟨rfl, e9⟩ := hp
            obtain ⟨hJ, hF9⟩ := mo_cod hJ e9
            have hF0 := hF0.tr hF9
            obtain ⟨hm, ⟨g, hra, hg⟩, ⟨fs, hsa, hfs⟩, hrow, hinj⟩ := id hJ
            refine lv_if_ne (tgt := 160) hx hb nd_M_build_155 (by decide) (fun hc => ?_) (fun hc => absurd hc (by decide))
            refine lv_aload_n hx hb nd_M_build_160 rfl (lv_at hl 1 rfl) ?_
            refine xw_get (T := nT_M) (N := 4) (ci := 5) hx hb hT nu_M hown hK.1 hw hm rfl 1 (by decide) (hT _ nh_fl_M_14) (fun _ h9 => h9) rfl nd_M_build_161 ?_
            refine lv_bipush (v := 16) hx hb nd_M_build_164 (by decide) ?_
            refine lv_topi (fun y10 ey11 => ?_)
            obtain rfl : y10 = nI 16 := ey11.trans (rfl)
            refine lv_dup2_11 hx hb nd_M_build_166 rfl rfl ?_
            refine xw_iald hx hb hK.1 hw 4 hsa rfl (vp_in_nI (by omega) (by decide)) nd_M_build_167 ?_
            refine lv_topi (fun y12 ey13 => ?_)
            obtain rfl : y12 = nI (sz 16) := ey13.trans (by rw [nI_clamp (by omega)]; exact hfs _ (by omega))
            refine lv_iconst (v := 1) hx hb nd_M_build_168 (by decide) ?_
            refine lv_isub hx hb nd_M_build_169 ?_
            refine lv_topi (fun y14 ey15 => ?_)
            obtain rfl : y14 = nI (sz 16 - 1) := ey15.trans (pk_sub (a := sz 16) (b := 1) hs)
            have hsa0 := hsa
            refine xw_iast hx hb hK.1 hB hw hS 4 hsa rfl (vp_in_nI (by omega) (by decide)) nd_M_build_170 (fun H locs hw hS => ?_)
            rw [nI_clamp (by omega)] at hw
            obtain ⟨w16, ew17⟩ : ∃ z, z = va_up w9 sa (some (.inl (G.2.1 4, 17, .inl (upd fs 16 (nI (sz 16 - 1)))))) := ⟨_, rfl⟩
            have hw : g_P G w16 H := by rw [ew17]; exact hw
            have hm : w16 mo = some (.inr (5, [.ref ra, .ref sa, .int (mo_b true), .int 0])) := by rw [ew17, va_up_ne _ _ (xw_ne hm hsa (by simp))]; exact hm
            have hsa : w16 sa = some (.inl (G.2.1 4, 17, .inl (upd fs 16 (nI (sz 16 - 1))))) := by rw [ew17]; exact va_up_self _ _ _
            obtain ⟨hJ, hF9⟩ := mo_siz hJ (by omega) (by omega) hsa0 ew17
            have hF0 := hF0.tr hF9
            obtain ⟨hm, ⟨g, hra, hg⟩, ⟨fs, hsa, hfs⟩, hrow, hinj⟩ := id hJ
            refine lv_aload_n hx hb nd_M_build_171 rfl (lv_at hl 1 rfl) ?_
            refine xw_get (T := nT_M) (N := 4) (ci := 5) hx hb hT nu_M hown hK.1 hw hm rfl 1 (by decide) (hT _ nh_fl_M_14) (fun _ h9 => h9) rfl nd_M_build_172 ?_
            refine lv_bipush (v := 16) hx hb nd_M_build_175 (by decide) ?_
            refine lv_topi (fun y18 ey19 => ?_)
            obtain rfl : y18 = nI 16 := ey19.trans (rfl)
            refine xw_iald hx hb hK.1 hw 4 hsa rfl (vp_in_nI (by omega) (by decide)) nd_M_build_177 ?_
            refine lv_topi (fun y20 ey21 => ?_)
            obtain rfl : y20 = nI (sz 16 - 1) := ey21.trans (by rw [nI_clamp (by omega)]; rw [hfs _ (by omega), va_up_self])
            have hJ : mo_J G w16 mo ra sa rr true (va_up sz 16 (sz 16 - 1)) (va_up f 16 (f 16)) 0 := by rw [va_up_same f]; exact hJ
            exact g_iret hx hb hr hlocks hw hS (by rw [sp_build_02 hs]; exact ⟨⟨_, hJ, mo_fin hv (fun z hz => hv 16 (by omega) z (by omega))⟩, rfl, hF0⟩) (by exact Nat.le_of_ble_eq_true rfl) (by exact Nat.le_of_ble_eq_true rfl) nd_M_build_178
        · obtain rfl := hc2
          by_cases ha : 0 ≤ a ∧ a < nI (sz 16)
          · obtain ⟨x, hx1, rfl⟩ := sp_elo hj3 ha
            refine lv_aload_n hx hb nd_M_build_102 rfl (lv_at hl 1 rfl) ?_
            refine lv_iload_n hx hb nd_M_build_103 rfl (lv_at hl 3 rfl) ?_
            refine lv_if_lt (tgt := 117) hx hb nd_M_build_104 (by decide) (fun hc => absurd hc (nI_pos (by omega))) (fun hc => ?_)
            refine lv_iload_n hx hb nd_M_build_107 rfl (lv_at hl 3 rfl) ?_
            refine lv_iload hx hb nd_M_build_108 (lv_at hl 0 rfl) ?_
            refine lv_icmp_ge (tgt := 117) hx hb nd_M_build_110 (by decide) (fun hc => absurd hc (nI_ge hx1 (by omega))) (fun hc => ?_)
            refine lv_iconst (v := 1) hx hb nd_M_build_113 (by decide) ?_
            refine lv_goto (tgt := 118) hx hb nd_M_build_114 (by decide) ?_
            refine lv_iconst (v := 3) hx hb nd_M_build_118 (by decide) ?_
            refine g_calli (va_runV (As := [.int 1, .int 3]) (rest := []) ⟨hx, hb, hml, hown, hts⟩ (c_M_good1 l G w4 mo ra sa (mo_b true) 0 3 hm) (cwV (C := nR_M) 2 hts (nw_of (nw_4 nh_ml_M_26 nh_im_M_good nh_se_M_good nh_in_M nh_co_M_good)) rfl rfl rfl (by decide +kernel) ⟨Nat.le_of_ble_eq_true rfl, Nat.le_of_ble_eq_true rfl⟩) (g_preV (ci := 5) (q := (nR_M, nT_M, 4)) hK hw hS rfl hm _) rfl rfl hl.1 rfl (lv_room (Nat.le_of_ble_eq_true rfl)) nd_M_build_119 ⟨by exact Nat.le_of_ble_eq_true rfl, by exact Nat.le_of_ble_eq_true rfl⟩) hS (fun v9 w9 H locs hp hw hS => ?_)
            obtain ⟨rfl, e9⟩ := hp
            obtain ⟨hJ, hF9⟩ := mo_cod hJ e9
            have hF0 := hF0.tr hF9
            obtain ⟨hm, ⟨g, hra, hg⟩, ⟨fs, hsa, hfs⟩, hrow, hinj⟩ := id hJ
            refine lv_if_ne (tgt := 127) hx hb nd_M_build_122 (by decide) (fun hc => ?_) (fun hc => absurd hc (by decide))
            refine lv_aload_n hx hb nd_M_build_127 rfl (lv_at hl 1 rfl) ?_
            refine xw_get (T := nT_M) (N := 4) (ci := 5) hx hb hT nu_M hown hK.1 hw hm rfl 0 (by decide) (hT _ nh_fl_M_11) (fun _ h9 => h9) rfl nd_M_build_128 ?_
            refine lv_bipush (v := 16) hx hb nd_M_build_131 (by decide) ?_
            refine lv_topi (fun y10 ey11 => ?_)
            obtain rfl : y10 = nI 16 := ey11.trans (rfl)
            refine xw_aaldA (y := (rr 16)) hx hb hK.1 hw 5 hra rfl (vp_in_nI (by omega) (by decide)) (by rw [nI_clamp (by omega)]; exact hg _ (by omega)) nd_M_build_133 ?_
            have hr_16 := (hrow 16 (by omega)).2
            refine lv_iload_n hx hb nd_M_build_134 rfl (lv_at hl 3 rfl) ?_
            refine lv_lload_n hx hb nd_M_build_135 rfl (lv_at hl 4 rfl) ?_
            refine xw_last hx hb hK.1 hB hw hS 0 hr_16 rfl (vp_in_nI (by omega) (by decide)) nd_M_build_136 (fun H locs hw hS => ?_)
            rw [nI_clamp (by omega)] at hw
            obtain ⟨w12, ew13⟩ : ∃ z, z = va_up w9 (rr 16) (some (.inl (G.2.1 0, 3000, .inr (.inl (vp_updL (f 16) x v))))) := ⟨_, rfl⟩
            have hw : g_P G w12 H := by rw [ew13]; exact hw
            have hm : w12 mo = some (.inr (5, [.ref ra, .ref sa, .int (mo_b true), .int 0])) := by rw [ew13, va_up_ne _ _ (xw_ne hm hr_16 (by simp))]; exact hm
            have hr_16 : w12 (rr 16) = some (.inl (G.2.1 0, 3000, .inr (.inl (vp_updL (f 16) x v)))) := by rw [ew13]; exact va_up_self _ _ _
            obtain ⟨hJ, hF9⟩ := mo_row hJ (by omega) ew13
            have hF0 := hF0.tr hF9
            obtain ⟨hm, ⟨g, hra, hg⟩, ⟨fs, hsa, hfs⟩, hrow, hinj⟩ := id hJ
            refine lv_goto (tgt := 171) hx hb nd_M_build_137 (by decide) ?_
            refine lv_aload_n hx hb nd_M_build_171 rfl (lv_at hl 1 rfl) ?_
            refine xw_get (T := nT_M) (N := 4) (ci := 5) hx hb hT nu_M hown hK.1 hw hm rfl 1 (by decide) (hT _ nh_fl_M_14) (fun _ h9 => h9) rfl nd_M_build_172 ?_
            refine lv_bipush (v := 16) hx hb nd_M_build_175 (by decide) ?_
            refine lv_topi (fun y14 ey15 => ?_)
            obtain rfl : y14 = nI 16 := ey15.trans (rfl)
            refine xw_iald hx hb hK.1 hw 4 hsa rfl (vp_in_nI (by omega) (by decide)) nd_M_build_177 ?_
            refine lv_topi (fun y16 ey17 => ?_)
            obtain rfl : y16 = nI (sz 16) := ey17.trans (by rw [nI_clamp (by omega)]; exact hfs _ (by omega))
            have hJ : mo_J G w12 mo ra sa rr true (va_up sz 16 (sz 16)) (va_up f 16 (vp_updL (f 16) x v)) 0 := by rw [va_up_same]; exact hJ
            exact g_iret hx hb hr hlocks hw hS (by rw [sp_build_01 hj3 hx1]; exact ⟨⟨_, hJ, mo_fin hv (mo_upd (fun z hz hne => hv 16 (by omega) z hz))⟩, rfl, hF0⟩) (by exact Nat.le_of_ble_eq_true rfl) (by exact Nat.le_of_ble_eq_true rfl) nd_M_build_178
          · refine lv_aload_n hx hb nd_M_build_102 rfl (lv_at hl 1 rfl) ?_
            refine lv_iload_n hx hb nd_M_build_103 rfl (lv_at hl 3 rfl) ?_
            refine lv_if_lt (tgt := 117) hx hb nd_M_build_104 (by decide) (fun hc => ?_) (fun hc => ?_)
            · refine lv_iconst (v := 0) hx hb nd_M_build_117 (by decide) ?_
              refine lv_iconst (v := 3) hx hb nd_M_build_118 (by decide) ?_
              refine g_calli (va_runV (As := [.int 0, .int 3]) (rest := []) ⟨hx, hb, hml, hown, hts⟩ (c_M_good0 l G w4 mo ra sa (mo_b true) 0 3 hm) (cwV (C := nR_M) 2 hts (nw_of (nw_4 nh_ml_M_26 nh_im_M_good nh_se_M_good nh_in_M nh_co_M_good)) rfl rfl rfl (by decide +kernel) ⟨Nat.le_of_ble_eq_true rfl, Nat.le_of_ble_eq_true rfl⟩) (g_preV (ci := 5) (q := (nR_M, nT_M, 4)) hK hw hS rfl hm _) rfl rfl hl.1 rfl (lv_room (Nat.le_of_ble_eq_true rfl)) nd_M_build_119 ⟨by exact Nat.le_of_ble_eq_true rfl, by exact Nat.le_of_ble_eq_true rfl⟩) hS (fun v9 w9 H locs hp hw hS => ?_)
              obtain ⟨rfl, e9⟩ := hp
              obtain ⟨hJ, hF9⟩ := mo_cod hJ e9
              have hF0 := hF0.tr hF9
              obtain ⟨hm, ⟨g, hra, hg⟩, ⟨fs, hsa, hfs⟩, hrow, hinj⟩ := id hJ
              refine lv_if_ne (tgt := 127) hx hb nd_M_build_122 (by decide) (fun hc => absurd rfl hc) (fun hc => ?_)
              refine lv_iconst (v := 0) hx hb nd_M_build_125 (by decide) ?_
              exact g_iret hx hb hr hlocks hw hS (by rw [sp_build_31 ha]; exact ⟨⟨_, hJ, hv⟩, rfl, hF0⟩) (by exact Nat.le_of_ble_eq_true rfl) (by exact Nat.le_of_ble_eq_true rfl) nd_M_build_126
            · have hc0 := hc
              refine lv_iload_n hx hb nd_M_build_107 rfl (lv_at hl 3 rfl) ?_
              refine lv_iload hx hb nd_M_build_108 (lv_at hl 0 rfl) ?_
              refine lv_icmp_ge (tgt := 117) hx hb nd_M_build_110 (by decide) (fun hc => ?_) (fun hc => absurd ⟨Int32.not_lt.mp hc0, Int32.not_le.mp hc⟩ ha)
              refine lv_iconst (v := 0) hx hb nd_M_build_117 (by decide) ?_
              refine lv_iconst (v := 3) hx hb nd_M_build_118 (by decide) ?_
              refine g_calli (va_runV (As := [.int 0, .int 3]) (rest := []) ⟨hx, hb, hml, hown, hts⟩ (c_M_good0 l G w4 mo ra sa (mo_b true) 0 3 hm) (cwV (C := nR_M) 2 hts (nw_of (nw_4 nh_ml_M_26 nh_im_M_good nh_se_M_good nh_in_M nh_co_M_good)) rfl rfl rfl (by decide +kernel) ⟨Nat.le_of_ble_eq_true rfl, Nat.le_of_ble_eq_true rfl⟩) (g_preV (ci := 5) (q := (nR_M, nT_M, 4)) hK hw hS rfl hm _) rfl rfl hl.1 rfl (lv_room (Nat.le_of_ble_eq_true rfl)) nd_M_build_119 ⟨by exact Nat.le_of_ble_eq_true rfl, by exact Nat.le_of_ble_eq_true rfl⟩) hS (fun v9 w9 H locs hp hw hS => ?_)
              obtain ⟨rfl, e9⟩ := hp
              obtain ⟨hJ, hF9⟩ := mo_cod hJ e9
              have hF0 := hF0.tr hF9
              obtain ⟨hm, ⟨g, hra, hg⟩, ⟨fs, hsa, hfs⟩, hrow, hinj⟩ := id hJ
              refine lv_if_ne (tgt := 127) hx hb nd_M_build_122 (by decide) (fun hc => absurd rfl hc) (fun hc => ?_)
              refine lv_iconst (v := 0) hx hb nd_M_build_125 (by decide) ?_
              exact g_iret hx hb hr hlocks hw hS (by rw [sp_build_31 ha]; exact ⟨⟨_, hJ, hv⟩, rfl, hF0⟩) (by exact Nat.le_of_ble_eq_true rfl) (by exact Nat.le_of_ble_eq_true rfl) nd_M_build_126
      · obtain rfl := hc
        refine lv_aload_n hx hb nd_M_build_49 rfl (lv_at hl 1 rfl) ?_
        refine lv_iload hx hb nd_M_build_50 (lv_at hl 0 rfl) ?_
        refine lv_sipush (v := 3000) hx hb nd_M_build_52 (by decide) ?_
        refine lv_icmp_ge (tgt := 62) hx hb nd_M_build_55 (by decide) (fun hc => ?_) (fun hc => ?_)
        · have hs : ¬ sz 16 < 3000 := fun z => absurd (Int32.not_le.mpr (nI_lt (b := 3000) z (by omega))) (fun z2 => z2 hc)
          refine lv_iconst (v := 0) hx hb nd_M_build_62 (by decide) ?_
          refine lv_iconst (v := 4) hx hb nd_M_build_63 (by decide) ?_
          refine g_calli (va_runV (As := [.int 0, .int 4]) (rest := []) ⟨hx, hb, hml, hown, hts⟩ (c_M_good0 l G w4 mo ra sa (mo_b true) 0 4 hm) (cwV (C := nR_M) 2 hts (nw_of (nw_4 nh_ml_M_26 nh_im_M_good nh_se_M_good nh_in_M nh_co_M_good)) rfl rfl rfl (by decide +kernel) ⟨Nat.le_of_ble_eq_true rfl, Nat.le_of_ble_eq_true rfl⟩) (g_preV (ci := 5) (q := (nR_M, nT_M, 4)) hK hw hS rfl hm _) rfl rfl hl.1 rfl (lv_room (Nat.le_of_ble_eq_true rfl)) nd_M_build_64 ⟨by exact Nat.le_of_ble_eq_true rfl, by exact Nat.le_of_ble_eq_true rfl⟩) hS (fun v9 w9 H locs hp hw hS => ?_)
          obtain ⟨rfl, e9⟩ := hp
          obtain ⟨hJ, hF9⟩ := mo_cod hJ e9
          have hF0 := hF0.tr hF9
          obtain ⟨hm, ⟨g, hra, hg⟩, ⟨fs, hsa, hfs⟩, hrow, hinj⟩ := id hJ
          refine lv_if_ne (tgt := 72) hx hb nd_M_build_67 (by decide) (fun hc => absurd rfl hc) (fun hc => ?_)
          refine lv_iconst (v := 0) hx hb nd_M_build_70 (by decide) ?_
          exact g_iret hx hb hr hlocks hw hS (by rw [sp_build_4 hs]; exact ⟨⟨_, hJ, hv⟩, rfl, hF0⟩) (by exact Nat.le_of_ble_eq_true rfl) (by exact Nat.le_of_ble_eq_true rfl) nd_M_build_71
        · have hs : sz 16 < 3000 := (nI_ltI (b := 3000) (by omega) (by omega)).mp (Int32.not_le.mp hc)
          refine lv_iconst (v := 1) hx hb nd_M_build_58 (by decide) ?_
          refine lv_goto (tgt := 63) hx hb nd_M_build_59 (by decide) ?_
          refine lv_iconst (v := 4) hx hb nd_M_build_63 (by decide) ?_
          refine g_calli (va_runV (As := [.int 1, .int 4]) (rest := []) ⟨hx, hb, hml, hown, hts⟩ (c_M_good1 l G w4 mo ra sa (mo_b true) 0 4 hm) (cwV (C := nR_M) 2 hts (nw_of (nw_4 nh_ml_M_26 nh_im_M_good nh_se_M_good nh_in_M nh_co_M_good)) rfl rfl rfl (by decide +kernel) ⟨Nat.le_of_ble_eq_true rfl, Nat.le_of_ble_eq_true rfl⟩) (g_preV (ci := 5) (q := (nR_M, nT_M, 4)) hK hw hS rfl hm _) rfl rfl hl.1 rfl (lv_room (Nat.le_of_ble_eq_true rfl)) nd_M_build_64 ⟨by exact Nat.le_of_ble_eq_true rfl, by exact Nat.le_of_ble_eq_true rfl⟩) hS (fun v9 w9 H locs hp hw hS => ?_)
          obtain ⟨rfl, e9⟩ := hp
          obtain ⟨hJ, hF9⟩ := mo_cod hJ e9
          have hF0 := hF0.tr hF9
          obtain ⟨hm, ⟨g, hra, hg⟩, ⟨fs, hsa, hfs⟩, hrow, hinj⟩ := id hJ
          refine lv_if_ne (tgt := 72) hx hb nd_M_build_67 (by decide) (fun hc => ?_) (fun hc => absurd hc (by decide))
          refine lv_aload_n hx hb nd_M_build_72 rfl (lv_at hl 1 rfl) ?_
          refine xw_get (T := nT_M) (N := 4) (ci := 5) hx hb hT nu_M hown hK.1 hw hm rfl 0 (by decide) (hT _ nh_fl_M_11) (fun _ h9 => h9) rfl nd_M_build_73 ?_
          refine lv_bipush (v := 16) hx hb nd_M_build_76 (by decide) ?_
          refine lv_topi (fun y10 ey11 => ?_)
          obtain rfl : y10 = nI 16 := ey11.trans (rfl)
          refine xw_aaldA (y := (rr 16)) hx hb hK.1 hw 5 hra rfl (vp_in_nI (by omega) (by decide)) (by rw [nI_clamp (by omega)]; exact hg _ (by omega)) nd_M_build_78 ?_
          have hr_16 := (hrow 16 (by omega)).2
          refine lv_iload hx hb nd_M_build_79 (lv_at hl 0 rfl) ?_
          refine lv_lload_n hx hb nd_M_build_81 rfl (lv_at hl 4 rfl) ?_
          refine xw_last hx hb hK.1 hB hw hS 0 hr_16 rfl (vp_in_nI (by omega) (by decide)) nd_M_build_82 (fun H locs hw hS => ?_)
          rw [nI_clamp (by omega)] at hw
          obtain ⟨w12, ew13⟩ : ∃ z, z = va_up w9 (rr 16) (some (.inl (G.2.1 0, 3000, .inr (.inl (vp_updL (f 16) (sz 16) v))))) := ⟨_, rfl⟩
          have hw : g_P G w12 H := by rw [ew13]; exact hw
          have hm : w12 mo = some (.inr (5, [.ref ra, .ref sa, .int (mo_b true), .int 0])) := by rw [ew13, va_up_ne _ _ (xw_ne hm hr_16 (by simp))]; exact hm
          have hr_16 : w12 (rr 16) = some (.inl (G.2.1 0, 3000, .inr (.inl (vp_updL (f 16) (sz 16) v)))) := by rw [ew13]; exact va_up_self _ _ _
          obtain ⟨hJ, hF9⟩ := mo_row hJ (by omega) ew13
          have hF0 := hF0.tr hF9
          obtain ⟨hm, ⟨g, hra, hg⟩, ⟨fs, hsa, hfs⟩, hrow, hinj⟩ := id hJ
          refine lv_aload_n hx hb nd_M_build_83 rfl (lv_at hl 1 rfl) ?_
          refine xw_get (T := nT_M) (N := 4) (ci := 5) hx hb hT nu_M hown hK.1 hw hm rfl 1 (by decide) (hT _ nh_fl_M_14) (fun _ h9 => h9) rfl nd_M_build_84 ?_
          refine lv_bipush (v := 16) hx hb nd_M_build_87 (by decide) ?_
          refine lv_topi (fun y14 ey15 => ?_)
          obtain rfl : y14 = nI 16 := ey15.trans (rfl)
          refine lv_dup2_11 hx hb nd_M_build_89 rfl rfl ?_
          refine xw_iald hx hb hK.1 hw 4 hsa rfl (vp_in_nI (by omega) (by decide)) nd_M_build_90 ?_
          refine lv_topi (fun y16 ey17 => ?_)
          obtain rfl : y16 = nI (sz 16) := ey17.trans (by rw [nI_clamp (by omega)]; exact hfs _ (by omega))
          refine lv_iconst (v := 1) hx hb nd_M_build_91 (by decide) ?_
          refine lv_iadd hx hb nd_M_build_92 ?_
          refine lv_topi (fun y18 ey19 => ?_)
          obtain rfl : y18 = nI (sz 16 + 1) := ey19.trans (nI_1 _)
          have hsa0 := hsa
          refine xw_iast hx hb hK.1 hB hw hS 4 hsa rfl (vp_in_nI (by omega) (by decide)) nd_M_build_93 (fun H locs hw hS => ?_)
          rw [nI_clamp (by omega)] at hw
          obtain ⟨w20, ew21⟩ : ∃ z, z = va_up w12 sa (some (.inl (G.2.1 4, 17, .inl (upd fs 16 (nI (sz 16 + 1)))))) := ⟨_, rfl⟩
          have hw : g_P G w20 H := by rw [ew21]; exact hw
          have hm : w20 mo = some (.inr (5, [.ref ra, .ref sa, .int (mo_b true), .int 0])) := by rw [ew21, va_up_ne _ _ (xw_ne hm hsa (by simp))]; exact hm
          have hsa : w20 sa = some (.inl (G.2.1 4, 17, .inl (upd fs 16 (nI (sz 16 + 1))))) := by rw [ew21]; exact va_up_self _ _ _
          obtain ⟨hJ, hF9⟩ := mo_siz hJ (by omega) (by omega) hsa0 ew21
          have hF0 := hF0.tr hF9
          obtain ⟨hm, ⟨g, hra, hg⟩, ⟨fs, hsa, hfs⟩, hrow, hinj⟩ := id hJ
          refine lv_goto (tgt := 171) hx hb nd_M_build_94 (by decide) ?_
          refine lv_aload_n hx hb nd_M_build_171 rfl (lv_at hl 1 rfl) ?_
          refine xw_get (T := nT_M) (N := 4) (ci := 5) hx hb hT nu_M hown hK.1 hw hm rfl 1 (by decide) (hT _ nh_fl_M_14) (fun _ h9 => h9) rfl nd_M_build_172 ?_
          refine lv_bipush (v := 16) hx hb nd_M_build_175 (by decide) ?_
          refine lv_topi (fun y22 ey23 => ?_)
          obtain rfl : y22 = nI 16 := ey23.trans (rfl)
          refine xw_iald hx hb hK.1 hw 4 hsa rfl (vp_in_nI (by omega) (by decide)) nd_M_build_177 ?_
          refine lv_topi (fun y24 ey25 => ?_)
          obtain rfl : y24 = nI (sz 16 + 1) := ey25.trans (by rw [nI_clamp (by omega)]; rw [hfs _ (by omega), va_up_self])
          exact g_iret hx hb hr hlocks hw hS (by rw [sp_build_00 hs]; exact ⟨⟨_, hJ, mo_fin hv (mo_upd (fun z hz hne => hv 16 (by omega) z (by omega)))⟩, rfl, hF0⟩) (by exact Nat.le_of_ble_eq_true rfl) (by exact Nat.le_of_ble_eq_true rfl) nd_M_build_178
  · refine lv_aload_n hx hb nd_M_build_0 rfl (lv_at hl 0 rfl) ?_
    refine lv_iload_n hx hb nd_M_build_1 rfl (lv_at hl 1 rfl) ?_
    refine lv_if_lt (tgt := 14) hx hb nd_M_build_2 (by decide) (fun hp0 => ?_) (fun hp0 => ?_)
    · refine lv_iconst (v := 0) hx hb nd_M_build_14 (by decide) ?_
      refine lv_iconst (v := 1) hx hb nd_M_build_15 (by decide) ?_
      refine g_calli (va_runV (As := [.int 0, .int 1]) (rest := []) ⟨hx, hb, hml, hown, hts⟩ (c_M_good0 l G w mo ra sa (mo_b op) cd 1 hm) (cwV (C := nR_M) 2 hts (nw_of (nw_4 nh_ml_M_26 nh_im_M_good nh_se_M_good nh_in_M nh_co_M_good)) rfl rfl rfl (by decide +kernel) ⟨Nat.le_of_ble_eq_true rfl, Nat.le_of_ble_eq_true rfl⟩) (g_preV (ci := 5) (q := (nR_M, nT_M, 4)) hK hw hS rfl hm _) rfl rfl hl.1 rfl (lv_room (Nat.le_of_ble_eq_true rfl)) nd_M_build_16 ⟨by exact Nat.le_of_ble_eq_true rfl, by exact Nat.le_of_ble_eq_true rfl⟩) hS (fun v9 w1 H locs hp hw hS => ?_)
      obtain ⟨rfl, e9⟩ := hp
      obtain ⟨hJ, hF9⟩ := mo_cod hJ e9
      have hF0 := hF0.tr hF9
      obtain ⟨hm, ⟨g, hra, hg⟩, ⟨fs, hsa, hfs⟩, hrow, hinj⟩ := id hJ
      refine lv_if_eq (tgt := 34) hx hb nd_M_build_19 (by decide) (fun hc => ?_) (fun hc => absurd rfl hc)
      refine lv_iconst (v := 0) hx hb nd_M_build_34 (by decide) ?_
      exact g_iret hx hb hr hlocks hw hS (by rw [sp_build_1 hk]; exact ⟨⟨_, hJ, hv⟩, rfl, hF0⟩) (by exact Nat.le_of_ble_eq_true rfl) (by exact Nat.le_of_ble_eq_true rfl) nd_M_build_35
    · refine lv_iload_n hx hb nd_M_build_5 rfl (lv_at hl 1 rfl) ?_
      refine lv_iconst (v := 2) hx hb nd_M_build_6 (by decide) ?_
      refine lv_icmp_gt (tgt := 14) hx hb nd_M_build_7 (by decide) (fun hc => ?_) (fun hc => absurd ⟨Int32.not_lt.mp hp0, Int32.not_lt.mp hc⟩ hk)
      refine lv_iconst (v := 0) hx hb nd_M_build_14 (by decide) ?_
      refine lv_iconst (v := 1) hx hb nd_M_build_15 (by decide) ?_
      refine g_calli (va_runV (As := [.int 0, .int 1]) (rest := []) ⟨hx, hb, hml, hown, hts⟩ (c_M_good0 l G w mo ra sa (mo_b op) cd 1 hm) (cwV (C := nR_M) 2 hts (nw_of (nw_4 nh_ml_M_26 nh_im_M_good nh_se_M_good nh_in_M nh_co_M_good)) rfl rfl rfl (by decide +kernel) ⟨Nat.le_of_ble_eq_true rfl, Nat.le_of_ble_eq_true rfl⟩) (g_preV (ci := 5) (q := (nR_M, nT_M, 4)) hK hw hS rfl hm _) rfl rfl hl.1 rfl (lv_room (Nat.le_of_ble_eq_true rfl)) nd_M_build_16 ⟨by exact Nat.le_of_ble_eq_true rfl, by exact Nat.le_of_ble_eq_true rfl⟩) hS (fun v9 w1 H locs hp hw hS => ?_)
      obtain ⟨rfl, e9⟩ := hp
      obtain ⟨hJ, hF9⟩ := mo_cod hJ e9
      have hF0 := hF0.tr hF9
      obtain ⟨hm, ⟨g, hra, hg⟩, ⟨fs, hsa, hfs⟩, hrow, hinj⟩ := id hJ
      refine lv_if_eq (tgt := 34) hx hb nd_M_build_19 (by decide) (fun hc => ?_) (fun hc => absurd rfl hc)
      refine lv_iconst (v := 0) hx hb nd_M_build_34 (by decide) ?_
      exact g_iret hx hb hr hlocks hw hS (by rw [sp_build_1 hk]; exact ⟨⟨_, hJ, hv⟩, rfl, hF0⟩) (by exact Nat.le_of_ble_eq_true rfl) (by exact Nat.le_of_ble_eq_true rfl) nd_M_build_35
