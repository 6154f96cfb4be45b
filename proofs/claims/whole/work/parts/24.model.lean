set_option maxHeartbeats 4000000 in
set_option maxRecDepth 100000 in
theorem c_M_isSlot1 (l : Launch) (G : g_G) (w : xw_W) (a : Int32) (ha : (0 ≤ a ∧ a ≤ 15)) : Met l ny_M_isSlot nw_M_isSlot ({ frames := 0, cells := 0, slots := 0, locals := 0 }) (g_Pc G w [.int a]) (g_Qi G (fun v9 w' => v9 = 1 ∧ w' = w)) 0 0 (xw_A (g_b G)) := by
  refine g_met (by decide) (Nat.le_of_ble_eq_true rfl) rfl ?_
  intro p e s m below meth c ls hx hb hr hts hown hlocks hin hml hl hK hB hw hS
  have hT : ∀ w ∈ nw_T, w.before _ s = true := fun w h => hts w (List.mem_cons_of_mem _ h)
  have hown : s.vm.findClass "RadixShelfModel" = some m.cls := hown
  have hl : lv_has ls 1 [(0, .int a)] := hl
  refine lv_iload_n hx hb nd_M_isSlot_0 rfl (lv_at hl 0 rfl) ?_
  refine lv_if_lt (tgt := 14) hx hb nd_M_isSlot_1 (by decide) (fun hc => absurd hc (Int32.not_lt.mpr ha.1)) (fun hc => ?_)
  refine lv_iload_n hx hb nd_M_isSlot_4 rfl (lv_at hl 0 rfl) ?_
  refine lv_bipush (v := 16) hx hb nd_M_isSlot_5 (by decide) ?_
  refine lv_icmp_ge (tgt := 14) hx hb nd_M_isSlot_7 (by decide) (fun hc => absurd (sp_lt16.mpr ha.2) (Int32.not_lt.mpr hc)) (fun hc => ?_)
  refine lv_iconst (v := 1) hx hb nd_M_isSlot_10 (by decide) ?_
  refine lv_goto (tgt := 15) hx hb nd_M_isSlot_11 (by decide) ?_
  exact g_zret hx hb hr rfl hlocks hw hS (⟨rfl, rfl⟩) (by exact Nat.le_of_ble_eq_true rfl) (by exact Nat.le_of_ble_eq_true rfl) nd_M_isSlot_15

set_option maxHeartbeats 4000000 in
set_option maxRecDepth 100000 in
theorem c_M_isSlot0 (l : Launch) (G : g_G) (w : xw_W) (a : Int32) (ha : ¬ (0 ≤ a ∧ a ≤ 15)) : Met l ny_M_isSlot nw_M_isSlot ({ frames := 0, cells := 0, slots := 0, locals := 0 }) (g_Pc G w [.int a]) (g_Qi G (fun v9 w' => v9 = 0 ∧ w' = w)) 0 0 (xw_A (g_b G)) := by
  refine g_met (by decide) (Nat.le_of_ble_eq_true rfl) rfl ?_
  intro p e s m below meth c ls hx hb hr hts hown hlocks hin hml hl hK hB hw hS
  have hT : ∀ w ∈ nw_T, w.before _ s = true := fun w h => hts w (List.mem_cons_of_mem _ h)
  have hown : s.vm.findClass "RadixShelfModel" = some m.cls := hown
  have hl : lv_has ls 1 [(0, .int a)] := hl
  refine lv_iload_n hx hb nd_M_isSlot_0 rfl (lv_at hl 0 rfl) ?_
  refine lv_if_lt (tgt := 14) hx hb nd_M_isSlot_1 (by decide) (fun hc => ?_) (fun hc => ?_)
  · refine lv_iconst (v := 0) hx hb nd_M_isSlot_14 (by decide) ?_
    exact g_zret hx hb hr rfl hlocks hw hS (⟨rfl, rfl⟩) (by exact Nat.le_of_ble_eq_true rfl) (by exact Nat.le_of_ble_eq_true rfl) nd_M_isSlot_15
  · have hc0 := hc
    refine lv_iload_n hx hb nd_M_isSlot_4 rfl (lv_at hl 0 rfl) ?_
    refine lv_bipush (v := 16) hx hb nd_M_isSlot_5 (by decide) ?_
    refine lv_icmp_ge (tgt := 14) hx hb nd_M_isSlot_7 (by decide) (fun hc => ?_) (fun hc => absurd ⟨Int32.not_lt.mp hc0, sp_lt16.mp (Int32.not_le.mp hc)⟩ ha)
    refine lv_iconst (v := 0) hx hb nd_M_isSlot_14 (by decide) ?_
    exact g_zret hx hb hr rfl hlocks hw hS (⟨rfl, rfl⟩) (by exact Nat.le_of_ble_eq_true rfl) (by exact Nat.le_of_ble_eq_true rfl) nd_M_isSlot_15

set_option maxHeartbeats 4000000 in
set_option maxRecDepth 100000 in
theorem c_M_good1 (l : Launch) (G : g_G) (w : xw_W) (mo ra sa : Nat) (ob cd c0 : Int32) (hm : w mo = some (.inr (5, [.ref ra, .ref sa, .int ob, .int cd]))) : Met l ny_M_good nw_M_good ({ frames := 0, cells := 0, slots := 0, locals := 0 }) (g_Pc G w [.ref mo, .int 1, .int c0]) (g_Qi G (fun v9 w' => v9 = 1 ∧ w' = va_up w mo (some (.inr (5, [.ref ra, .ref sa, .int ob, .int 0]))))) 0 0 (xw_A (g_b G)) := by
  refine g_met (by decide) (Nat.le_of_ble_eq_true rfl) rfl ?_
  intro p e s m below meth c ls hx hb hr hts hown hlocks hin hml hl hK hB hw hS
  have hT : ∀ w ∈ nw_T, w.before _ s = true := fun w h => hts w (List.mem_cons_of_mem _ h)
  have hown : s.vm.findClass "RadixShelfModel" = some m.cls := hown
  have hl : lv_has ls 3 [(0, .ref mo), (1, .int 1), (2, .int c0)] := hl
  refine lv_aload_n hx hb nd_M_good_0 rfl (lv_at hl 0 rfl) ?_
  refine lv_iload_n hx hb nd_M_good_1 rfl (lv_at hl 1 rfl) ?_
  refine lv_if_eq (tgt := 9) hx hb nd_M_good_2 (by decide) (fun hc => absurd hc (by decide)) (fun hc => ?_)
  refine lv_iconst (v := 0) hx hb nd_M_good_5 (by decide) ?_
  refine lv_goto (tgt := 10) hx hb nd_M_good_6 (by decide) ?_
  refine xw_put (T := nT_M) (N := 4) (ci := 5) (v := .int 0) (ty := .int) hx hb hT nu_M nt_M nk_M nn_M hown hK.1 hB hw hS hm rfl 3 (by decide) (hT _ nh_fl_M_18) (fun _ h9 => h9) rfl (by decide +kernel) rfl rfl (Nat.le_of_ble_eq_true rfl) nd_M_good_10 (fun H locs hw hS => ?_)
  obtain ⟨w1, ew2⟩ : ∃ z, z = va_up w mo (some (.inr (5, [.ref ra, .ref sa, .int ob, .int 0]))) := ⟨_, rfl⟩
  have hw : g_P G w1 H := by rw [ew2]; exact hw
  have hm : w1 mo = some (.inr (5, [.ref ra, .ref sa, .int ob, .int 0])) := by rw [ew2]; exact va_up_self _ _ _
  refine lv_iload_n hx hb nd_M_good_13 rfl (lv_at hl 1 rfl) ?_
  exact g_zret hx hb hr rfl hlocks hw hS (⟨rfl, ew2⟩) (by exact Nat.le_of_ble_eq_true rfl) (by exact Nat.le_of_ble_eq_true rfl) nd_M_good_14

set_option maxHeartbeats 4000000 in
set_option maxRecDepth 100000 in
theorem c_M_good0 (l : Launch) (G : g_G) (w : xw_W) (mo ra sa : Nat) (ob cd c0 : Int32) (hm : w mo = some (.inr (5, [.ref ra, .ref sa, .int ob, .int cd]))) : Met l ny_M_good nw_M_good ({ frames := 0, cells := 0, slots := 0, locals := 0 }) (g_Pc G w [.ref mo, .int 0, .int c0]) (g_Qi G (fun v9 w' => v9 = 0 ∧ w' = va_up w mo (some (.inr (5, [.ref ra, .ref sa, .int ob, .int c0]))))) 0 0 (xw_A (g_b G)) := by
  refine g_met (by decide) (Nat.le_of_ble_eq_true rfl) rfl ?_
  intro p e s m below meth c ls hx hb hr hts hown hlocks hin hml hl hK hB hw hS
  have hT : ∀ w ∈ nw_T, w.before _ s = true := fun w h => hts w (List.mem_cons_of_mem _ h)
  have hown : s.vm.findClass "RadixShelfModel" = some m.cls := hown
  have hl : lv_has ls 3 [(0, .ref mo), (1, .int 0), (2, .int c0)] := hl
  refine lv_aload_n hx hb nd_M_good_0 rfl (lv_at hl 0 rfl) ?_
  refine lv_iload_n hx hb nd_M_good_1 rfl (lv_at hl 1 rfl) ?_
  refine lv_if_eq (tgt := 9) hx hb nd_M_good_2 (by decide) (fun hc => ?_) (fun hc => absurd rfl hc)
  refine lv_iload_n hx hb nd_M_good_9 rfl (lv_at hl 2 rfl) ?_
  refine xw_put (T := nT_M) (N := 4) (ci := 5) (v := .int c0) (ty := .int) hx hb hT nu_M nt_M nk_M nn_M hown hK.1 hB hw hS hm rfl 3 (by decide) (hT _ nh_fl_M_18) (fun _ h9 => h9) rfl (by decide +kernel) rfl rfl (Nat.le_of_ble_eq_true rfl) nd_M_good_10 (fun H locs hw hS => ?_)
  obtain ⟨w1, ew2⟩ : ∃ z, z = va_up w mo (some (.inr (5, [.ref ra, .ref sa, .int ob, .int c0]))) := ⟨_, rfl⟩
  have hw : g_P G w1 H := by rw [ew2]; exact hw
  have hm : w1 mo = some (.inr (5, [.ref ra, .ref sa, .int ob, .int c0])) := by rw [ew2]; exact va_up_self _ _ _
  refine lv_iload_n hx hb nd_M_good_13 rfl (lv_at hl 1 rfl) ?_
  exact g_zret hx hb hr rfl hlocks hw hS (⟨rfl, ew2⟩) (by exact Nat.le_of_ble_eq_true rfl) (by exact Nat.le_of_ble_eq_true rfl) nd_M_good_14

set_option maxHeartbeats 4000000 in
set_option maxRecDepth 100000 in
theorem c_M_thrown (l : Launch) (G : g_G) (w : xw_W) (mo ra sa : Nat) (ob cd : Int32) (hm : w mo = some (.inr (5, [.ref ra, .ref sa, .int ob, .int cd]))) : Met l ny_M_thrown nw_M_thrown ({ frames := 0, cells := 0, slots := 0, locals := 0 }) (g_Pc G w [.ref mo]) (g_Qi G (fun v9 w' => v9 = cd ∧ w' = w)) 0 0 (xw_A (g_b G)) := by
  refine g_met (by decide) (Nat.le_of_ble_eq_true rfl) rfl ?_
  intro p e s m below meth c ls hx hb hr hts hown hlocks hin hml hl hK hB hw hS
  have hT : ∀ w ∈ nw_T, w.before _ s = true := fun w h => hts w (List.mem_cons_of_mem _ h)
  have hown : s.vm.findClass "RadixShelfModel" = some m.cls := hown
  have hl : lv_has ls 1 [(0, .ref mo)] := hl
  refine lv_aload_n hx hb nd_M_thrown_0 rfl (lv_at hl 0 rfl) ?_
  refine xw_get (T := nT_M) (N := 4) (ci := 5) hx hb hT nu_M hown hK.1 hw hm rfl 3 (by decide) (hT _ nh_fl_M_18) (fun _ h9 => h9) rfl nd_M_thrown_1 ?_
  exact g_iret hx hb hr hlocks hw hS (⟨rfl, rfl⟩) (by exact Nat.le_of_ble_eq_true rfl) (by exact Nat.le_of_ble_eq_true rfl) nd_M_thrown_4

theorem va_up_same {α : Type} (f : Nat → α) (k : Nat) : va_up f k (f k) = f := by
  funext x
  by_cases hx : x = k
  · rw [hx, va_up_self]
  · rw [va_up_ne _ _ hx]

set_option maxHeartbeats 4000000 in
set_option maxRecDepth 100000 in
theorem c_M_copy (l : Launch) (G : g_G) (w : xw_W) (mo ra sa : Nat) (rr : Nat → Nat) (op : Bool) (sz : Nat → Nat) (f : Nat → Nat → Int64) (cd : Int32) (a b : Nat) (hba : a < 17) (hbb : b < 17) (hJ : mo_J G w mo ra sa rr op sz f cd) : Met l ny_M_copy nw_M_copy ({ frames := 0, cells := 0, slots := 0, locals := 0 }) (g_Pc G w [.ref mo, .int (nI a), .int (nI b)]) (g_Qv G (fun w' => ∃ h : Nat → Int64, mo_J G w' mo ra sa rr op (va_up sz a (sz b)) (va_up f a h) cd ∧ (∀ z, z < sz b → h z = f b z) ∧ mo_F mo sa rr w w')) 0 0 (xw_A (g_b G)) := by
  refine g_met (by decide) (Nat.le_of_ble_eq_true rfl) rfl ?_
  intro p e s m below meth c ls hx hb hr hts hown hlocks hin hml hl hK hB hw hS
  have hT : ∀ w ∈ nw_T, w.before _ s = true := fun w h => hts w (List.mem_cons_of_mem _ h)
  have hown : s.vm.findClass "RadixShelfModel" = some m.cls := hown
  have hl : lv_has ls 4 [(0, .ref mo), (1, .int (nI a)), (2, .int (nI b))] := hl
  have hb3 : sz b ≤ 3000 := (hJ.2.2.2.1 b hbb).1
  refine lv_iconst (v := 0) hx hb nd_M_copy_0 (by decide) ?_
  refine lv_istore_n hx hb nd_M_copy_1 rfl hl (by decide) (lv' := [(3, .int 0), (0, .ref mo), (1, .int (nI a)), (2, .int (nI b))]) rfl (fun ls hl => ?_)
  have loop : ∀ (m9 i : Nat) (h : Nat → Int64) (wl : xw_W) (ls : Array Slot) (H : Heap) (locs : List Loc), m9 + i = sz b → mo_J G wl mo ra sa rr op sz (va_up f a h) cd → mo_F mo sa rr w wl → (∀ z, z < i → h z = f b z) → (a = b → ∀ z, h z = f b z) → lv_has ls 4 [(3, .int (nI i)), (0, .ref mo), (1, .int (nI a)), (2, .int (nI b))] → g_P G wl H → g_S G s.heap H locs → W p l e ({ frames := 0, cells := 0, slots := 0, locals := 0 }) s m [.ref mo, .int (nI a), .int (nI b)].toArray below meth c H locs (0) (0) (MQ below (g_Qv G (fun w' => ∃ h : Nat → Int64, mo_J G w' mo ra sa rr op (va_up sz a (sz b)) (va_up f a h) cd ∧ (∀ z, z < sz b → h z = f b z) ∧ mo_F mo sa rr w w')) [.ref mo, .int (nI a), .int (nI b)].toArray s 0 0 (xw_A (g_b G))) (F0 m 2 ls []) := by
    intro m9
    induction m9 with
    | zero =>
      intro i h wl ls H locs hmi hJ hF hh1 hh2 hl hw hS
      obtain ⟨hm, ⟨g, hra, hg⟩, ⟨fs, hsa, hfs⟩, hrow, hinj⟩ := id hJ
      refine lv_iload_n hx hb nd_M_copy_2 rfl (lv_at hl 0 rfl) ?_
      refine lv_aload_n hx hb nd_M_copy_3 rfl (lv_at hl 1 rfl) ?_
      refine xw_get (T := nT_M) (N := 4) (ci := 5) hx hb hT nu_M hown hK.1 hw hm rfl 1 (by decide) (hT _ nh_fl_M_14) (fun _ h9 => h9) rfl nd_M_copy_4 ?_
      refine lv_iload_n hx hb nd_M_copy_7 rfl (lv_at hl 3 rfl) ?_
      refine xw_iald hx hb hK.1 hw 4 hsa rfl (vp_in_nI (by omega) (by decide)) nd_M_copy_8 ?_
      refine lv_topi (fun y1 ey2 => ?_)
      obtain rfl : y1 = nI (sz b) := ey2.trans (by rw [nI_clamp (by omega)]; exact hfs _ hbb)
      refine lv_icmp_ge (tgt := 34) hx hb nd_M_copy_9 (by decide) (fun hc => ?_) (fun hc => ?_)
      · refine lv_aload_n hx hb nd_M_copy_34 rfl (lv_at hl 1 rfl) ?_
        refine xw_get (T := nT_M) (N := 4) (ci := 5) hx hb hT nu_M hown hK.1 hw hm rfl 1 (by decide) (hT _ nh_fl_M_14) (fun _ h9 => h9) rfl nd_M_copy_35 ?_
        refine lv_iload_n hx hb nd_M_copy_38 rfl (lv_at hl 2 rfl) ?_
        refine lv_aload_n hx hb nd_M_copy_39 rfl (lv_at hl 1 rfl) ?_
        refine xw_get (T := nT_M) (N := 4) (ci := 5) hx hb hT nu_M hown hK.1 hw hm rfl 1 (by decide) (hT _ nh_fl_M_14) (fun _ h9 => h9) rfl nd_M_copy_40 ?_
        refine lv_iload_n hx hb nd_M_copy_43 rfl (lv_at hl 3 rfl) ?_
        refine xw_iald hx hb hK.1 hw 4 hsa rfl (vp_in_nI (by omega) (by decide)) nd_M_copy_44 ?_
        refine lv_topi (fun y3 ey4 => ?_)
        obtain rfl : y3 = nI (sz b) := ey4.trans (by rw [nI_clamp (by omega)]; exact hfs _ hbb)
        have hsa0 := hsa
        refine xw_iast hx hb hK.1 hB hw hS 4 hsa rfl (vp_in_nI (by omega) (by decide)) nd_M_copy_45 (fun H locs hw hS => ?_)
        rw [nI_clamp (by omega)] at hw
        obtain ⟨w5, ew6⟩ : ∃ z, z = va_up wl sa (some (.inl (G.2.1 4, 17, .inl (upd fs a (nI (sz b)))))) := ⟨_, rfl⟩
        have hw : g_P G w5 H := by rw [ew6]; exact hw
        have hm : w5 mo = some (.inr (5, [.ref ra, .ref sa, .int (mo_b op), .int cd])) := by rw [ew6, va_up_ne _ _ (xw_ne hm hsa (by simp))]; exact hm
        have hsa : w5 sa = some (.inl (G.2.1 4, 17, .inl (upd fs a (nI (sz b))))) := by rw [ew6]; exact va_up_self _ _ _
        obtain ⟨hJ2, hF2⟩ := mo_siz hJ hba hb3 hsa0 ew6
        exact g_vret hx hb hr hlocks hw hS (⟨h, hJ2, fun z hz => hh1 z (by omega), hF.tr hF2⟩) (by exact Nat.le_of_ble_eq_true rfl) (by exact Nat.le_of_ble_eq_true rfl) nd_M_copy_46
      · exact absurd (nI_le (by omega) (by omega)) hc
    | succ m9 ih =>
      intro i h wl ls H locs hmi hJ hF hh1 hh2 hl hw hS
      obtain ⟨hm, ⟨g, hra, hg⟩, ⟨fs, hsa, hfs⟩, hrow, hinj⟩ := id hJ
      refine lv_iload_n hx hb nd_M_copy_2 rfl (lv_at hl 0 rfl) ?_
      refine lv_aload_n hx hb nd_M_copy_3 rfl (lv_at hl 1 rfl) ?_
      refine xw_get (T := nT_M) (N := 4) (ci := 5) hx hb hT nu_M hown hK.1 hw hm rfl 1 (by decide) (hT _ nh_fl_M_14) (fun _ h9 => h9) rfl nd_M_copy_4 ?_
      refine lv_iload_n hx hb nd_M_copy_7 rfl (lv_at hl 3 rfl) ?_
      refine xw_iald hx hb hK.1 hw 4 hsa rfl (vp_in_nI (by omega) (by decide)) nd_M_copy_8 ?_
      refine lv_topi (fun y1 ey2 => ?_)
      obtain rfl : y1 = nI (sz b) := ey2.trans (by rw [nI_clamp (by omega)]; exact hfs _ hbb)
      refine lv_icmp_ge (tgt := 34) hx hb nd_M_copy_9 (by decide) (fun hc => ?_) (fun hc => ?_)
      · exact absurd hc (nI_ge (by omega) (by omega))
      · refine lv_aload_n hx hb nd_M_copy_12 rfl (lv_at hl 1 rfl) ?_
        refine xw_get (T := nT_M) (N := 4) (ci := 5) hx hb hT nu_M hown hK.1 hw hm rfl 0 (by decide) (hT _ nh_fl_M_11) (fun _ h9 => h9) rfl nd_M_copy_13 ?_
        refine lv_iload_n hx hb nd_M_copy_16 rfl (lv_at hl 2 rfl) ?_
        refine xw_aaldA (y := (rr a)) hx hb hK.1 hw 5 hra rfl (vp_in_nI (by omega) (by decide)) (by rw [nI_clamp (by omega)]; exact hg _ hba) nd_M_copy_17 ?_
        have hr_a := (hrow a hba).2
        refine lv_iload_n hx hb nd_M_copy_18 rfl (lv_at hl 0 rfl) ?_
        refine lv_aload_n hx hb nd_M_copy_19 rfl (lv_at hl 1 rfl) ?_
        refine xw_get (T := nT_M) (N := 4) (ci := 5) hx hb hT nu_M hown hK.1 hw hm rfl 0 (by decide) (hT _ nh_fl_M_11) (fun _ h9 => h9) rfl nd_M_copy_20 ?_
        refine lv_iload_n hx hb nd_M_copy_23 rfl (lv_at hl 3 rfl) ?_
        refine xw_aaldA (y := (rr b)) hx hb hK.1 hw 5 hra rfl (vp_in_nI (by omega) (by decide)) (by rw [nI_clamp (by omega)]; exact hg _ hbb) nd_M_copy_24 ?_
        have hr_b := (hrow b hbb).2
        refine lv_iload_n hx hb nd_M_copy_25 rfl (lv_at hl 0 rfl) ?_
        refine xw_lald hx hb hK.1 hw 0 hr_b rfl (vp_in_nI (by omega) (by decide)) nd_M_copy_26 ?_
        have hval : va_up f a h b i = f b i := by
          by_cases e9 : a = b
          · rw [← e9, va_up_self, e9]; exact hh2 e9 i
          · rw [va_up_ne _ _ (Ne.symm e9)]
        refine lv_topl (fun y3 ey4 => ?_)
        obtain rfl : y3 = f b i := ey4.trans (by rw [nI_clamp (by omega)]; exact hval)
        refine xw_last hx hb hK.1 hB hw hS 0 hr_a rfl (vp_in_nI (by omega) (by decide)) nd_M_copy_27 (fun H locs hw hS => ?_)
        rw [nI_clamp (by omega)] at hw
        obtain ⟨w5, ew6⟩ : ∃ z, z = va_up wl (rr a) (some (.inl (G.2.1 0, 3000, .inr (.inl (vp_updL (va_up f a h a) i (f b i)))))) := ⟨_, rfl⟩
        have hw : g_P G w5 H := by rw [ew6]; exact hw
        have hm : w5 mo = some (.inr (5, [.ref ra, .ref sa, .int (mo_b op), .int cd])) := by rw [ew6, va_up_ne _ _ (xw_ne hm hr_a (by simp))]; exact hm
        have hr_a : w5 (rr a) = some (.inl (G.2.1 0, 3000, .inr (.inl (vp_updL (va_up f a h a) i (f b i))))) := by rw [ew6]; exact va_up_self _ _ _
        obtain ⟨hJ2, hF2⟩ := mo_row hJ hba ew6
        rw [bx_uu, va_up_self] at hJ2
        refine lv_iinc (k := 0) hx hb nd_M_copy_28 hl rfl rfl (by decide) (lv' := [(3, .int ((nI i) + 1)), (0, .ref mo), (1, .int (nI a)), (2, .int (nI b))]) rfl (fun ls hl => ?_)
        rw [nI_1] at hl
        refine lv_goto (tgt := 2) hx hb nd_M_copy_31 (by decide) ?_
        refine ih (i + 1) (vp_updL h i (f b i)) w5 ls H locs (by omega) hJ2 (hF.tr hF2) (fun z hz => ?_) (fun e9 z => ?_) hl hw hS
        · by_cases ez : z = i
          · rw [ez]; exact pk_uLs
          · rw [pk_uLn ez]; exact hh1 z (by omega)
        · by_cases ez : z = i
          · rw [ez]; exact pk_uLs
          · rw [pk_uLn ez]; exact hh2 e9 z
  exact loop (sz b) 0 (f a) w ls s.heap [] (by omega) (by rw [va_up_same]; exact hJ) mo_F.rf (fun z hz => absurd hz (by omega)) (fun e9 z => by rw [e9]) hl hw hS
