theorem sh_init {G : g_G} {w1 w' : xw_W} {h e0 sl rt lf : Nat} {fs : List Value} {f : Nat → Option Nat} (hSo : tr_So (G.2.1 0) (G.2.1 1) (G.2.1 2) (fun _ => True) w1 e0 0 rt lf 0 0 (fun _ => 0)) (hWi : tr_Wi w1 0) (h1 : w1 h = some (.inr (4, fs))) (hs1 : w1 sl = none) (hh : w' h = some (.inr (4, [.ref e0, .ref sl, .null, .int 0]))) (hs : w' sl = some (.inl (G.2.1 3, 16, .inr (.inr (.inr (.inr f)))))) (hk : ∀ a, a ≠ h → a ≠ sl → w' a = w1 a) (hf : ∀ j, j < 16 → f j = some e0) :
    sh_I G w' h e0 sl false (fun _ => 0) (fun _ _ => 0) 0 none f := by
  have sm : ∀ k m, tr_isN w1 k m → tr_Same w1 w' m := fun k m hm => by
    obtain ⟨e1, he1⟩ := hWi.1 k m hm
    obtain ⟨s, x, hx⟩ := hm.2
    exact ⟨hk _ (tr_isN_ne hm h1 (by decide)) (xw_nn hx hs1), hk _ (tr_ne_kind he1 h1) (xw_nn he1 hs1)⟩
  have back : ∀ k m, tr_isN w' k m → tr_isN w1 k m := fun k m hm => by
    have n2 : m ≠ sl := by
      obtain ⟨s, x, hx⟩ := hm.2
      exact Ne.symm (tr_ne_kind hs hx)
    exact tr_isN_eq (hk _ (tr_isN_ne hm hh (by decide)) n2).symm hm
  have s0 : tr_So (G.2.1 0) (G.2.1 1) (G.2.1 2) (sh_Z none) w' e0 0 rt lf 0 0 (fun _ => 0) := tr_So_Z (tr_So_same hSo (hk _ (hSo.ne4 h1) (xw_nn hSo.1 hs1)) (fun k m hm _ => sm k m hm)) (fun _ _ _ _ _ _ z => by cases z)
  refine ⟨by rw [nI_0]; exact hh, hs, tr_Wi_all hWi sm back, fun k m hm => ?_, rfl, fun k hk9 => ⟨e0, hf k hk9, fun d z => (by cases z), 0, rt, lf, 0, s0⟩, ⟨fun d z => (by cases z), 0, rt, lf, s0⟩, fun q d z => by cases z⟩
  obtain ⟨e1, he1⟩ := hWi.1 k m (back k m hm)
  rw [(sm _ _ (back k m hm)).arr]
  exact xw_nn he1 hs1

set_option maxHeartbeats 4000000 in
set_option maxRecDepth 100000 in
theorem c_S_init (l : Launch) (G : g_G) (w : xw_W) (h : Nat) (hno : ∀ k n, ¬ tr_isN w k n) (hh : w h = some (.inr (4, [.null, .null, .null, .int 0]))) : Met l ny_S_init nw_S_init ({ frames := 3, cells := 8, slots := 123, locals := 64 }) (g_Pc G w [.ref h]) (g_Qv G (fun w' => ∃ e0 sl, sh_S G w' h e0 sl (false, fun _ => 0, fun _ _ => 0) 0)) 8 123 (xw_A (g_b G)) := by
  refine g_met (by decide) (Nat.le_of_ble_eq_true rfl) rfl ?_
  intro p e s m below meth c ls hx hb hr hts hown hlocks hin hml hl hK hB hw hS
  have hT : ∀ w ∈ nw_T, w.before _ s = true := fun w h => hts w (List.mem_cons_of_mem _ h)
  have hown : s.vm.findClass "RadixShelf" = some m.cls := hown
  have hl : lv_has ls 2 [(0, .ref h)] := hl
  refine lv_aload_n hx hb nd_S_init_0 rfl (lv_at hl 0 rfl) ?_
  refine W.objInit hx hb hown (hT _ nh_ml_S_3) (hT _ nh_im_obj) (hT _ nh_co_obj) rfl (by rw [hml]; exact hl.1) rfl nd_S_init_1 (Nat.le_of_ble_eq_true rfl) (Nat.le_of_ble_eq_true rfl) ?_
  refine W.eq (g2 := F0 m 4 ls []) rfl ?_
  refine lv_aload_n hx hb nd_S_init_4 rfl (lv_at hl 0 rfl) ?_
  refine g_callr (va_runS (As := []) (rest := [.ref h]) ⟨hx, hb, hml, hown, hts⟩ (c_S_blankSequence l G w hno) (cwS 0 hts (nw_of (nw_3 nh_ml_S_9 nh_st_S_blankSequence nh_in_S nh_co_S_blankSequence)) rfl rfl rfl (by decide +kernel) ⟨Nat.le_of_ble_eq_true rfl, Nat.le_of_ble_eq_true rfl⟩) (g_preS hK hw hS _) rfl rfl hl.1 rfl (lv_room (Nat.le_of_ble_eq_true rfl)) nd_S_init_5 ⟨by exact Nat.le_of_ble_eq_true rfl, by exact Nat.le_of_ble_eq_true rfl⟩) hS (fun e0 w1 H locs hp hw hS => ?_)
  obtain ⟨rt, lf, hSo, hWi, ol⟩ := hp
  have hh := ol _ _ hh
  have h1 := hh
  refine xw_putF (T := nT_S) (N := 4) (ci := 4) (v := .ref e0) (ty := (.object "RadixShelf$Sequence")) hx hb hT nu_S nt_S nk_S nn_S hown hK.1 hB hw hS hh rfl 0 (by decide) (hT _ nh_fl_S_13) (fun _ h9 => h9) rfl hin rfl (by decide +kernel) rfl rfl (Nat.le_of_ble_eq_true rfl) nd_S_init_8 (fun H locs hw hS => ?_)
  obtain ⟨w2, ew3⟩ : ∃ z, z = va_up w1 h (some (.inr (4, [.ref e0, .null, .null, .int 0]))) := ⟨_, rfl⟩
  have hw : g_P G w2 H := by rw [ew3]; exact hw
  have hh : w2 h = some (.inr (4, [.ref e0, .null, .null, .int 0])) := by rw [ew3]; exact va_up_self _ _ _
  refine lv_aload_n hx hb nd_S_init_11 rfl (lv_at hl 0 rfl) ?_
  refine lv_bipush (v := 16) hx hb nd_S_init_12 (by decide) ?_
  refine xw_newq (N' := 16) hx hb hown (hT _ nh_cl_S_17) hK.2.1.2.2.1 hK.1 hB hw hS 3 rfl (by decide) (by decide) (by decide) (by exact Nat.le_of_ble_eq_true rfl) (by exact Nat.le_of_ble_eq_true rfl) nd_S_init_14 (fun sl H hn_sl hw hS => ?_)
  have hs1 : w1 sl = none := by
    have h9 := hn_sl
    rw [ew3, va_up_ne _ _ (fun z => ?_)] at h9
    · exact h9
    · rw [z, hh] at hn_sl
      cases hn_sl
  obtain ⟨w4, ew5⟩ : ∃ z, z = va_up w2 sl (some (.inl (G.2.1 3, 16, .inr (.inr (.inr (.inr (fun _ => none))))))) := ⟨_, rfl⟩
  have hw : g_P G w4 H := by rw [ew5]; exact hw
  have hh : w4 h = some (.inr (4, [.ref e0, .null, .null, .int 0])) := by rw [ew5, va_up_ne _ _ (xw_nn hh hn_sl)]; exact hh
  have h_sl : w4 sl = some (.inl (G.2.1 3, 16, .inr (.inr (.inr (.inr (fun _ => none)))))) := by rw [ew5]; exact va_up_self _ _ _
  refine xw_putF (T := nT_S) (N := 4) (ci := 4) (v := .ref sl) (ty := (.array (.object "RadixShelf$Sequence"))) hx hb hT nu_S nt_S nk_S nn_S hown hK.1 hB hw hS hh rfl 1 (by decide) (hT _ nh_fl_S_19) (fun _ h9 => h9) rfl hin rfl (by decide +kernel) rfl rfl (Nat.le_of_ble_eq_true rfl) nd_S_init_17 (fun H locs hw hS => ?_)
  obtain ⟨w6, ew7⟩ : ∃ z, z = va_up w4 h (some (.inr (4, [.ref e0, .ref sl, .null, .int 0]))) := ⟨_, rfl⟩
  have hw : g_P G w6 H := by rw [ew7]; exact hw
  have h_sl : w6 sl = some (.inl (G.2.1 3, 16, .inr (.inr (.inr (.inr (fun _ => none)))))) := by rw [ew7, va_up_ne _ _ (xw_ne h_sl hh (by simp))]; exact h_sl
  have hh : w6 h = some (.inr (4, [.ref e0, .ref sl, .null, .int 0])) := by rw [ew7]; exact va_up_self _ _ _
  refine lv_iconst (v := 0) hx hb nd_S_init_20 (by decide) ?_
  refine lv_istore_n hx hb nd_S_init_21 rfl hl (by decide) (lv' := [(1, .int 0), (0, .ref h)]) rfl (fun ls hl => ?_)
  have hso2 : w6 e0 = some (.inr (3, [.int 0, .ref rt, .ref lf, .int (nI 0), .int (nI 0)])) := by rw [ew7, va_up_ne _ _ (hSo.ne4 h1), ew5, va_up_ne _ _ (xw_nn hSo.1 hs1), ew3, va_up_ne _ _ (hSo.ne4 h1)]; exact hSo.1
  have loop : ∀ (m9 i : Nat) (f : Nat → Option Nat) (ls : Array Slot) (H : Heap) (locs : List Loc), m9 + i = 16 → (∀ j, j < i → f j = some e0) → lv_has ls 2 [(1, .int (nI i)), (0, .ref h)] → g_P G (va_up w6 sl (some (.inl (G.2.1 3, 16, .inr (.inr (.inr (.inr f))))))) H → g_S G s.heap H locs → W p l e ({ frames := 3, cells := 8, slots := 123, locals := 64 }) s m [.ref h].toArray below meth c H locs (8) (123) (MQ below (g_Qv G (fun w' => ∃ e0 sl, sh_S G w' h e0 sl (false, fun _ => 0, fun _ _ => 0) 0)) [.ref h].toArray s 8 123 (xw_A (g_b G))) (F0 m 22 ls []) := by
    intro m9
    induction m9 with
    | zero =>
      intro i f ls H locs hmi hf hl hw hS
      obtain ⟨wl, ewl⟩ : ∃ z, z = va_up w6 sl (some (.inl (G.2.1 3, 16, .inr (.inr (.inr (.inr f)))))) := ⟨_, rfl⟩
      rw [← ewl] at hw
      have hh : wl h = some (.inr (4, [.ref e0, .ref sl, .null, .int 0])) := by rw [ewl, va_up_ne _ _ (xw_ne hh h_sl (by simp))]; exact hh
      have hso2 : wl e0 = some (.inr (3, [.int 0, .ref rt, .ref lf, .int (nI 0), .int (nI 0)])) := by rw [ewl, va_up_ne _ _ (xw_ne hso2 h_sl (by simp))]; exact hso2
      have h_sl : wl sl = some (.inl (G.2.1 3, 16, .inr (.inr (.inr (.inr f))))) := by rw [ewl]; exact va_up_self _ _ _
      refine lv_iload_n hx hb nd_S_init_22 rfl (lv_at hl 0 rfl) ?_
      refine lv_bipush (v := 16) hx hb nd_S_init_23 (by decide) ?_
      refine lv_icmp_ge (tgt := 44) hx hb nd_S_init_25 (by decide) (fun hc => ?_) (fun hc => ?_)
      · refine lv_aload_n hx hb nd_S_init_44 rfl (lv_at hl 1 rfl) ?_
        refine lv_null hx hb nd_S_init_45 ?_
        refine xw_put (T := nT_S) (N := 4) (ci := 4) (v := .null) (ty := (.object "RadixShelf$Sequence")) hx hb hT nu_S nt_S nk_S nn_S hown hK.1 hB hw hS hh rfl 2 (by decide) (hT _ nh_fl_S_23) (fun _ h9 => h9) rfl (by decide +kernel) rfl rfl (Nat.le_of_ble_eq_true rfl) nd_S_init_46 (fun H locs hw hS => ?_)
        obtain ⟨w8, ew9⟩ : ∃ z, z = va_up wl h (some (.inr (4, [.ref e0, .ref sl, .null, .int 0]))) := ⟨_, rfl⟩
        have hw : g_P G w8 H := by rw [ew9]; exact hw
        have hso2 : w8 e0 = some (.inr (3, [.int 0, .ref rt, .ref lf, .int (nI 0), .int (nI 0)])) := by rw [ew9, va_up_ne _ _ (xw_ne hso2 hh (by simp))]; exact hso2
        have h_sl : w8 sl = some (.inl (G.2.1 3, 16, .inr (.inr (.inr (.inr f))))) := by rw [ew9, va_up_ne _ _ (xw_ne h_sl hh (by simp))]; exact h_sl
        have hh : w8 h = some (.inr (4, [.ref e0, .ref sl, .null, .int 0])) := by rw [ew9]; exact va_up_self _ _ _
        refine lv_aload_n hx hb nd_S_init_49 rfl (lv_at hl 1 rfl) ?_
        refine lv_iconst (v := 0) hx hb nd_S_init_50 (by decide) ?_
        refine xw_put (T := nT_S) (N := 4) (ci := 4) (v := .int 0) (ty := .int) hx hb hT nu_S nt_S nk_S nn_S hown hK.1 hB hw hS hh rfl 3 (by decide) (hT _ nh_fl_S_26) (fun _ h9 => h9) rfl (by decide +kernel) rfl rfl (Nat.le_of_ble_eq_true rfl) nd_S_init_51 (fun H locs hw hS => ?_)
        obtain ⟨w10, ew11⟩ : ∃ z, z = va_up w8 h (some (.inr (4, [.ref e0, .ref sl, .null, .int 0]))) := ⟨_, rfl⟩
        have hw : g_P G w10 H := by rw [ew11]; exact hw
        have hso2 : w10 e0 = some (.inr (3, [.int 0, .ref rt, .ref lf, .int (nI 0), .int (nI 0)])) := by rw [ew11, va_up_ne _ _ (xw_ne hso2 hh (by simp))]; exact hso2
        have h_sl : w10 sl = some (.inl (G.2.1 3, 16, .inr (.inr (.inr (.inr f))))) := by rw [ew11, va_up_ne _ _ (xw_ne h_sl hh (by simp))]; exact h_sl
        have hh : w10 h = some (.inr (4, [.ref e0, .ref sl, .null, .int 0])) := by rw [ew11]; exact va_up_self _ _ _
        have hk : ∀ a, a ≠ h → a ≠ sl → w10 a = w1 a := fun a n1 n2 => by rw [ew11, va_up_ne _ _ n1, ew9, va_up_ne _ _ n1, ewl, va_up_ne _ _ n2, ew7, va_up_ne _ _ n1, ew5, va_up_ne _ _ n2, ew3, va_up_ne _ _ n1]
        exact g_vret hx hb hr hlocks hw hS (⟨e0, sl, 0, none, f, Nat.le_refl _, sh_init hSo hWi h1 hs1 hh h_sl hk (fun j hj => hf j (by omega))⟩) (by exact Nat.le_of_ble_eq_true rfl) (by exact Nat.le_of_ble_eq_true rfl) nd_S_init_54
      · exact absurd (nI_le (a := 16) (b := i) (by omega) (by omega)) hc
    | succ m9 ih =>
      intro i f ls H locs hmi hf hl hw hS
      obtain ⟨wl, ewl⟩ : ∃ z, z = va_up w6 sl (some (.inl (G.2.1 3, 16, .inr (.inr (.inr (.inr f)))))) := ⟨_, rfl⟩
      rw [← ewl] at hw
      have hh : wl h = some (.inr (4, [.ref e0, .ref sl, .null, .int 0])) := by rw [ewl, va_up_ne _ _ (xw_ne hh h_sl (by simp))]; exact hh
      have hso2 : wl e0 = some (.inr (3, [.int 0, .ref rt, .ref lf, .int (nI 0), .int (nI 0)])) := by rw [ewl, va_up_ne _ _ (xw_ne hso2 h_sl (by simp))]; exact hso2
      have h_sl : wl sl = some (.inl (G.2.1 3, 16, .inr (.inr (.inr (.inr f))))) := by rw [ewl]; exact va_up_self _ _ _
      refine lv_iload_n hx hb nd_S_init_22 rfl (lv_at hl 0 rfl) ?_
      refine lv_bipush (v := 16) hx hb nd_S_init_23 (by decide) ?_
      refine lv_icmp_ge (tgt := 44) hx hb nd_S_init_25 (by decide) (fun hc => ?_) (fun hc => ?_)
      · exact absurd hc (nI_ge (b := 16) (by omega) (by omega))
      · refine lv_aload_n hx hb nd_S_init_28 rfl (lv_at hl 1 rfl) ?_
        refine xw_get (T := nT_S) (N := 4) (ci := 4) hx hb hT nu_S hown hK.1 hw hh rfl 1 (by decide) (hT _ nh_fl_S_19) (fun _ h9 => h9) rfl nd_S_init_29 ?_
        refine lv_iload_n hx hb nd_S_init_32 rfl (lv_at hl 0 rfl) ?_
        refine lv_aload_n hx hb nd_S_init_33 rfl (lv_at hl 1 rfl) ?_
        refine xw_get (T := nT_S) (N := 4) (ci := 4) hx hb hT nu_S hown hK.1 hw hh rfl 0 (by decide) (hT _ nh_fl_S_13) (fun _ h9 => h9) rfl nd_S_init_34 ?_
        refine xw_aast (r := (nR_Q, nT_Q, 5)) hx hb hK.1 hB hw hS 3 3 h_sl rfl hso2 rfl (vp_in_nI (by omega) (by decide)) nd_S_init_37 (fun H locs hw hS => ?_)
        rw [nI_clamp (by omega)] at hw
        obtain ⟨w8, ew9⟩ : ∃ z, z = va_up wl sl (some (.inl (G.2.1 3, 16, .inr (.inr (.inr (.inr (va_up f i (some e0)))))))) := ⟨_, rfl⟩
        have hw : g_P G w8 H := by rw [ew9]; exact hw
        have hh : w8 h = some (.inr (4, [.ref e0, .ref sl, .null, .int 0])) := by rw [ew9, va_up_ne _ _ (xw_ne hh h_sl (by simp))]; exact hh
        have hso2 : w8 e0 = some (.inr (3, [.int 0, .ref rt, .ref lf, .int (nI 0), .int (nI 0)])) := by rw [ew9, va_up_ne _ _ (xw_ne hso2 h_sl (by simp))]; exact hso2
        have h_sl : w8 sl = some (.inl (G.2.1 3, 16, .inr (.inr (.inr (.inr (va_up f i (some e0))))))) := by rw [ew9]; exact va_up_self _ _ _
        refine lv_iinc (k := 0) hx hb nd_S_init_38 hl rfl rfl (by decide) (lv' := [(1, .int ((nI i) + 1)), (0, .ref h)]) rfl (fun ls hl => ?_)
        rw [nI_1] at hl
        refine lv_goto (tgt := 22) hx hb nd_S_init_41 (by decide) ?_
        refine ih (i + 1) (va_up f i (some e0)) ls H locs (by omega) (fun j hj => ?_) hl (by rw [ew9, ewl, bx_uu] at hw; exact hw) hS
        by_cases ej : j = i
        · rw [ej, va_up_self]
        · rw [va_up_ne _ _ ej]; exact hf j (by omega)
  exact loop 16 0 (fun _ => none) ls H locs (by omega) (fun j hj => absurd hj (by omega)) hl (by rw [show va_up w6 sl (some (.inl (G.2.1 3, 16, .inr (.inr (.inr (.inr (fun _ => none))))))) = w6 from va_up_id h_sl]; exact hw) hS
