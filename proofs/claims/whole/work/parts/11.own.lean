theorem tr_isN.cell {w : tr_W} {k n : Nat} (h : tr_isN w k n) : w n = some (tr_N k (tr_stp w n) (tr_arr w n)) := by
  obtain ⟨-, s, x, hx⟩ := h
  rw [tr_stp_of hx, tr_arr_of hx]
  exact hx
theorem tr_fitJ (c n : Nat) (f : Nat → Int64) : ∀ (i : Nat) (v : Value), (vp_cell c (n, .inr (.inl f))).slots[i]? = some v → fits .long v = true := fun i v hv => va_fit (F := fun j => .long (f j)) (fun _ _ => rfl) i v hv
theorem tr_fitQ (c n : Nat) (C : String) (f : Nat → Option Nat) : ∀ (i : Nat) (v : Value), (vp_cell c (n, .inr (.inr (.inr (.inr f))))).slots[i]? = some v → fits (.object C) v = true := fun i v hv => va_fit (F := fun j => va_rf (f j)) (fun j _ => by cases f j <;> rfl) i v hv
theorem tr_over {w : tr_W} {n x : Nat} {e0 a e1 : Option va_E} : va_up (va_up (va_up w n e0) x a) n e1 = va_up (va_up w x a) n e1 := by
  funext j
  by_cases h : j = n
  · simp [va_up, h]
  · by_cases h' : j = x
    · simp [va_up, h, h']
    · simp [va_up, h, h']
theorem tr_ush5 {n : Nat} (h : n < 2 ^ 31) : ((nI n).toUInt32 >>> ((5 : Int32).toUInt32 &&& Int32.toUInt32 31)).toInt32 = nI (n / 32) := pk_ushrN (by omega) 5 5 (by decide)
theorem tr_and31 {n : Nat} (h : n < 2 ^ 31) : nI n &&& 31 = nI (n % 32) := pk_andN (by omega) 5 (by decide)

set_option maxHeartbeats 4000000 in
set_option maxRecDepth 100000 in
theorem c_B_ownedBy (l : Launch) (G : g_G) (w : xw_W) (a x d : Nat) (st : Int32) (f : Nat → Option Nat) (ha : w a = some (.inr (0, [.int st, .ref x]))) (hx0 : w x = some (.inl (G.2.1 1, 32, .inr (.inr (.inr (.inr f)))))) : Met l ny_B_ownedBy nw_B_ownedBy ({ frames := 2, cells := 2, slots := 34, locals := 34 }) (g_Pc G w [.ref a, .int (nI d)]) (g_Qr G (fun r w' => tr_Ow tr_kB d w w' a r)) 2 34 (xw_A (g_b G)) := by
  refine g_met (by decide) (Nat.le_of_ble_eq_true rfl) rfl ?_
  intro p e s m below meth c ls hx hb hr hts hown hlocks hin hml hl hK hB hw hS
  have ha0 := ha
  have hx00 := hx0
  have hT : ∀ w ∈ nw_T, w.before _ s = true := fun w h => hts w (List.mem_cons_of_mem _ h)
  have hown : s.vm.findClass "RadixShelf$Branch" = some m.cls := hown
  have hl : lv_has ls 2 [(0, .ref a), (1, .int (nI d))] := hl
  refine lv_aload_n hx hb nd_B_ownedBy_0 rfl (lv_at hl 0 rfl) ?_
  refine xw_get (T := nT_B) (N := 2) (ci := 0) hx hb hT nu_B hown hK.1 hw ha rfl 0 (by decide) (hT _ nh_fl_B_7) (fun _ h9 => h9) rfl nd_B_ownedBy_1 ?_
  refine lv_iload_n hx hb nd_B_ownedBy_4 rfl (lv_at hl 1 rfl) ?_
  refine lv_icmp_ne (tgt := 12) hx hb nd_B_ownedBy_5 (by decide) (fun hc => ?_) (fun hc => ?_)
  · refine xw_new (T := nT_B) (N := 2) (ci := 0) (fs := [.int 0, .null]) hx hb hT nu_B nt_B nk_B hown (hT _ nh_cl_B_8) (hT _ nh_is_B) (hT _ nh_in_B) hK.1 hB hw hS rfl (fun j hj => by rcases (show j = 0 ∨ j = 1 by omega) with rfl | rfl <;> rfl) (by exact Nat.le_of_ble_eq_true rfl) (by exact Nat.le_of_ble_eq_true rfl) nd_B_ownedBy_12 (fun q H hn_q hw hS => ?_)
    obtain ⟨w1, ew2⟩ : ∃ z, z = va_up w q (some (.inr (0, [.int 0, .null]))) := ⟨_, rfl⟩
    have hw : g_P G w1 H := by rw [ew2]; exact hw
    have ha : w1 a = some (.inr (0, [.int st, .ref x])) := by rw [ew2, va_up_ne _ _ (xw_nn ha hn_q)]; exact ha
    have hx0 : w1 x = some (.inl (G.2.1 1, 32, .inr (.inr (.inr (.inr f))))) := by rw [ew2, va_up_ne _ _ (xw_nn hx0 hn_q)]; exact hx0
    have h_q : w1 q = some (.inr (0, [.int 0, .null])) := by rw [ew2]; exact va_up_self _ _ _
    refine lv_dup hx hb nd_B_ownedBy_15 rfl ?_
    refine lv_iload_n hx hb nd_B_ownedBy_16 rfl (lv_at hl 1 rfl) ?_
    refine lv_aload_n hx hb nd_B_ownedBy_17 rfl (lv_at hl 0 rfl) ?_
    refine xw_get (T := nT_B) (N := 2) (ci := 0) hx hb hT nu_B hown hK.1 hw ha rfl 1 (by decide) (hT _ nh_fl_B_13) (fun _ h9 => h9) rfl nd_B_ownedBy_18 ?_
    refine xw_clone hx hb (by rw [hml]; exact hl.1.symm) hown (hT _ nh_ml_B_17) (hT _ nh_sm_clone_F) (hT _ nh_na_clone) (hT _ nh_im_clone) (hT _ nh_se_clone_F) (hK.2.2.1 ("[LRadixShelf$Leaf;", "java/lang/Cloneable") (by decide)) hK.1 hB hw hS 1 hx0 rfl (by decide +kernel) (tr_fitQ _ _ _ f) (by decide) (Nat.le_of_ble_eq_true rfl) (Nat.le_of_ble_eq_true rfl) (Nat.le_of_ble_eq_true rfl) nd_B_ownedBy_21 (fun y H hn_y hw hS => ?_)
    obtain ⟨w3, ew4⟩ : ∃ z, z = va_up w1 y (some (.inl (G.2.1 1, 32, .inr (.inr (.inr (.inr f)))))) := ⟨_, rfl⟩
    have hw : g_P G w3 H := by rw [ew4]; exact hw
    have ha : w3 a = some (.inr (0, [.int st, .ref x])) := by rw [ew4, va_up_ne _ _ (xw_nn ha hn_y)]; exact ha
    have hx0 : w3 x = some (.inl (G.2.1 1, 32, .inr (.inr (.inr (.inr f))))) := by rw [ew4, va_up_ne _ _ (xw_nn hx0 hn_y)]; exact hx0
    have h_q : w3 q = some (.inr (0, [.int 0, .null])) := by rw [ew4, va_up_ne _ _ (xw_nn h_q hn_y)]; exact h_q
    have h_y : w3 y = some (.inl (G.2.1 1, 32, .inr (.inr (.inr (.inr f))))) := by rw [ew4]; exact va_up_self _ _ _
    refine xw_castA hx hb hown (hT _ nh_cl_B_18) hK.1 hw 1 h_y rfl (by decide +kernel) nd_B_ownedBy_24 ?_
    refine g_callv (va_runI (As := [.int (nI d), .ref y]) (rest := [.ref q]) ⟨hx, hb, hml, hown, hts⟩ (c_B_init l G w3 q (nI d) y h_q) (cwI 2 hts (nw_of (nw_0 nh_co_B_init)) rfl rfl rfl (hT _ nh_in_B) (hT _ nh_ml_B_22) (hT _ nh_im_B_init) rfl (by decide +kernel) ⟨Nat.le_of_ble_eq_true rfl, Nat.le_of_ble_eq_true rfl⟩) (g_preS hK hw hS _) rfl rfl hl.1 rfl (lv_room (Nat.le_of_ble_eq_true rfl)) nd_B_ownedBy_27 ⟨by exact Nat.le_of_ble_eq_true rfl, by exact Nat.le_of_ble_eq_true rfl⟩) hS (fun w5 H locs hp hw hS => ?_)
    have hyw : w y = none := by
      have h9 := hn_y
      rw [ew2, va_up_ne _ _ (fun z => ?_)] at h9
      · exact h9
      · rw [z, ew2, va_up_self] at hn_y
        cases hn_y
    have hne : q ≠ y := fun z => by
      rw [← z, ew2, va_up_self] at hn_y
      cases hn_y
    exact g_aret hx hb hr hlocks hw hS (Or.inr ⟨by rw [tr_stp_of ha0]; exact hc, y, _, hn_q, hyw, hne, by rw [tr_arr_of ha0]; exact hx00, by rw [hp, ew4, ew2, tr_over]⟩) (by exact Nat.le_of_ble_eq_true rfl) (by exact Nat.le_of_ble_eq_true rfl) nd_B_ownedBy_30
  · subst hc
    refine lv_aload_n hx hb nd_B_ownedBy_8 rfl (lv_at hl 0 rfl) ?_
    refine lv_goto (tgt := 30) hx hb nd_B_ownedBy_9 (by decide) ?_
    exact g_aret hx hb hr hlocks hw hS (Or.inl ⟨tr_stp_of ha0, rfl, rfl⟩) (by exact Nat.le_of_ble_eq_true rfl) (by exact Nat.le_of_ble_eq_true rfl) nd_B_ownedBy_30

set_option maxHeartbeats 4000000 in
set_option maxRecDepth 100000 in
theorem c_B_ownedBy0 (l : Launch) (G : g_G) (w : xw_W) (a x d : Nat) (ha : w a = some (.inr (0, [.int (nI d), .ref x]))) : Met l ny_B_ownedBy nw_B_ownedBy ({ frames := 0, cells := 0, slots := 0, locals := 0 }) (g_Pc G w [.ref a, .int (nI d)]) (g_Qr G (fun r w' => r = a ∧ w' = w)) 0 0 (xw_A (g_b G)) := by
  refine g_met (by decide) (Nat.le_of_ble_eq_true rfl) rfl ?_
  intro p e s m below meth c ls hx hb hr hts hown hlocks hin hml hl hK hB hw hS
  have hT : ∀ w ∈ nw_T, w.before _ s = true := fun w h => hts w (List.mem_cons_of_mem _ h)
  have hown : s.vm.findClass "RadixShelf$Branch" = some m.cls := hown
  have hl : lv_has ls 2 [(0, .ref a), (1, .int (nI d))] := hl
  refine lv_aload_n hx hb nd_B_ownedBy_0 rfl (lv_at hl 0 rfl) ?_
  refine xw_get (T := nT_B) (N := 2) (ci := 0) hx hb hT nu_B hown hK.1 hw ha rfl 0 (by decide) (hT _ nh_fl_B_7) (fun _ h9 => h9) rfl nd_B_ownedBy_1 ?_
  refine lv_iload_n hx hb nd_B_ownedBy_4 rfl (lv_at hl 1 rfl) ?_
  refine lv_icmp_ne (tgt := 12) hx hb nd_B_ownedBy_5 (by decide) (fun hc => ?_) (fun hc => ?_)
  · exact absurd rfl hc
  · refine lv_aload_n hx hb nd_B_ownedBy_8 rfl (lv_at hl 0 rfl) ?_
    refine lv_goto (tgt := 30) hx hb nd_B_ownedBy_9 (by decide) ?_
    exact g_aret hx hb hr hlocks hw hS (⟨rfl, rfl⟩) (by exact Nat.le_of_ble_eq_true rfl) (by exact Nat.le_of_ble_eq_true rfl) nd_B_ownedBy_30

set_option maxHeartbeats 4000000 in
set_option maxRecDepth 100000 in
theorem c_F_ownedBy (l : Launch) (G : g_G) (w : xw_W) (a x d : Nat) (st : Int32) (f : Nat → Int64) (ha : w a = some (.inr (1, [.int st, .ref x]))) (hx0 : w x = some (.inl (G.2.1 0, 32, .inr (.inl f)))) : Met l ny_F_ownedBy nw_F_ownedBy ({ frames := 2, cells := 2, slots := 34, locals := 34 }) (g_Pc G w [.ref a, .int (nI d)]) (g_Qr G (fun r w' => tr_Ow tr_kL d w w' a r)) 2 34 (xw_A (g_b G)) := by
  refine g_met (by decide) (Nat.le_of_ble_eq_true rfl) rfl ?_
  intro p e s m below meth c ls hx hb hr hts hown hlocks hin hml hl hK hB hw hS
  have ha0 := ha
  have hx00 := hx0
  have hT : ∀ w ∈ nw_T, w.before _ s = true := fun w h => hts w (List.mem_cons_of_mem _ h)
  have hown : s.vm.findClass "RadixShelf$Leaf" = some m.cls := hown
  have hl : lv_has ls 2 [(0, .ref a), (1, .int (nI d))] := hl
  refine lv_aload_n hx hb nd_F_ownedBy_0 rfl (lv_at hl 0 rfl) ?_
  refine xw_get (T := nT_F) (N := 2) (ci := 1) hx hb hT nu_F hown hK.1 hw ha rfl 0 (by decide) (hT _ nh_fl_F_7) (fun _ h9 => h9) rfl nd_F_ownedBy_1 ?_
  refine lv_iload_n hx hb nd_F_ownedBy_4 rfl (lv_at hl 1 rfl) ?_
  refine lv_icmp_ne (tgt := 12) hx hb nd_F_ownedBy_5 (by decide) (fun hc => ?_) (fun hc => ?_)
  · refine xw_new (T := nT_F) (N := 2) (ci := 1) (fs := [.int 0, .null]) hx hb hT nu_F nt_F nk_F hown (hT _ nh_cl_F_8) (hT _ nh_is_F) (hT _ nh_in_F) hK.1 hB hw hS rfl (fun j hj => by rcases (show j = 0 ∨ j = 1 by omega) with rfl | rfl <;> rfl) (by exact Nat.le_of_ble_eq_true rfl) (by exact Nat.le_of_ble_eq_true rfl) nd_F_ownedBy_12 (fun q H hn_q hw hS => ?_)
    obtain ⟨w1, ew2⟩ : ∃ z, z = va_up w q (some (.inr (1, [.int 0, .null]))) := ⟨_, rfl⟩
    have hw : g_P G w1 H := by rw [ew2]; exact hw
    have ha : w1 a = some (.inr (1, [.int st, .ref x])) := by rw [ew2, va_up_ne _ _ (xw_nn ha hn_q)]; exact ha
    have hx0 : w1 x = some (.inl (G.2.1 0, 32, .inr (.inl f))) := by rw [ew2, va_up_ne _ _ (xw_nn hx0 hn_q)]; exact hx0
    have h_q : w1 q = some (.inr (1, [.int 0, .null])) := by rw [ew2]; exact va_up_self _ _ _
    refine lv_dup hx hb nd_F_ownedBy_15 rfl ?_
    refine lv_iload_n hx hb nd_F_ownedBy_16 rfl (lv_at hl 1 rfl) ?_
    refine lv_aload_n hx hb nd_F_ownedBy_17 rfl (lv_at hl 0 rfl) ?_
    refine xw_get (T := nT_F) (N := 2) (ci := 1) hx hb hT nu_F hown hK.1 hw ha rfl 1 (by decide) (hT _ nh_fl_F_13) (fun _ h9 => h9) rfl nd_F_ownedBy_18 ?_
    refine xw_clone hx hb (by rw [hml]; exact hl.1.symm) hown (hT _ nh_ml_F_17) (hT _ nh_sm_clone_J) (hT _ nh_na_clone) (hT _ nh_im_clone) (hT _ nh_se_clone_J) (hK.2.2.1 ("[J", "java/lang/Cloneable") (by decide)) hK.1 hB hw hS 0 hx0 rfl (by decide +kernel) (tr_fitJ _ _ f) (by decide) (Nat.le_of_ble_eq_true rfl) (Nat.le_of_ble_eq_true rfl) (Nat.le_of_ble_eq_true rfl) nd_F_ownedBy_21 (fun y H hn_y hw hS => ?_)
    obtain ⟨w3, ew4⟩ : ∃ z, z = va_up w1 y (some (.inl (G.2.1 0, 32, .inr (.inl f)))) := ⟨_, rfl⟩
    have hw : g_P G w3 H := by rw [ew4]; exact hw
    have ha : w3 a = some (.inr (1, [.int st, .ref x])) := by rw [ew4, va_up_ne _ _ (xw_nn ha hn_y)]; exact ha
    have hx0 : w3 x = some (.inl (G.2.1 0, 32, .inr (.inl f))) := by rw [ew4, va_up_ne _ _ (xw_nn hx0 hn_y)]; exact hx0
    have h_q : w3 q = some (.inr (1, [.int 0, .null])) := by rw [ew4, va_up_ne _ _ (xw_nn h_q hn_y)]; exact h_q
    have h_y : w3 y = some (.inl (G.2.1 0, 32, .inr (.inl f))) := by rw [ew4]; exact va_up_self _ _ _
    refine xw_castA hx hb hown (hT _ nh_cl_F_18) hK.1 hw 0 h_y rfl (by decide +kernel) nd_F_ownedBy_24 ?_
    refine g_callv (va_runI (As := [.int (nI d), .ref y]) (rest := [.ref q]) ⟨hx, hb, hml, hown, hts⟩ (c_F_init l G w3 q (nI d) y h_q) (cwI 2 hts (nw_of (nw_0 nh_co_F_init)) rfl rfl rfl (hT _ nh_in_F) (hT _ nh_ml_F_22) (hT _ nh_im_F_init) rfl (by decide +kernel) ⟨Nat.le_of_ble_eq_true rfl, Nat.le_of_ble_eq_true rfl⟩) (g_preS hK hw hS _) rfl rfl hl.1 rfl (lv_room (Nat.le_of_ble_eq_true rfl)) nd_F_ownedBy_27 ⟨by exact Nat.le_of_ble_eq_true rfl, by exact Nat.le_of_ble_eq_true rfl⟩) hS (fun w5 H locs hp hw hS => ?_)
    have hyw : w y = none := by
      have h9 := hn_y
      rw [ew2, va_up_ne _ _ (fun z => ?_)] at h9
      · exact h9
      · rw [z, ew2, va_up_self] at hn_y
        cases hn_y
    have hne : q ≠ y := fun z => by
      rw [← z, ew2, va_up_self] at hn_y
      cases hn_y
    exact g_aret hx hb hr hlocks hw hS (Or.inr ⟨by rw [tr_stp_of ha0]; exact hc, y, _, hn_q, hyw, hne, by rw [tr_arr_of ha0]; exact hx00, by rw [hp, ew4, ew2, tr_over]⟩) (by exact Nat.le_of_ble_eq_true rfl) (by exact Nat.le_of_ble_eq_true rfl) nd_F_ownedBy_30
  · subst hc
    refine lv_aload_n hx hb nd_F_ownedBy_8 rfl (lv_at hl 0 rfl) ?_
    refine lv_goto (tgt := 30) hx hb nd_F_ownedBy_9 (by decide) ?_
    exact g_aret hx hb hr hlocks hw hS (Or.inl ⟨tr_stp_of ha0, rfl, rfl⟩) (by exact Nat.le_of_ble_eq_true rfl) (by exact Nat.le_of_ble_eq_true rfl) nd_F_ownedBy_30

set_option maxHeartbeats 4000000 in
set_option maxRecDepth 100000 in
theorem c_F_ownedBy0 (l : Launch) (G : g_G) (w : xw_W) (a x d : Nat) (ha : w a = some (.inr (1, [.int (nI d), .ref x]))) : Met l ny_F_ownedBy nw_F_ownedBy ({ frames := 0, cells := 0, slots := 0, locals := 0 }) (g_Pc G w [.ref a, .int (nI d)]) (g_Qr G (fun r w' => r = a ∧ w' = w)) 0 0 (xw_A (g_b G)) := by
  refine g_met (by decide) (Nat.le_of_ble_eq_true rfl) rfl ?_
  intro p e s m below meth c ls hx hb hr hts hown hlocks hin hml hl hK hB hw hS
  have hT : ∀ w ∈ nw_T, w.before _ s = true := fun w h => hts w (List.mem_cons_of_mem _ h)
  have hown : s.vm.findClass "RadixShelf$Leaf" = some m.cls := hown
  have hl : lv_has ls 2 [(0, .ref a), (1, .int (nI d))] := hl
  refine lv_aload_n hx hb nd_F_ownedBy_0 rfl (lv_at hl 0 rfl) ?_
  refine xw_get (T := nT_F) (N := 2) (ci := 1) hx hb hT nu_F hown hK.1 hw ha rfl 0 (by decide) (hT _ nh_fl_F_7) (fun _ h9 => h9) rfl nd_F_ownedBy_1 ?_
  refine lv_iload_n hx hb nd_F_ownedBy_4 rfl (lv_at hl 1 rfl) ?_
  refine lv_icmp_ne (tgt := 12) hx hb nd_F_ownedBy_5 (by decide) (fun hc => ?_) (fun hc => ?_)
  · exact absurd rfl hc
  · refine lv_aload_n hx hb nd_F_ownedBy_8 rfl (lv_at hl 0 rfl) ?_
    refine lv_goto (tgt := 30) hx hb nd_F_ownedBy_9 (by decide) ?_
    exact g_aret hx hb hr hlocks hw hS (⟨rfl, rfl⟩) (by exact Nat.le_of_ble_eq_true rfl) (by exact Nat.le_of_ble_eq_true rfl) nd_F_ownedBy_30

set_option maxHeartbeats 4000000 in
set_option maxRecDepth 100000 in
theorem c_R_ownedBy (l : Launch) (G : g_G) (w : xw_W) (a x d : Nat) (st : Int32) (f : Nat → Option Nat) (ha : w a = some (.inr (2, [.int st, .ref x]))) (hx0 : w x = some (.inl (G.2.1 2, 32, .inr (.inr (.inr (.inr f)))))) : Met l ny_R_ownedBy nw_R_ownedBy ({ frames := 2, cells := 2, slots := 34, locals := 34 }) (g_Pc G w [.ref a, .int (nI d)]) (g_Qr G (fun r w' => tr_Ow tr_kR d w w' a r)) 2 34 (xw_A (g_b G)) := by
  refine g_met (by decide) (Nat.le_of_ble_eq_true rfl) rfl ?_
  intro p e s m below meth c ls hx hb hr hts hown hlocks hin hml hl hK hB hw hS
  have ha0 := ha
  have hx00 := hx0
  have hT : ∀ w ∈ nw_T, w.before _ s = true := fun w h => hts w (List.mem_cons_of_mem _ h)
  have hown : s.vm.findClass "RadixShelf$Root" = some m.cls := hown
  have hl : lv_has ls 2 [(0, .ref a), (1, .int (nI d))] := hl
  refine lv_aload_n hx hb nd_R_ownedBy_0 rfl (lv_at hl 0 rfl) ?_
  refine xw_get (T := nT_R) (N := 2) (ci := 2) hx hb hT nu_R hown hK.1 hw ha rfl 0 (by decide) (hT _ nh_fl_R_9) (fun _ h9 => h9) rfl nd_R_ownedBy_1 ?_
  refine lv_iload_n hx hb nd_R_ownedBy_4 rfl (lv_at hl 1 rfl) ?_
  refine lv_icmp_ne (tgt := 12) hx hb nd_R_ownedBy_5 (by decide) (fun hc => ?_) (fun hc => ?_)
  · refine xw_new (T := nT_R) (N := 2) (ci := 2) (fs := [.int 0, .null]) hx hb hT nu_R nt_R nk_R hown (hT _ nh_cl_R_10) (hT _ nh_is_R) (hT _ nh_in_R) hK.1 hB hw hS rfl (fun j hj => by rcases (show j = 0 ∨ j = 1 by omega) with rfl | rfl <;> rfl) (by exact Nat.le_of_ble_eq_true rfl) (by exact Nat.le_of_ble_eq_true rfl) nd_R_ownedBy_12 (fun q H hn_q hw hS => ?_)
    obtain ⟨w1, ew2⟩ : ∃ z, z = va_up w q (some (.inr (2, [.int 0, .null]))) := ⟨_, rfl⟩
    have hw : g_P G w1 H := by rw [ew2]; exact hw
    have ha : w1 a = some (.inr (2, [.int st, .ref x])) := by rw [ew2, va_up_ne _ _ (xw_nn ha hn_q)]; exact ha
    have hx0 : w1 x = some (.inl (G.2.1 2, 32, .inr (.inr (.inr (.inr f))))) := by rw [ew2, va_up_ne _ _ (xw_nn hx0 hn_q)]; exact hx0
    have h_q : w1 q = some (.inr (2, [.int 0, .null])) := by rw [ew2]; exact va_up_self _ _ _
    refine lv_dup hx hb nd_R_ownedBy_15 rfl ?_
    refine lv_iload_n hx hb nd_R_ownedBy_16 rfl (lv_at hl 1 rfl) ?_
    refine lv_aload_n hx hb nd_R_ownedBy_17 rfl (lv_at hl 0 rfl) ?_
    refine xw_get (T := nT_R) (N := 2) (ci := 2) hx hb hT nu_R hown hK.1 hw ha rfl 1 (by decide) (hT _ nh_fl_R_15) (fun _ h9 => h9) rfl nd_R_ownedBy_18 ?_
    refine xw_clone hx hb (by rw [hml]; exact hl.1.symm) hown (hT _ nh_ml_R_19) (hT _ nh_sm_clone_B) (hT _ nh_na_clone) (hT _ nh_im_clone) (hT _ nh_se_clone_B) (hK.2.2.1 ("[LRadixShelf$Branch;", "java/lang/Cloneable") (by decide)) hK.1 hB hw hS 2 hx0 rfl (by decide +kernel) (tr_fitQ _ _ _ f) (by decide) (Nat.le_of_ble_eq_true rfl) (Nat.le_of_ble_eq_true rfl) (Nat.le_of_ble_eq_true rfl) nd_R_ownedBy_21 (fun y H hn_y hw hS => ?_)
    obtain ⟨w3, ew4⟩ : ∃ z, z = va_up w1 y (some (.inl (G.2.1 2, 32, .inr (.inr (.inr (.inr f)))))) := ⟨_, rfl⟩
    have hw : g_P G w3 H := by rw [ew4]; exact hw
    have ha : w3 a = some (.inr (2, [.int st, .ref x])) := by rw [ew4, va_up_ne _ _ (xw_nn ha hn_y)]; exact ha
    have hx0 : w3 x = some (.inl (G.2.1 2, 32, .inr (.inr (.inr (.inr f))))) := by rw [ew4, va_up_ne _ _ (xw_nn hx0 hn_y)]; exact hx0
    have h_q : w3 q = some (.inr (2, [.int 0, .null])) := by rw [ew4, va_up_ne _ _ (xw_nn h_q hn_y)]; exact h_q
    have h_y : w3 y = some (.inl (G.2.1 2, 32, .inr (.inr (.inr (.inr f))))) := by rw [ew4]; exact va_up_self _ _ _
    refine xw_castA hx hb hown (hT _ nh_cl_R_20) hK.1 hw 2 h_y rfl (by decide +kernel) nd_R_ownedBy_24 ?_
    refine g_callv (va_runI (As := [.int (nI d), .ref y]) (rest := [.ref q]) ⟨hx, hb, hml, hown, hts⟩ (c_R_init l G w3 q (nI d) y h_q) (cwI 2 hts (nw_of (nw_0 nh_co_R_init)) rfl rfl rfl (hT _ nh_in_R) (hT _ nh_ml_R_24) (hT _ nh_im_R_init) rfl (by decide +kernel) ⟨Nat.le_of_ble_eq_true rfl, Nat.le_of_ble_eq_true rfl⟩) (g_preS hK hw hS _) rfl rfl hl.1 rfl (lv_room (Nat.le_of_ble_eq_true rfl)) nd_R_ownedBy_27 ⟨by exact Nat.le_of_ble_eq_true rfl, by exact Nat.le_of_ble_eq_true rfl⟩) hS (fun w5 H locs hp hw hS => ?_)
    have hyw : w y = none := by
      have h9 := hn_y
      rw [ew2, va_up_ne _ _ (fun z => ?_)] at h9
      · exact h9
      · rw [z, ew2, va_up_self] at hn_y
        cases hn_y
    have hne : q ≠ y := fun z => by
      rw [← z, ew2, va_up_self] at hn_y
      cases hn_y
    exact g_aret hx hb hr hlocks hw hS (Or.inr ⟨by rw [tr_stp_of ha0]; exact hc, y, _, hn_q, hyw, hne, by rw [tr_arr_of ha0]; exact hx00, by rw [hp, ew4, ew2, tr_over]⟩) (by exact Nat.le_of_ble_eq_true rfl) (by exact Nat.le_of_ble_eq_true rfl) nd_R_ownedBy_30
  · subst hc
    refine lv_aload_n hx hb nd_R_ownedBy_8 rfl (lv_at hl 0 rfl) ?_
    refine lv_goto (tgt := 30) hx hb nd_R_ownedBy_9 (by decide) ?_
    exact g_aret hx hb hr hlocks hw hS (Or.inl ⟨tr_stp_of ha0, rfl, rfl⟩) (by exact Nat.le_of_ble_eq_true rfl) (by exact Nat.le_of_ble_eq_true rfl) nd_R_ownedBy_30

set_option maxHeartbeats 4000000 in
set_option maxRecDepth 100000 in
theorem c_R_ownedBy0 (l : Launch) (G : g_G) (w : xw_W) (a x d : Nat) (ha : w a = some (.inr (2, [.int (nI d), .ref x]))) : Met l ny_R_ownedBy nw_R_ownedBy ({ frames := 0, cells := 0, slots := 0, locals := 0 }) (g_Pc G w [.ref a, .int (nI d)]) (g_Qr G (fun r w' => r = a ∧ w' = w)) 0 0 (xw_A (g_b G)) := by
  refine g_met (by decide) (Nat.le_of_ble_eq_true rfl) rfl ?_
  intro p e s m below meth c ls hx hb hr hts hown hlocks hin hml hl hK hB hw hS
  have hT : ∀ w ∈ nw_T, w.before _ s = true := fun w h => hts w (List.mem_cons_of_mem _ h)
  have hown : s.vm.findClass "RadixShelf$Root" = some m.cls := hown
  have hl : lv_has ls 2 [(0, .ref a), (1, .int (nI d))] := hl
  refine lv_aload_n hx hb nd_R_ownedBy_0 rfl (lv_at hl 0 rfl) ?_
  refine xw_get (T := nT_R) (N := 2) (ci := 2) hx hb hT nu_R hown hK.1 hw ha rfl 0 (by decide) (hT _ nh_fl_R_9) (fun _ h9 => h9) rfl nd_R_ownedBy_1 ?_
  refine lv_iload_n hx hb nd_R_ownedBy_4 rfl (lv_at hl 1 rfl) ?_
  refine lv_icmp_ne (tgt := 12) hx hb nd_R_ownedBy_5 (by decide) (fun hc => ?_) (fun hc => ?_)
  · exact absurd rfl hc
  · refine lv_aload_n hx hb nd_R_ownedBy_8 rfl (lv_at hl 0 rfl) ?_
    refine lv_goto (tgt := 30) hx hb nd_R_ownedBy_9 (by decide) ?_
    exact g_aret hx hb hr hlocks hw hS (⟨rfl, rfl⟩) (by exact Nat.le_of_ble_eq_true rfl) (by exact Nat.le_of_ble_eq_true rfl) nd_R_ownedBy_30
