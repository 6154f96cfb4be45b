set_option maxHeartbeats 4000000 in
set_option maxRecDepth 100000 in
theorem c_B_init (l : Launch) (G : g_G) (w : xw_W) (q : Nat) (st : Int32) (x : Nat) (hq : w q = some (.inr (0, [.int 0, .null]))) : Met l ny_B_init nw_B_init ({ frames := 1, cells := 0, slots := 0, locals := 12 }) (g_Pc G w [.ref q, .int st, .ref x]) (g_Qv G (fun w' => w' = va_up w q (some (.inr (0, [.int st, .ref x]))))) 0 0 (xw_A (g_b G)) := by
  refine g_met (by decide) (Nat.le_of_ble_eq_true rfl) rfl ?_
  intro p e s m below meth c ls hx hb hr hts hown hlocks hin hml hl hK hB hw hS
  have hT : ∀ w ∈ nw_T, w.before _ s = true := fun w h => hts w (List.mem_cons_of_mem _ h)
  have hown : s.vm.findClass "RadixShelf$Branch" = some m.cls := hown
  have hl : lv_has ls 3 [(0, .ref q), (1, .int st), (2, .ref x)] := hl
  refine lv_aload_n hx hb nd_B_init_0 rfl (lv_at hl 0 rfl) ?_
  refine W.objInit hx hb hown (hT _ nh_ml_B_1) (hT _ nh_im_obj) (hT _ nh_co_obj) rfl (by rw [hml]; exact hl.1) rfl nd_B_init_1 (Nat.le_of_ble_eq_true rfl) (Nat.le_of_ble_eq_true rfl) ?_
  refine W.eq (g2 := F0 m 4 ls []) rfl ?_
  refine lv_aload_n hx hb nd_B_init_4 rfl (lv_at hl 0 rfl) ?_
  refine lv_iload_n hx hb nd_B_init_5 rfl (lv_at hl 1 rfl) ?_
  refine xw_putF (T := nT_B) (N := 2) (ci := 0) (v := .int st) (ty := .int) hx hb hT nu_B nt_B nk_B nn_B hown hK.1 hB hw hS hq rfl 0 (by decide) (hT _ nh_fl_B_7) (fun _ h9 => h9) rfl hin rfl (by decide +kernel) rfl rfl (Nat.le_of_ble_eq_true rfl) nd_B_init_6 (fun H locs hw hS => ?_)
  obtain ⟨w1, ew2⟩ : ∃ z, z = va_up w q (some (.inr (0, [.int st, .null]))) := ⟨_, rfl⟩
  have hw : g_P G w1 H := by rw [ew2]; exact hw
  have hq : w1 q = some (.inr (0, [.int st, .null])) := by rw [ew2]; exact va_up_self _ _ _
  refine lv_aload_n hx hb nd_B_init_9 rfl (lv_at hl 0 rfl) ?_
  refine lv_aload_n hx hb nd_B_init_10 rfl (lv_at hl 2 rfl) ?_
  refine xw_putF (T := nT_B) (N := 2) (ci := 0) (v := .ref x) (ty := (.array (.object "RadixShelf$Leaf"))) hx hb hT nu_B nt_B nk_B nn_B hown hK.1 hB hw hS hq rfl 1 (by decide) (hT _ nh_fl_B_13) (fun _ h9 => h9) rfl hin rfl (by decide +kernel) rfl rfl (Nat.le_of_ble_eq_true rfl) nd_B_init_11 (fun H locs hw hS => ?_)
  obtain ⟨w3, ew4⟩ : ∃ z, z = va_up w1 q (some (.inr (0, [.int st, .ref x]))) := ⟨_, rfl⟩
  have hw : g_P G w3 H := by rw [ew4]; exact hw
  have hq : w3 q = some (.inr (0, [.int st, .ref x])) := by rw [ew4]; exact va_up_self _ _ _
  exact g_vret hx hb hr hlocks hw hS (by rw [ew4, ew2, bx_uu]) (by decide) (by decide) nd_B_init_14

set_option maxHeartbeats 4000000 in
set_option maxRecDepth 100000 in
theorem c_F_init (l : Launch) (G : g_G) (w : xw_W) (q : Nat) (st : Int32) (x : Nat) (hq : w q = some (.inr (1, [.int 0, .null]))) : Met l ny_F_init nw_F_init ({ frames := 1, cells := 0, slots := 0, locals := 12 }) (g_Pc G w [.ref q, .int st, .ref x]) (g_Qv G (fun w' => w' = va_up w q (some (.inr (1, [.int st, .ref x]))))) 0 0 (xw_A (g_b G)) := by
  refine g_met (by decide) (Nat.le_of_ble_eq_true rfl) rfl ?_
  intro p e s m below meth c ls hx hb hr hts hown hlocks hin hml hl hK hB hw hS
  have hT : ∀ w ∈ nw_T, w.before _ s = true := fun w h => hts w (List.mem_cons_of_mem _ h)
  have hown : s.vm.findClass "RadixShelf$Leaf" = some m.cls := hown
  have hl : lv_has ls 3 [(0, .ref q), (1, .int st), (2, .ref x)] := hl
  refine lv_aload_n hx hb nd_F_init_0 rfl (lv_at hl 0 rfl) ?_
  refine W.objInit hx hb hown (hT _ nh_ml_F_1) (hT _ nh_im_obj) (hT _ nh_co_obj) rfl (by rw [hml]; exact hl.1) rfl nd_F_init_1 (Nat.le_of_ble_eq_true rfl) (Nat.le_of_ble_eq_true rfl) ?_
  refine W.eq (g2 := F0 m 4 ls []) rfl ?_
  refine lv_aload_n hx hb nd_F_init_4 rfl (lv_at hl 0 rfl) ?_
  refine lv_iload_n hx hb nd_F_init_5 rfl (lv_at hl 1 rfl) ?_
  refine xw_putF (T := nT_F) (N := 2) (ci := 1) (v := .int st) (ty := .int) hx hb hT nu_F nt_F nk_F nn_F hown hK.1 hB hw hS hq rfl 0 (by decide) (hT _ nh_fl_F_7) (fun _ h9 => h9) rfl hin rfl (by decide +kernel) rfl rfl (Nat.le_of_ble_eq_true rfl) nd_F_init_6 (fun H locs hw hS => ?_)
  obtain ⟨w1, ew2⟩ : ∃ z, z = va_up w q (some (.inr (1, [.int st, .null]))) := ⟨_, rfl⟩
  have hw : g_P G w1 H := by rw [ew2]; exact hw
  have hq : w1 q = some (.inr (1, [.int st, .null])) := by rw [ew2]; exact va_up_self _ _ _
  refine lv_aload_n hx hb nd_F_init_9 rfl (lv_at hl 0 rfl) ?_
  refine lv_aload_n hx hb nd_F_init_10 rfl (lv_at hl 2 rfl) ?_
  refine xw_putF (T := nT_F) (N := 2) (ci := 1) (v := .ref x) (ty := (.array .long)) hx hb hT nu_F nt_F nk_F nn_F hown hK.1 hB hw hS hq rfl 1 (by decide) (hT _ nh_fl_F_13) (fun _ h9 => h9) rfl hin rfl (by decide +kernel) rfl rfl (Nat.le_of_ble_eq_true rfl) nd_F_init_11 (fun H locs hw hS => ?_)
  obtain ⟨w3, ew4⟩ : ∃ z, z = va_up w1 q (some (.inr (1, [.int st, .ref x]))) := ⟨_, rfl⟩
  have hw : g_P G w3 H := by rw [ew4]; exact hw
  have hq : w3 q = some (.inr (1, [.int st, .ref x])) := by rw [ew4]; exact va_up_self _ _ _
  exact g_vret hx hb hr hlocks hw hS (by rw [ew4, ew2, bx_uu]) (by decide) (by decide) nd_F_init_14

set_option maxHeartbeats 4000000 in
set_option maxRecDepth 100000 in
theorem c_R_init (l : Launch) (G : g_G) (w : xw_W) (q : Nat) (st : Int32) (x : Nat) (hq : w q = some (.inr (2, [.int 0, .null]))) : Met l ny_R_init nw_R_init ({ frames := 1, cells := 0, slots := 0, locals := 12 }) (g_Pc G w [.ref q, .int st, .ref x]) (g_Qv G (fun w' => w' = va_up w q (some (.inr (2, [.int st, .ref x]))))) 0 0 (xw_A (g_b G)) := by
  refine g_met (by decide) (Nat.le_of_ble_eq_true rfl) rfl ?_
  intro p e s m below meth c ls hx hb hr hts hown hlocks hin hml hl hK hB hw hS
  have hT : ∀ w ∈ nw_T, w.before _ s = true := fun w h => hts w (List.mem_cons_of_mem _ h)
  have hown : s.vm.findClass "RadixShelf$Root" = some m.cls := hown
  have hl : lv_has ls 3 [(0, .ref q), (1, .int st), (2, .ref x)] := hl
  refine lv_aload_n hx hb nd_R_init_0 rfl (lv_at hl 0 rfl) ?_
  refine W.objInit hx hb hown (hT _ nh_ml_R_3) (hT _ nh_im_obj) (hT _ nh_co_obj) rfl (by rw [hml]; exact hl.1) rfl nd_R_init_1 (Nat.le_of_ble_eq_true rfl) (Nat.le_of_ble_eq_true rfl) ?_
  refine W.eq (g2 := F0 m 4 ls []) rfl ?_
  refine lv_aload_n hx hb nd_R_init_4 rfl (lv_at hl 0 rfl) ?_
  refine lv_iload_n hx hb nd_R_init_5 rfl (lv_at hl 1 rfl) ?_
  refine xw_putF (T := nT_R) (N := 2) (ci := 2) (v := .int st) (ty := .int) hx hb hT nu_R nt_R nk_R nn_R hown hK.1 hB hw hS hq rfl 0 (by decide) (hT _ nh_fl_R_9) (fun _ h9 => h9) rfl hin rfl (by decide +kernel) rfl rfl (Nat.le_of_ble_eq_true rfl) nd_R_init_6 (fun H locs hw hS => ?_)
  obtain ⟨w1, ew2⟩ : ∃ z, z = va_up w q (some (.inr (2, [.int st, .null]))) := ⟨_, rfl⟩
  have hw : g_P G w1 H := by rw [ew2]; exact hw
  have hq : w1 q = some (.inr (2, [.int st, .null])) := by rw [ew2]; exact va_up_self _ _ _
  refine lv_aload_n hx hb nd_R_init_9 rfl (lv_at hl 0 rfl) ?_
  refine lv_aload_n hx hb nd_R_init_10 rfl (lv_at hl 2 rfl) ?_
  refine xw_putF (T := nT_R) (N := 2) (ci := 2) (v := .ref x) (ty := (.array (.object "RadixShelf$Branch"))) hx hb hT nu_R nt_R nk_R nn_R hown hK.1 hB hw hS hq rfl 1 (by decide) (hT _ nh_fl_R_15) (fun _ h9 => h9) rfl hin rfl (by decide +kernel) rfl rfl (Nat.le_of_ble_eq_true rfl) nd_R_init_11 (fun H locs hw hS => ?_)
  obtain ⟨w3, ew4⟩ : ∃ z, z = va_up w1 q (some (.inr (2, [.int st, .ref x]))) := ⟨_, rfl⟩
  have hw : g_P G w3 H := by rw [ew4]; exact hw
  have hq : w3 q = some (.inr (2, [.int st, .ref x])) := by rw [ew4]; exact va_up_self _ _ _
  exact g_vret hx hb hr hlocks hw hS (by rw [ew4, ew2, bx_uu]) (by decide) (by decide) nd_R_init_14

theorem tr_pos_and {o : Nat} (ho : o < 32768) (i : Int32) : (nI o + i) &&& 32767 = nI ((o + i.toBitVec.toNat) % 32768) := by
  rw [pk_and (nI o + i) (m := 32767) 15 (by decide)]
  have e : (nI o + i).toBitVec.toNat = (o + i.toBitVec.toNat) % 2 ^ 32 := by
    rw [Int32.toBitVec_add, BitVec.toNat_add, pk_tn (by omega)]
  rw [e]
  congr 1
  omega

set_option maxHeartbeats 4000000 in
set_option maxRecDepth 100000 in
theorem c_Q_position (l : Launch) (G : g_G) (w : xw_W) (q r t o : Nat) (st n i : Int32) (ho : o < 32768) (hq : w q = some (.inr (3, [.int st, .ref r, .ref t, .int (nI o), .int n]))) : Met l ny_Q_position nw_Q_position ({ frames := 0, cells := 0, slots := 0, locals := 0 }) (g_Pc G w [.ref q, .int i]) (g_Qi G (fun v w' => v = nI ((o + i.toBitVec.toNat) % 32768) ∧ w' = w)) 0 0 (xw_A (g_b G)) := by
  refine g_met (by decide) (Nat.le_of_ble_eq_true rfl) rfl ?_
  intro p e s m below meth c ls hx hb hr hts hown hlocks hin hml hl hK hB hw hS
  have hT : ∀ w ∈ nw_T, w.before _ s = true := fun w h => hts w (List.mem_cons_of_mem _ h)
  have hown : s.vm.findClass "RadixShelf$Sequence" = some m.cls := hown
  have hl : lv_has ls 2 [(0, .ref q), (1, .int i)] := hl
  refine lv_aload_n hx hb nd_Q_position_0 rfl (lv_at hl 0 rfl) ?_
  refine xw_get (T := nT_Q) (N := 5) (ci := 3) hx hb hT nu_Q hown hK.1 hw hq rfl 3 (by decide) (hT _ nh_fl_Q_23) (fun _ h9 => h9) rfl nd_Q_position_1 ?_
  refine lv_iload_n hx hb nd_Q_position_4 rfl (lv_at hl 1 rfl) ?_
  refine lv_iadd hx hb nd_Q_position_5 ?_
  refine lv_sipush (v := 32767) hx hb nd_Q_position_6 (by decide) ?_
  refine lv_iand hx hb nd_Q_position_9 ?_
  refine lv_topi (fun y1 ey2 => ?_)
  obtain rfl : y1 = nI ((o + i.toBitVec.toNat) % 32768) := ey2.trans (tr_pos_and ho i)
  exact g_iret hx hb hr hlocks hw hS (⟨rfl, rfl⟩) (by decide) (by decide) nd_Q_position_10
