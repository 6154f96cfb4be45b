theorem tr_ring {u v z : Nat} (h1 : u ≤ v) (h2 : v ≤ z) (h3 : z ≤ u + 2999) (h : u % 32768 / 32 = z % 32768 / 32) : v % 32768 / 32 = z % 32768 / 32 := by omega
theorem tr_tb1 (o n : Nat) : (o + n) % 32768 / 32 = tr_tb o (n + 1) := by unfold tr_tb; omega
theorem tr_tbp (o n : Nat) : tr_tb ((o + 32767) % 32768) (n + 1) = tr_tb o n := by unfold tr_tb; omega
/-- what a write says -/
def tr_Wr (cJ cL cB M d : Nat) (Z : Int32 → Prop) (w w' : tr_W) (q r t o n p r1 t1 : Nat) (v : Int64) : Prop := tr_Df cJ cL cB M d Z w' q r1 t1 o n ∧ tr_Kp d q w w' ∧ (∀ x, x < 32768 → tr_vl w' r1 t1 (tr_tb o n) x = if x = p then v else tr_vl w r t (tr_tb o n) x) ∧ (p / 32 = tr_tb o n → tr_stp w' t1 = nI d)

set_option maxHeartbeats 4000000 in
set_option maxRecDepth 100000 in
theorem c_Q_init (l : Launch) (G : g_G) (w : xw_W) (q r t : Nat) (st o n : Int32) (hq : w q = some (.inr (3, [.int 0, .null, .null, .int 0, .int 0]))) : Met l ny_Q_init nw_Q_init ({ frames := 1, cells := 0, slots := 0, locals := 12 }) (g_Pc G w [.ref q, .int st, .ref r, .ref t, .int o, .int n]) (g_Qv G (fun w' => w' = va_up w q (some (.inr (3, [.int st, .ref r, .ref t, .int o, .int n]))))) 0 0 (xw_A (g_b G)) := by
  refine g_met (by decide) (Nat.le_of_ble_eq_true rfl) rfl ?_
  intro p e s m below meth c ls hx hb hr hts hown hlocks hin hml hl hK hB hw hS
  have hT : ∀ w ∈ nw_T, w.before _ s = true := fun w h => hts w (List.mem_cons_of_mem _ h)
  have hown : s.vm.findClass "RadixShelf$Sequence" = some m.cls := hown
  have hl : lv_has ls 6 [(0, .ref q), (1, .int st), (2, .ref r), (3, .ref t), (4, .int o), (5, .int n)] := hl
  refine lv_aload_n hx hb nd_Q_init_0 rfl (lv_at hl 0 rfl) ?_
  refine W.objInit hx hb hown (hT _ nh_ml_Q_3) (hT _ nh_im_obj) (hT _ nh_co_obj) rfl (by rw [hml]; exact hl.1) rfl nd_Q_init_1 (Nat.le_of_ble_eq_true rfl) (Nat.le_of_ble_eq_true rfl) ?_
  refine W.eq (g2 := F0 m 4 ls []) rfl ?_
  refine lv_aload_n hx hb nd_Q_init_4 rfl (lv_at hl 0 rfl) ?_
  refine lv_iload_n hx hb nd_Q_init_5 rfl (lv_at hl 1 rfl) ?_
  refine xw_putF (T := nT_Q) (N := 5) (ci := 3) (v := .int st) (ty := .int) hx hb hT nu_Q nt_Q nk_Q nn_Q hown hK.1 hB hw hS hq rfl 0 (by decide) (hT _ nh_fl_Q_9) (fun _ h9 => h9) rfl hin rfl (by decide +kernel) rfl rfl (Nat.le_of_ble_eq_true rfl) nd_Q_init_6 (fun H locs hw hS => ?_)
  obtain ⟨w1, ew2⟩ : ∃ z, z = va_up w q (some (.inr (3, [.int st, .null, .null, .int 0, .int 0]))) := ⟨_, rfl⟩
  have hw : g_P G w1 H := by rw [ew2]; exact hw
  have hq : w1 q = some (.inr (3, [.int st, .null, .null, .int 0, .int 0])) := by rw [ew2]; exact va_up_self _ _ _
  refine lv_aload_n hx hb nd_Q_init_9 rfl (lv_at hl 0 rfl) ?_
  refine lv_aload_n hx hb nd_Q_init_10 rfl (lv_at hl 2 rfl) ?_
  refine xw_put (T := nT_Q) (N := 5) (ci := 3) (v := .ref r) (ty := (.object "RadixShelf$Root")) hx hb hT nu_Q nt_Q nk_Q nn_Q hown hK.1 hB hw hS hq rfl 1 (by decide) (hT _ nh_fl_Q_15) (fun _ h9 => h9) rfl (by decide +kernel) rfl rfl (Nat.le_of_ble_eq_true rfl) nd_Q_init_11 (fun H locs hw hS => ?_)
  obtain ⟨w3, ew4⟩ : ∃ z, z = va_up w1 q (some (.inr (3, [.int st, .ref r, .null, .int 0, .int 0]))) := ⟨_, rfl⟩
  have hw : g_P G w3 H := by rw [ew4]; exact hw
  have hq : w3 q = some (.inr (3, [.int st, .ref r, .null, .int 0, .int 0])) := by rw [ew4]; exact va_up_self _ _ _
  refine lv_aload_n hx hb nd_Q_init_14 rfl (lv_at hl 0 rfl) ?_
  refine lv_aload_n hx hb nd_Q_init_15 rfl (lv_at hl 3 rfl) ?_
  refine xw_put (T := nT_Q) (N := 5) (ci := 3) (v := .ref t) (ty := (.object "RadixShelf$Leaf")) hx hb hT nu_Q nt_Q nk_Q nn_Q hown hK.1 hB hw hS hq rfl 2 (by decide) (hT _ nh_fl_Q_19) (fun _ h9 => h9) rfl (by decide +kernel) rfl rfl (Nat.le_of_ble_eq_true rfl) nd_Q_init_16 (fun H locs hw hS => ?_)
  obtain ⟨w5, ew6⟩ : ∃ z, z = va_up w3 q (some (.inr (3, [.int st, .ref r, .ref t, .int 0, .int 0]))) := ⟨_, rfl⟩
  have hw : g_P G w5 H := by rw [ew6]; exact hw
  have hq : w5 q = some (.inr (3, [.int st, .ref r, .ref t, .int 0, .int 0])) := by rw [ew6]; exact va_up_self _ _ _
  refine lv_aload_n hx hb nd_Q_init_19 rfl (lv_at hl 0 rfl) ?_
  refine lv_iload hx hb nd_Q_init_20 (lv_at hl 4 rfl) ?_
  refine xw_put (T := nT_Q) (N := 5) (ci := 3) (v := .int o) (ty := .int) hx hb hT nu_Q nt_Q nk_Q nn_Q hown hK.1 hB hw hS hq rfl 3 (by decide) (hT _ nh_fl_Q_23) (fun _ h9 => h9) rfl (by decide +kernel) rfl rfl (Nat.le_of_ble_eq_true rfl) nd_Q_init_22 (fun H locs hw hS => ?_)
  obtain ⟨w7, ew8⟩ : ∃ z, z = va_up w5 q (some (.inr (3, [.int st, .ref r, .ref t, .int o, .int 0]))) := ⟨_, rfl⟩
  have hw : g_P G w7 H := by rw [ew8]; exact hw
  have hq : w7 q = some (.inr (3, [.int st, .ref r, .ref t, .int o, .int 0])) := by rw [ew8]; exact va_up_self _ _ _
  refine lv_aload_n hx hb nd_Q_init_25 rfl (lv_at hl 0 rfl) ?_
  refine lv_iload hx hb nd_Q_init_26 (lv_at hl 5 rfl) ?_
  refine xw_put (T := nT_Q) (N := 5) (ci := 3) (v := .int n) (ty := .int) hx hb hT nu_Q nt_Q nk_Q nn_Q hown hK.1 hB hw hS hq rfl 4 (by decide) (hT _ nh_fl_Q_26) (fun _ h9 => h9) rfl (by decide +kernel) rfl rfl (Nat.le_of_ble_eq_true rfl) nd_Q_init_28 (fun H locs hw hS => ?_)
  obtain ⟨w9, ew10⟩ : ∃ z, z = va_up w7 q (some (.inr (3, [.int st, .ref r, .ref t, .int o, .int n]))) := ⟨_, rfl⟩
  have hw : g_P G w9 H := by rw [ew10]; exact hw
  have hq : w9 q = some (.inr (3, [.int st, .ref r, .ref t, .int o, .int n])) := by rw [ew10]; exact va_up_self _ _ _
  exact g_vret hx hb hr hlocks hw hS (by rw [ew10, ew8, ew6, ew4, ew2, bx_uu, bx_uu, bx_uu, bx_uu]) (by exact Nat.le_of_ble_eq_true rfl) (by exact Nat.le_of_ble_eq_true rfl) nd_Q_init_31

set_option maxHeartbeats 4000000 in
set_option maxRecDepth 100000 in
theorem c_Q_write (l : Launch) {Z : Int32 → Prop} (G : g_G) (w : xw_W) (M d q r t o n p0 : Nat) (v : Int64) (hD : tr_Df (G.2.1 0) (G.2.1 1) (G.2.1 2) M d Z w q r t o n) (hp0 : p0 < 32768) : Met l ny_Q_write nw_Q_write ({ frames := 5, cells := 6, slots := 102, locals := 102 }) (g_Pc G w [.ref q, .int (nI p0), .long v]) (g_Qv G (fun w' => ∃ r1 t1, tr_Wr (G.2.1 0) (G.2.1 1) (G.2.1 2) M d Z w w' q r t o n p0 r1 t1 v)) 6 102 (xw_A (g_b G)) := by
  refine g_met (by decide) (Nat.le_of_ble_eq_true rfl) rfl ?_
  intro p e s m below meth c ls hx hb hr hts hown hlocks hin hml hl hK hB hw hS
  have hT : ∀ w ∈ nw_T, w.before _ s = true := fun w h => hts w (List.mem_cons_of_mem _ h)
  have hown : s.vm.findClass "RadixShelf$Sequence" = some m.cls := hown
  have hl : lv_has ls 6 [(0, .ref q), (1, .int (nI p0)), (2, .long v)] := hl
  obtain ⟨hW, hd, hq, ho, hn, hR, ht, hU, hul, hut, hz, hav⟩ := id hD
  have hq0 := hq
  have hTl := tr_tb_lt o n
  refine lv_iload_n hx hb nd_Q_write_0 rfl (lv_at hl 1 rfl) ?_
  refine lv_iconst (v := 5) hx hb nd_Q_write_1 (by decide) ?_
  refine lv_iushr (v := nI (p0 / 32)) hx hb nd_Q_write_2 (tr_ush5 (by omega)) ?_
  refine lv_istore hx hb nd_Q_write_3 hl (by decide) (lv' := [(4, .int (nI (p0 / 32))), (0, .ref q), (1, .int (nI p0)), (2, .long v)]) rfl (fun ls hl => ?_)
  refine lv_aload_n hx hb nd_Q_write_5 rfl (lv_at hl 1 rfl) ?_
  refine lv_iload hx hb nd_Q_write_6 (lv_at hl 0 rfl) ?_
  refine g_callr (va_runV (As := [.int (nI (p0 / 32))]) (rest := []) ⟨hx, hb, hml, hown, hts⟩ (c_Q_leafOf l G w q r t o n (p0 / 32) (nI d) ho hn hq hR (by omega)) (cwV (C := nR_Q) 1 hts (nw_of (nw_4 nh_ml_Q_33 nh_im_Q_leafOf nh_se_Q_leafOf nh_in_Q nh_co_Q_leafOf)) rfl rfl rfl (by decide +kernel) ⟨Nat.le_of_ble_eq_true rfl, Nat.le_of_ble_eq_true rfl⟩) (g_preV (ci := 3) (q := (nR_Q, nT_Q, 5)) hK hw hS rfl hq _) rfl rfl hl.1 rfl (lv_room (Nat.le_of_ble_eq_true rfl)) nd_Q_write_8 ⟨by exact Nat.le_of_ble_eq_true rfl, by exact Nat.le_of_ble_eq_true rfl⟩) hS (fun z w1 H locs hp hw hS => ?_)
  obtain ⟨ez, hw9⟩ := hp
  rw [hw9] at hw
  have hZ : tr_okL (G.2.1 0) w z := by rw [ez]; exact tr_blk_ok hR ht (by omega)
  have hz0 : w z = some (.inr (1, [.int (tr_stp w z), .ref (tr_arr w z)])) := hZ.1.cell
  obtain ⟨f, hf⟩ := hZ.2
  refine lv_aload_n hx hb nd_Q_write_11 rfl (lv_at hl 1 rfl) ?_
  refine xw_get (T := nT_Q) (N := 5) (ci := 3) hx hb hT nu_Q hown hK.1 hw hq rfl 0 (by decide) (hT _ nh_fl_Q_9) (fun _ h9 => h9) rfl nd_Q_write_12 ?_
  refine g_callr (va_runV (As := [.int (nI d)]) (rest := []) ⟨hx, hb, hml, hown, hts⟩ (c_F_ownedBy l G w z (tr_arr w z) d (tr_stp w z) f hz0 hf) (cwV (C := nR_F) 1 hts (nw_of (nw_4 nh_ml_Q_58 nh_im_F_ownedBy nh_se_F_ownedBy nh_in_F nh_co_F_ownedBy)) rfl rfl rfl (by decide +kernel) ⟨Nat.le_of_ble_eq_true rfl, Nat.le_of_ble_eq_true rfl⟩) (g_preV (ci := 1) (q := (nR_F, nT_F, 2)) hK hw hS rfl hz0 _) rfl rfl hl.1 rfl (lv_room (Nat.le_of_ble_eq_true rfl)) nd_Q_write_15 ⟨by exact Nat.le_of_ble_eq_true rfl, by exact Nat.le_of_ble_eq_true rfl⟩) hS (fun lf w2 H locs hO hw hS => ?_)
  obtain ⟨-, W1, n1, s1, a1, m1, f1, x1⟩ := hO.out (q := q) hW hd hZ.1
  have hq : w2 q = some (.inr (3, [.int (nI d), .ref r, .ref t, .int (nI o), .int (nI n)])) := x1 _ _ hq
  have hlf : w2 lf = some (.inr (1, [.int (tr_stp w2 lf), .ref (tr_arr w2 lf)])) := n1.cell
  have hf1 : w2 (tr_arr w2 lf) = some (.inl (G.2.1 0, 32, .inr (.inl f))) := by rw [a1]; exact hf
  have hf0 := hf1
  refine lv_astore hx hb nd_Q_write_18 hl (by decide) (lv' := [(5, .ref lf), (4, .int (nI (p0 / 32))), (0, .ref q), (1, .int (nI p0)), (2, .long v)]) rfl (fun ls hl => ?_)
  refine lv_aload hx hb nd_Q_write_20 (lv_at hl 0 rfl) ?_
  refine xw_get (T := nT_F) (N := 2) (ci := 1) hx hb hT nu_F hown hK.1 hw hlf rfl 1 (by decide) (hT _ nh_fl_Q_37) (fun _ h9 => h9) rfl nd_Q_write_22 ?_
  refine lv_iload_n hx hb nd_Q_write_25 rfl (lv_at hl 3 rfl) ?_
  refine lv_bipush (v := 31) hx hb nd_Q_write_26 (by decide) ?_
  refine lv_iand hx hb nd_Q_write_28 ?_
  refine lv_topi (fun y3 ey4 => ?_)
  obtain rfl : y3 = nI (p0 % 32) := ey4.trans (tr_and31 (by omega))
  refine lv_lload_n hx hb nd_Q_write_29 rfl (lv_at hl 4 rfl) ?_
  refine xw_last hx hb hK.1 hB hw hS 0 hf1 rfl (vp_in_nI (by omega) (by decide)) nd_Q_write_30 (fun H locs hw hS => ?_)
  rw [nI_clamp (by omega)] at hw
  obtain ⟨w5, ew6⟩ : ∃ z, z = va_up w2 (tr_arr w2 lf) (some (.inl (G.2.1 0, 32, .inr (.inl (vp_updL f (p0 % 32) v))))) := ⟨_, rfl⟩
  have hw : g_P G w5 H := by rw [ew6]; exact hw
  have hq : w5 q = some (.inr (3, [.int (nI d), .ref r, .ref t, .int (nI o), .int (nI n)])) := by rw [ew6, va_up_ne _ _ (xw_ne hq hf1 (by simp))]; exact hq
  have hlf : w5 lf = some (.inr (1, [.int (tr_stp w2 lf), .ref (tr_arr w2 lf)])) := by rw [ew6, va_up_ne _ _ (xw_ne hlf hf1 (by simp))]; exact hlf
  have hf1 : w5 (tr_arr w2 lf) = some (.inl (G.2.1 0, 32, .inr (.inl (vp_updL f (p0 % 32) v)))) := by rw [ew6]; exact va_up_self _ _ _
  obtain ⟨K2, W2, q2, R2, l2, U2, L2, s2, sm2, v2, f2, c2, b2⟩ := tr_leaf (pos := p0) (v := v) hW hd hq0 hR hU hZ hO hf0 ew6
  refine lv_iload hx hb nd_Q_write_31 (lv_at hl 1 rfl) ?_
  refine lv_aload_n hx hb nd_Q_write_33 rfl (lv_at hl 2 rfl) ?_
  refine g_calli (va_runV (As := []) (rest := [.int (nI (p0 / 32))]) ⟨hx, hb, hml, hown, hts⟩ (c_Q_tailBlock l G w5 q r t o n (nI d) ho hn hq) (cwV (C := nR_Q) 0 hts (nw_of (nw_4 nh_ml_Q_43 nh_im_Q_tailBlock nh_se_Q_tailBlock nh_in_Q nh_co_Q_tailBlock)) rfl rfl rfl (by decide +kernel) ⟨Nat.le_of_ble_eq_true rfl, Nat.le_of_ble_eq_true rfl⟩) (g_preV (ci := 3) (q := (nR_Q, nT_Q, 5)) hK hw hS rfl hq _) rfl rfl hl.1 rfl (lv_room (Nat.le_of_ble_eq_true rfl)) nd_Q_write_34 ⟨by exact Nat.le_of_ble_eq_true rfl, by exact Nat.le_of_ble_eq_true rfl⟩) hS (fun vt w7 H locs hp hw hS => ?_)
  obtain ⟨rfl, hw9⟩ := hp
  rw [hw9] at hw
  refine lv_icmp_ne (tgt := 49) hx hb nd_Q_write_37 (by decide) (fun hc => ?_) (fun hc => ?_)
  · refine lv_aload_n hx hb nd_Q_write_49 rfl (lv_at hl 2 rfl) ?_
    refine lv_iload hx hb nd_Q_write_50 (lv_at hl 1 rfl) ?_
    refine lv_aload hx hb nd_Q_write_52 (lv_at hl 0 rfl) ?_
    refine g_callv (va_runV (As := [.int (nI (p0 / 32)), .ref lf]) (rest := []) ⟨hx, hb, hml, hown, hts⟩ (c_Q_hang l G w5 M d q r t (p0 / 32) lf (nI o) (nI n) W2 hd hq R2 U2 L2 (by omega)) (cwV (C := nR_Q) 2 hts (nw_of (nw_4 nh_ml_Q_47 nh_im_Q_hang nh_se_Q_hang nh_in_Q nh_co_Q_hang)) rfl rfl rfl (by decide +kernel) ⟨Nat.le_of_ble_eq_true rfl, Nat.le_of_ble_eq_true rfl⟩) (g_preV (ci := 3) (q := (nR_Q, nT_Q, 5)) hK hw hS rfl hq _) rfl rfl hl.1 rfl (lv_room (Nat.le_of_ble_eq_true rfl)) nd_Q_write_54 ⟨by exact Nat.le_of_ble_eq_true rfl, by exact Nat.le_of_ble_eq_true rfl⟩) hS (fun w8 H locs hp hw hS => ?_)
    obtain ⟨r1, hG⟩ := hp
    have hT : p0 / 32 ≠ tr_tb o n := fun z => hc (by rw [z])
    have ez2 : z = tr_lfb w r (p0 / 32) := by rw [ez]; unfold tr_blk; rw [if_neg hT]
    obtain ⟨D3, K3, V3⟩ := tr_writeH hD hp0 hT (by rw [← ez2]; exact hO) hf0 ew6 hG
    exact g_vret hx hb hr hlocks hw hS (⟨r1, t, D3, K3, V3, fun z => absurd z hT⟩) (by exact Nat.le_of_ble_eq_true rfl) (by exact Nat.le_of_ble_eq_true rfl) nd_Q_write_57
  · refine lv_aload_n hx hb nd_Q_write_40 rfl (lv_at hl 2 rfl) ?_
    refine lv_aload hx hb nd_Q_write_41 (lv_at hl 0 rfl) ?_
    refine xw_put (T := nT_Q) (N := 5) (ci := 3) (v := .ref lf) (ty := (.object "RadixShelf$Leaf")) hx hb hT nu_Q nt_Q nk_Q nn_Q hown hK.1 hB hw hS hq rfl 2 (by decide) (hT _ nh_fl_Q_19) (fun _ h9 => h9) rfl (by decide +kernel) rfl rfl (Nat.le_of_ble_eq_true rfl) nd_Q_write_43 (fun H locs hw hS => ?_)
    obtain ⟨w8, ew9⟩ : ∃ z, z = va_up w5 q (some (.inr (3, [.int (nI d), .ref r, .ref lf, .int (nI o), .int (nI n)]))) := ⟨_, rfl⟩
    have hw : g_P G w8 H := by rw [ew9]; exact hw
    have hlf : w8 lf = some (.inr (1, [.int (tr_stp w2 lf), .ref (tr_arr w2 lf)])) := by rw [ew9, va_up_ne _ _ (xw_ne hlf hq (by simp))]; exact hlf
    have hf1 : w8 (tr_arr w2 lf) = some (.inl (G.2.1 0, 32, .inr (.inl (vp_updL f (p0 % 32) v)))) := by rw [ew9, va_up_ne _ _ (xw_ne hf1 hq (by simp))]; exact hf1
    have hq : w8 q = some (.inr (3, [.int (nI d), .ref r, .ref lf, .int (nI o), .int (nI n)])) := by rw [ew9]; exact va_up_self _ _ _
    refine lv_goto (tgt := 57) hx hb nd_Q_write_46 (by decide) ?_
    have hT : p0 / 32 = tr_tb o n := (nI_eq (by omega) (by omega)).mp hc
    have ez2 : z = t := by rw [ez]; unfold tr_blk; rw [if_pos hT]
    obtain ⟨D3, K3, V3⟩ := tr_writeT hD hp0 hT (by rw [← ez2]; exact hO) hf0 ew6 ew9
    exact g_vret hx hb hr hlocks hw hS (⟨r, lf, D3, K3, V3, fun _ => by rw [ew9, tr_stp_eq (tr_up_ne (tr_notSeq L2.1 q2))]; exact s2⟩) (by exact Nat.le_of_ble_eq_true rfl) (by exact Nat.le_of_ble_eq_true rfl) nd_Q_write_57

set_option maxHeartbeats 4000000 in
set_option maxRecDepth 100000 in
theorem c_Q_writeT (l : Launch) {Z : Int32 → Prop} (G : g_G) (w : xw_W) (M d q r t o n p0 : Nat) (v : Int64) (hD : tr_Df (G.2.1 0) (G.2.1 1) (G.2.1 2) M d Z w q r t o n) (hp0 : p0 < 32768) (hT0 : p0 / 32 = tr_tb o n) : Met l ny_Q_write nw_Q_write ({ frames := 3, cells := 2, slots := 34, locals := 62 }) (g_Pc G w [.ref q, .int (nI p0), .long v]) (g_Qv G (fun w' => ∃ r1 t1, tr_Wr (G.2.1 0) (G.2.1 1) (G.2.1 2) M d Z w w' q r t o n p0 r1 t1 v)) 2 34 (xw_A (g_b G)) := by
  refine g_met (by decide) (Nat.le_of_ble_eq_true rfl) rfl ?_
  intro p e s m below meth c ls hx hb hr hts hown hlocks hin hml hl hK hB hw hS
  have hT : ∀ w ∈ nw_T, w.before _ s = true := fun w h => hts w (List.mem_cons_of_mem _ h)
  have hown : s.vm.findClass "RadixShelf$Sequence" = some m.cls := hown
  have hl : lv_has ls 6 [(0, .ref q), (1, .int (nI p0)), (2, .long v)] := hl
  obtain ⟨hW, hd, hq, ho, hn, hR, ht, hU, hul, hut, hz, hav⟩ := id hD
  have hq0 := hq
  have hTl := tr_tb_lt o n
  refine lv_iload_n hx hb nd_Q_write_0 rfl (lv_at hl 1 rfl) ?_
  refine lv_iconst (v := 5) hx hb nd_Q_write_1 (by decide) ?_
  refine lv_iushr (v := nI (p0 / 32)) hx hb nd_Q_write_2 (tr_ush5 (by omega)) ?_
  refine lv_istore hx hb nd_Q_write_3 hl (by decide) (lv' := [(4, .int (nI (p0 / 32))), (0, .ref q), (1, .int (nI p0)), (2, .long v)]) rfl (fun ls hl => ?_)
  refine lv_aload_n hx hb nd_Q_write_5 rfl (lv_at hl 1 rfl) ?_
  refine lv_iload hx hb nd_Q_write_6 (lv_at hl 0 rfl) ?_
  refine g_callr (va_runV (As := [.int (nI (p0 / 32))]) (rest := []) ⟨hx, hb, hml, hown, hts⟩ (c_Q_leafOf l G w q r t o n (p0 / 32) (nI d) ho hn hq hR (by omega)) (cwV (C := nR_Q) 1 hts (nw_of (nw_4 nh_ml_Q_33 nh_im_Q_leafOf nh_se_Q_leafOf nh_in_Q nh_co_Q_leafOf)) rfl rfl rfl (by decide +kernel) ⟨Nat.le_of_ble_eq_true rfl, Nat.le_of_ble_eq_true rfl⟩) (g_preV (ci := 3) (q := (nR_Q, nT_Q, 5)) hK hw hS rfl hq _) rfl rfl hl.1 rfl (lv_room (Nat.le_of_ble_eq_true rfl)) nd_Q_write_8 ⟨by exact Nat.le_of_ble_eq_true rfl, by exact Nat.le_of_ble_eq_true rfl⟩) hS (fun z w1 H locs hp hw hS => ?_)
  obtain ⟨ez, hw9⟩ := hp
  rw [hw9] at hw
  have hZ : tr_okL (G.2.1 0) w z := by rw [ez]; exact tr_blk_ok hR ht (by omega)
  have hz0 : w z = some (.inr (1, [.int (tr_stp w z), .ref (tr_arr w z)])) := hZ.1.cell
  obtain ⟨f, hf⟩ := hZ.2
  refine lv_aload_n hx hb nd_Q_write_11 rfl (lv_at hl 1 rfl) ?_
  refine xw_get (T := nT_Q) (N := 5) (ci := 3) hx hb hT nu_Q hown hK.1 hw hq rfl 0 (by decide) (hT _ nh_fl_Q_9) (fun _ h9 => h9) rfl nd_Q_write_12 ?_
  refine g_callr (va_runV (As := [.int (nI d)]) (rest := []) ⟨hx, hb, hml, hown, hts⟩ (c_F_ownedBy l G w z (tr_arr w z) d (tr_stp w z) f hz0 hf) (cwV (C := nR_F) 1 hts (nw_of (nw_4 nh_ml_Q_58 nh_im_F_ownedBy nh_se_F_ownedBy nh_in_F nh_co_F_ownedBy)) rfl rfl rfl (by decide +kernel) ⟨Nat.le_of_ble_eq_true rfl, Nat.le_of_ble_eq_true rfl⟩) (g_preV (ci := 1) (q := (nR_F, nT_F, 2)) hK hw hS rfl hz0 _) rfl rfl hl.1 rfl (lv_room (Nat.le_of_ble_eq_true rfl)) nd_Q_write_15 ⟨by exact Nat.le_of_ble_eq_true rfl, by exact Nat.le_of_ble_eq_true rfl⟩) hS (fun lf w2 H locs hO hw hS => ?_)
  obtain ⟨-, W1, n1, s1, a1, m1, f1, x1⟩ := hO.out (q := q) hW hd hZ.1
  have hq : w2 q = some (.inr (3, [.int (nI d), .ref r, .ref t, .int (nI o), .int (nI n)])) := x1 _ _ hq
  have hlf : w2 lf = some (.inr (1, [.int (tr_stp w2 lf), .ref (tr_arr w2 lf)])) := n1.cell
  have hf1 : w2 (tr_arr w2 lf) = some (.inl (G.2.1 0, 32, .inr (.inl f))) := by rw [a1]; exact hf
  have hf0 := hf1
  refine lv_astore hx hb nd_Q_write_18 hl (by decide) (lv' := [(5, .ref lf), (4, .int (nI (p0 / 32))), (0, .ref q), (1, .int (nI p0)), (2, .long v)]) rfl (fun ls hl => ?_)
  refine lv_aload hx hb nd_Q_write_20 (lv_at hl 0 rfl) ?_
  refine xw_get (T := nT_F) (N := 2) (ci := 1) hx hb hT nu_F hown hK.1 hw hlf rfl 1 (by decide) (hT _ nh_fl_Q_37) (fun _ h9 => h9) rfl nd_Q_write_22 ?_
  refine lv_iload_n hx hb nd_Q_write_25 rfl (lv_at hl 3 rfl) ?_
  refine lv_bipush (v := 31) hx hb nd_Q_write_26 (by decide) ?_
  refine lv_iand hx hb nd_Q_write_28 ?_
  refine lv_topi (fun y3 ey4 => ?_)
  obtain rfl : y3 = nI (p0 % 32) := ey4.trans (tr_and31 (by omega))
  refine lv_lload_n hx hb nd_Q_write_29 rfl (lv_at hl 4 rfl) ?_
  refine xw_last hx hb hK.1 hB hw hS 0 hf1 rfl (vp_in_nI (by omega) (by decide)) nd_Q_write_30 (fun H locs hw hS => ?_)
  rw [nI_clamp (by omega)] at hw
  obtain ⟨w5, ew6⟩ : ∃ z, z = va_up w2 (tr_arr w2 lf) (some (.inl (G.2.1 0, 32, .inr (.inl (vp_updL f (p0 % 32) v))))) := ⟨_, rfl⟩
  have hw : g_P G w5 H := by rw [ew6]; exact hw
  have hq : w5 q = some (.inr (3, [.int (nI d), .ref r, .ref t, .int (nI o), .int (nI n)])) := by rw [ew6, va_up_ne _ _ (xw_ne hq hf1 (by simp))]; exact hq
  have hlf : w5 lf = some (.inr (1, [.int (tr_stp w2 lf), .ref (tr_arr w2 lf)])) := by rw [ew6, va_up_ne _ _ (xw_ne hlf hf1 (by simp))]; exact hlf
  have hf1 : w5 (tr_arr w2 lf) = some (.inl (G.2.1 0, 32, .inr (.inl (vp_updL f (p0 % 32) v)))) := by rw [ew6]; exact va_up_self _ _ _
  obtain ⟨K2, W2, q2, R2, l2, U2, L2, s2, sm2, v2, f2, c2, b2⟩ := tr_leaf (pos := p0) (v := v) hW hd hq0 hR hU hZ hO hf0 ew6
  refine lv_iload hx hb nd_Q_write_31 (lv_at hl 1 rfl) ?_
  refine lv_aload_n hx hb nd_Q_write_33 rfl (lv_at hl 2 rfl) ?_
  refine g_calli (va_runV (As := []) (rest := [.int (nI (p0 / 32))]) ⟨hx, hb, hml, hown, hts⟩ (c_Q_tailBlock l G w5 q r t o n (nI d) ho hn hq) (cwV (C := nR_Q) 0 hts (nw_of (nw_4 nh_ml_Q_43 nh_im_Q_tailBlock nh_se_Q_tailBlock nh_in_Q nh_co_Q_tailBlock)) rfl rfl rfl (by decide +kernel) ⟨Nat.le_of_ble_eq_true rfl, Nat.le_of_ble_eq_true rfl⟩) (g_preV (ci := 3) (q := (nR_Q, nT_Q, 5)) hK hw hS rfl hq _) rfl rfl hl.1 rfl (lv_room (Nat.le_of_ble_eq_true rfl)) nd_Q_write_34 ⟨by exact Nat.le_of_ble_eq_true rfl, by exact Nat.le_of_ble_eq_true rfl⟩) hS (fun vt w7 H locs hp hw hS => ?_)
  obtain ⟨rfl, hw9⟩ := hp
  rw [hw9] at hw
  refine lv_icmp_ne (tgt := 49) hx hb nd_Q_write_37 (by decide) (fun hc => ?_) (fun hc => ?_)
  · exact absurd (by rw [hT0]) hc
  · refine lv_aload_n hx hb nd_Q_write_40 rfl (lv_at hl 2 rfl) ?_
    refine lv_aload hx hb nd_Q_write_41 (lv_at hl 0 rfl) ?_
    refine xw_put (T := nT_Q) (N := 5) (ci := 3) (v := .ref lf) (ty := (.object "RadixShelf$Leaf")) hx hb hT nu_Q nt_Q nk_Q nn_Q hown hK.1 hB hw hS hq rfl 2 (by decide) (hT _ nh_fl_Q_19) (fun _ h9 => h9) rfl (by decide +kernel) rfl rfl (Nat.le_of_ble_eq_true rfl) nd_Q_write_43 (fun H locs hw hS => ?_)
    obtain ⟨w8, ew9⟩ : ∃ z, z = va_up w5 q (some (.inr (3, [.int (nI d), .ref r, .ref lf, .int (nI o), .int (nI n)]))) := ⟨_, rfl⟩
    have hw : g_P G w8 H := by rw [ew9]; exact hw
    have hlf : w8 lf = some (.inr (1, [.int (tr_stp w2 lf), .ref (tr_arr w2 lf)])) := by rw [ew9, va_up_ne _ _ (xw_ne hlf hq (by simp))]; exact hlf
    have hf1 : w8 (tr_arr w2 lf) = some (.inl (G.2.1 0, 32, .inr (.inl (vp_updL f (p0 % 32) v)))) := by rw [ew9, va_up_ne _ _ (xw_ne hf1 hq (by simp))]; exact hf1
    have hq : w8 q = some (.inr (3, [.int (nI d), .ref r, .ref lf, .int (nI o), .int (nI n)])) := by rw [ew9]; exact va_up_self _ _ _
    refine lv_goto (tgt := 57) hx hb nd_Q_write_46 (by decide) ?_
    have hT : p0 / 32 = tr_tb o n := (nI_eq (by omega) (by omega)).mp hc
    have ez2 : z = t := by rw [ez]; unfold tr_blk; rw [if_pos hT]
    obtain ⟨D3, K3, V3⟩ := tr_writeT hD hp0 hT (by rw [← ez2]; exact hO) hf0 ew6 ew9
    exact g_vret hx hb hr hlocks hw hS (⟨r, lf, D3, K3, V3, fun _ => by rw [ew9, tr_stp_eq (tr_up_ne (tr_notSeq L2.1 q2))]; exact s2⟩) (by exact Nat.le_of_ble_eq_true rfl) (by exact Nat.le_of_ble_eq_true rfl) nd_Q_write_57

set_option maxHeartbeats 4000000 in
set_option maxRecDepth 100000 in
theorem c_Q_write0 (l : Launch) {Z : Int32 → Prop} (G : g_G) (w : xw_W) (M d q r t o n p0 : Nat) (v : Int64) (hD : tr_Df (G.2.1 0) (G.2.1 1) (G.2.1 2) M d Z w q r t o n) (hp0 : p0 < 32768) (hT0 : p0 / 32 = tr_tb o n) (hs0 : tr_stp w t = nI d) : Met l ny_Q_write nw_Q_write ({ frames := 3, cells := 0, slots := 0, locals := 62 }) (g_Pc G w [.ref q, .int (nI p0), .long v]) (g_Qv G (fun w' => ∃ r1 t1, tr_Wr (G.2.1 0) (G.2.1 1) (G.2.1 2) M d Z w w' q r t o n p0 r1 t1 v)) 0 0 (xw_A (g_b G)) := by
  refine g_met (by decide) (Nat.le_of_ble_eq_true rfl) rfl ?_
  intro p e s m below meth c ls hx hb hr hts hown hlocks hin hml hl hK hB hw hS
  have hT : ∀ w ∈ nw_T, w.before _ s = true := fun w h => hts w (List.mem_cons_of_mem _ h)
  have hown : s.vm.findClass "RadixShelf$Sequence" = some m.cls := hown
  have hl : lv_has ls 6 [(0, .ref q), (1, .int (nI p0)), (2, .long v)] := hl
  obtain ⟨hW, hd, hq, ho, hn, hR, ht, hU, hul, hut, hz, hav⟩ := id hD
  have hq0 := hq
  have hTl := tr_tb_lt o n
  refine lv_iload_n hx hb nd_Q_write_0 rfl (lv_at hl 1 rfl) ?_
  refine lv_iconst (v := 5) hx hb nd_Q_write_1 (by decide) ?_
  refine lv_iushr (v := nI (p0 / 32)) hx hb nd_Q_write_2 (tr_ush5 (by omega)) ?_
  refine lv_istore hx hb nd_Q_write_3 hl (by decide) (lv' := [(4, .int (nI (p0 / 32))), (0, .ref q), (1, .int (nI p0)), (2, .long v)]) rfl (fun ls hl => ?_)
  refine lv_aload_n hx hb nd_Q_write_5 rfl (lv_at hl 1 rfl) ?_
  refine lv_iload hx hb nd_Q_write_6 (lv_at hl 0 rfl) ?_
  refine g_callr (va_runV (As := [.int (nI (p0 / 32))]) (rest := []) ⟨hx, hb, hml, hown, hts⟩ (c_Q_leafOf l G w q r t o n (p0 / 32) (nI d) ho hn hq hR (by omega)) (cwV (C := nR_Q) 1 hts (nw_of (nw_4 nh_ml_Q_33 nh_im_Q_leafOf nh_se_Q_leafOf nh_in_Q nh_co_Q_leafOf)) rfl rfl rfl (by decide +kernel) ⟨Nat.le_of_ble_eq_true rfl, Nat.le_of_ble_eq_true rfl⟩) (g_preV (ci := 3) (q := (nR_Q, nT_Q, 5)) hK hw hS rfl hq _) rfl rfl hl.1 rfl (lv_room (Nat.le_of_ble_eq_true rfl)) nd_Q_write_8 ⟨by exact Nat.le_of_ble_eq_true rfl, by exact Nat.le_of_ble_eq_true rfl⟩) hS (fun z w1 H locs hp hw hS => ?_)
  obtain ⟨ez, hw9⟩ := hp
  rw [hw9] at hw
  have hZ : tr_okL (G.2.1 0) w z := by rw [ez]; exact tr_blk_ok hR ht (by omega)
  have hz0 : w z = some (.inr (1, [.int (tr_stp w z), .ref (tr_arr w z)])) := hZ.1.cell
  obtain ⟨f, hf⟩ := hZ.2
  have ezt : z = t := by rw [ez]; unfold tr_blk; rw [if_pos hT0]
  have hzs : tr_stp w z = nI d := by rw [ezt]; exact hs0
  rw [hzs] at hz0
  refine lv_aload_n hx hb nd_Q_write_11 rfl (lv_at hl 1 rfl) ?_
  refine xw_get (T := nT_Q) (N := 5) (ci := 3) hx hb hT nu_Q hown hK.1 hw hq rfl 0 (by decide) (hT _ nh_fl_Q_9) (fun _ h9 => h9) rfl nd_Q_write_12 ?_
  refine g_callr (va_runV (As := [.int (nI d)]) (rest := []) ⟨hx, hb, hml, hown, hts⟩ (c_F_ownedBy0 l G w z (tr_arr w z) d hz0) (cwV (C := nR_F) 1 hts (nw_of (nw_4 nh_ml_Q_58 nh_im_F_ownedBy nh_se_F_ownedBy nh_in_F nh_co_F_ownedBy)) rfl rfl rfl (by decide +kernel) ⟨Nat.le_of_ble_eq_true rfl, Nat.le_of_ble_eq_true rfl⟩) (g_preV (ci := 1) (q := (nR_F, nT_F, 2)) hK hw hS rfl hz0 _) rfl rfl hl.1 rfl (lv_room (Nat.le_of_ble_eq_true rfl)) nd_Q_write_15 ⟨by exact Nat.le_of_ble_eq_true rfl, by exact Nat.le_of_ble_eq_true rfl⟩) hS (fun lf w2 H locs hp hw hS => ?_)
  have hO : tr_Ow tr_kL d w w2 z lf := Or.inl ⟨hzs, hp.1, hp.2⟩
  obtain ⟨-, W1, n1, s1, a1, m1, f1, x1⟩ := hO.out (q := q) hW hd hZ.1
  have hq : w2 q = some (.inr (3, [.int (nI d), .ref r, .ref t, .int (nI o), .int (nI n)])) := x1 _ _ hq
  have hlf : w2 lf = some (.inr (1, [.int (tr_stp w2 lf), .ref (tr_arr w2 lf)])) := n1.cell
  have hf1 : w2 (tr_arr w2 lf) = some (.inl (G.2.1 0, 32, .inr (.inl f))) := by rw [a1]; exact hf
  have hf0 := hf1
  refine lv_astore hx hb nd_Q_write_18 hl (by decide) (lv' := [(5, .ref lf), (4, .int (nI (p0 / 32))), (0, .ref q), (1, .int (nI p0)), (2, .long v)]) rfl (fun ls hl => ?_)
  refine lv_aload hx hb nd_Q_write_20 (lv_at hl 0 rfl) ?_
  refine xw_get (T := nT_F) (N := 2) (ci := 1) hx hb hT nu_F hown hK.1 hw hlf rfl 1 (by decide) (hT _ nh_fl_Q_37) (fun _ h9 => h9) rfl nd_Q_write_22 ?_
  refine lv_iload_n hx hb nd_Q_write_25 rfl (lv_at hl 3 rfl) ?_
  refine lv_bipush (v := 31) hx hb nd_Q_write_26 (by decide) ?_
  refine lv_iand hx hb nd_Q_write_28 ?_
  refine lv_topi (fun y3 ey4 => ?_)
  obtain rfl : y3 = nI (p0 % 32) := ey4.trans (tr_and31 (by omega))
  refine lv_lload_n hx hb nd_Q_write_29 rfl (lv_at hl 4 rfl) ?_
  refine xw_last hx hb hK.1 hB hw hS 0 hf1 rfl (vp_in_nI (by omega) (by decide)) nd_Q_write_30 (fun H locs hw hS => ?_)
  rw [nI_clamp (by omega)] at hw
  obtain ⟨w5, ew6⟩ : ∃ z, z = va_up w2 (tr_arr w2 lf) (some (.inl (G.2.1 0, 32, .inr (.inl (vp_updL f (p0 % 32) v))))) := ⟨_, rfl⟩
  have hw : g_P G w5 H := by rw [ew6]; exact hw
  have hq : w5 q = some (.inr (3, [.int (nI d), .ref r, .ref t, .int (nI o), .int (nI n)])) := by rw [ew6, va_up_ne _ _ (xw_ne hq hf1 (by simp))]; exact hq
  have hlf : w5 lf = some (.inr (1, [.int (tr_stp w2 lf), .ref (tr_arr w2 lf)])) := by rw [ew6, va_up_ne _ _ (xw_ne hlf hf1 (by simp))]; exact hlf
  have hf1 : w5 (tr_arr w2 lf) = some (.inl (G.2.1 0, 32, .inr (.inl (vp_updL f (p0 % 32) v)))) := by rw [ew6]; exact va_up_self _ _ _
  obtain ⟨K2, W2, q2, R2, l2, U2, L2, s2, sm2, v2, f2, c2, b2⟩ := tr_leaf (pos := p0) (v := v) hW hd hq0 hR hU hZ hO hf0 ew6
  refine lv_iload hx hb nd_Q_write_31 (lv_at hl 1 rfl) ?_
  refine lv_aload_n hx hb nd_Q_write_33 rfl (lv_at hl 2 rfl) ?_
  refine g_calli (va_runV (As := []) (rest := [.int (nI (p0 / 32))]) ⟨hx, hb, hml, hown, hts⟩ (c_Q_tailBlock l G w5 q r t o n (nI d) ho hn hq) (cwV (C := nR_Q) 0 hts (nw_of (nw_4 nh_ml_Q_43 nh_im_Q_tailBlock nh_se_Q_tailBlock nh_in_Q nh_co_Q_tailBlock)) rfl rfl rfl (by decide +kernel) ⟨Nat.le_of_ble_eq_true rfl, Nat.le_of_ble_eq_true rfl⟩) (g_preV (ci := 3) (q := (nR_Q, nT_Q, 5)) hK hw hS rfl hq _) rfl rfl hl.1 rfl (lv_room (Nat.le_of_ble_eq_true rfl)) nd_Q_write_34 ⟨by exact Nat.le_of_ble_eq_true rfl, by exact Nat.le_of_ble_eq_true rfl⟩) hS (fun vt w7 H locs hp hw hS => ?_)
  obtain ⟨rfl, hw9⟩ := hp
  rw [hw9] at hw
  refine lv_icmp_ne (tgt := 49) hx hb nd_Q_write_37 (by decide) (fun hc => ?_) (fun hc => ?_)
  · exact absurd (by rw [hT0]) hc
  · refine lv_aload_n hx hb nd_Q_write_40 rfl (lv_at hl 2 rfl) ?_
    refine lv_aload hx hb nd_Q_write_41 (lv_at hl 0 rfl) ?_
    refine xw_put (T := nT_Q) (N := 5) (ci := 3) (v := .ref lf) (ty := (.object "RadixShelf$Leaf")) hx hb hT nu_Q nt_Q nk_Q nn_Q hown hK.1 hB hw hS hq rfl 2 (by decide) (hT _ nh_fl_Q_19) (fun _ h9 => h9) rfl (by decide +kernel) rfl rfl (Nat.le_of_ble_eq_true rfl) nd_Q_write_43 (fun H locs hw hS => ?_)
    obtain ⟨w8, ew9⟩ : ∃ z, z = va_up w5 q (some (.inr (3, [.int (nI d), .ref r, .ref lf, .int (nI o), .int (nI n)]))) := ⟨_, rfl⟩
    have hw : g_P G w8 H := by rw [ew9]; exact hw
    have hlf : w8 lf = some (.inr (1, [.int (tr_stp w2 lf), .ref (tr_arr w2 lf)])) := by rw [ew9, va_up_ne _ _ (xw_ne hlf hq (by simp))]; exact hlf
    have hf1 : w8 (tr_arr w2 lf) = some (.inl (G.2.1 0, 32, .inr (.inl (vp_updL f (p0 % 32) v)))) := by rw [ew9, va_up_ne _ _ (xw_ne hf1 hq (by simp))]; exact hf1
    have hq : w8 q = some (.inr (3, [.int (nI d), .ref r, .ref lf, .int (nI o), .int (nI n)])) := by rw [ew9]; exact va_up_self _ _ _
    refine lv_goto (tgt := 57) hx hb nd_Q_write_46 (by decide) ?_
    have hT : p0 / 32 = tr_tb o n := (nI_eq (by omega) (by omega)).mp hc
    have ez2 : z = t := by rw [ez]; unfold tr_blk; rw [if_pos hT]
    obtain ⟨D3, K3, V3⟩ := tr_writeT hD hp0 hT (by rw [← ez2]; exact hO) hf0 ew6 ew9
    exact g_vret hx hb hr hlocks hw hS (⟨r, lf, D3, K3, V3, fun _ => by rw [ew9, tr_stp_eq (tr_up_ne (tr_notSeq L2.1 q2))]; exact s2⟩) (by exact Nat.le_of_ble_eq_true rfl) (by exact Nat.le_of_ble_eq_true rfl) nd_Q_write_57
