theorem tr_seq0 {Z : Int32 → Prop} {cJ cL cB M d q r t o n : Nat} {o' n' : Int32} {w w0 : tr_W} (hD : tr_Df cJ cL cB M d Z w q r t o n) (h0 : w0 = va_up w q (some (tr_S (nI d) r t o' n'))) : tr_Wi w0 M ∧ tr_okR cJ cL cB w0 r ∧ tr_Ub w0 r d ∧ tr_okL cJ w0 t ∧ (∀ b, b < 1024 → tr_lfb w0 r b = tr_lfb w r b) ∧ tr_stp w0 t = tr_stp w t := by
  obtain ⟨hW, hd, hq, ho, hn, hR, ht, hU, hl, hut, -⟩ := hD
  have sm : ∀ k m, tr_isN w k m → tr_Same w w0 m := fun k m hm => by rw [h0]; exact tr_sq_same hW hq hm
  obtain ⟨R0, b0, l0⟩ := tr_okR_all hR sm
  exact ⟨by rw [h0]; exact tr_sq_Wi hW hq, R0, tr_Ub_all hR hU (fun k m hm => (sm k m hm).1) b0, tr_okL_same ht (sm _ _ ht.1), l0, (sm _ _ ht.1).stp⟩
/-- what an append says -/
def tr_Ap (cJ cL cB M d : Nat) (Z : Int32 → Prop) (w w' : tr_W) (q r t o n r1 t1 : Nat) (v : Int64) : Prop := tr_Df cJ cL cB M d Z w' q r1 t1 o (n + 1) ∧ tr_Kp d q w w' ∧ (∀ x, x < 32768 → tr_vl w' r1 t1 (tr_tb o (n + 1)) x = if x = (o + n) % 32768 then v else tr_vl w r t (tr_tb o n) x) ∧ tr_stp w' t1 = nI d
theorem tr_ap {Z : Int32 → Prop} {cJ cL cB M d q r t r0 t0 o n r1 t1 : Nat} {w w1 w' : tr_W} {v : Int64} (hK : tr_Kp d q w w1) (hV : ∀ x, x < 32768 → tr_vl w1 r0 t0 (tr_tb o (n + 1)) x = tr_vl w r t (tr_tb o n) x) (h : tr_Wr cJ cL cB M d Z w1 w' q r0 t0 o (n + 1) ((o + n) % 32768) r1 t1 v) : tr_Ap cJ cL cB M d Z w w' q r t o n r1 t1 v :=
  ⟨h.1, hK.tr h.2.1, fun x hx => by rw [h.2.2.1 x hx, hV x hx], h.2.2.2 (tr_tb1 o n)⟩

set_option maxHeartbeats 4000000 in
set_option maxRecDepth 100000 in
theorem c_Q_append (l : Launch) {Z : Int32 → Prop} (G : g_G) (w : xw_W) (M d q r t o n : Nat) (v : Int64) (hD : tr_Df (G.2.1 0) (G.2.1 1) (G.2.1 2) M d Z w q r t o n) (hn1 : n < 3000) : Met l ny_Q_append nw_Q_append ({ frames := 5, cells := 6, slots := 102, locals := 127 }) (g_Pc G w [.ref q, .long v]) (g_Qv G (fun w' => ∃ r1 t1, tr_Ap (G.2.1 0) (G.2.1 1) (G.2.1 2) M d Z w w' q r t o n r1 t1 v)) 6 102 (xw_A (g_b G)) := by
  refine g_met (by decide) (Nat.le_of_ble_eq_true rfl) rfl ?_
  intro p e s m below meth c ls hx hb hr hts hown hlocks hin hml hl hK hB hw hS
  have hT : ∀ w ∈ nw_T, w.before _ s = true := fun w h => hts w (List.mem_cons_of_mem _ h)
  have hown : s.vm.findClass "RadixShelf$Sequence" = some m.cls := hown
  have hl : lv_has ls 6 [(0, .ref q), (1, .long v)] := hl
  obtain ⟨hW, hd, hq, ho, hn, hR, ht, hU, hul, hut, hz, hav⟩ := id hD
  have hq0 := hq
  have hTl := tr_tb_lt o n
  have hTl1 := tr_tb_lt o (n + 1)
  refine lv_aload_n hx hb nd_Q_append_0 rfl (lv_at hl 0 rfl) ?_
  refine lv_aload_n hx hb nd_Q_append_1 rfl (lv_at hl 0 rfl) ?_
  refine xw_get (T := nT_Q) (N := 5) (ci := 3) hx hb hT nu_Q hown hK.1 hw hq rfl 4 (by decide) (hT _ nh_fl_Q_26) (fun _ h9 => h9) rfl nd_Q_append_2 ?_
  refine g_calli (va_runV (As := [.int (nI n)]) (rest := []) ⟨hx, hb, hml, hown, hts⟩ (c_Q_position l G w q r t o (nI d) (nI n) (nI n) ho hq) (cwV (C := nR_Q) 1 hts (nw_of (nw_4 nh_ml_Q_29 nh_im_Q_position nh_se_Q_position nh_in_Q nh_co_Q_position)) rfl rfl rfl (by decide +kernel) ⟨Nat.le_of_ble_eq_true rfl, Nat.le_of_ble_eq_true rfl⟩) (g_preV (ci := 3) (q := (nR_Q, nT_Q, 5)) hK hw hS rfl hq _) rfl rfl hl.1 rfl (lv_room (Nat.le_of_ble_eq_true rfl)) nd_Q_append_5 ⟨by exact Nat.le_of_ble_eq_true rfl, by exact Nat.le_of_ble_eq_true rfl⟩) hS (fun v1 w1 H locs hp hw hS => ?_)
  obtain ⟨rfl, hw9⟩ := hp
  rw [hw9] at hw
  refine lv_topi (fun y2 ey3 => ?_)
  obtain rfl : y2 = nI ((o + n) % 32768) := ey3.trans (by rw [pk_tn (by omega)])
  refine lv_istore_n hx hb nd_Q_append_8 rfl hl (by decide) (lv' := [(3, .int (nI ((o + n) % 32768))), (0, .ref q), (1, .long v)]) rfl (fun ls hl => ?_)
  refine lv_iload_n hx hb nd_Q_append_9 rfl (lv_at hl 0 rfl) ?_
  refine lv_iconst (v := 5) hx hb nd_Q_append_10 (by decide) ?_
  refine lv_iushr (v := nI (tr_tb o (n + 1))) hx hb nd_Q_append_11 ((tr_ush5 (by omega)).trans (congrArg nI (tr_tb1 o n))) ?_
  refine lv_istore hx hb nd_Q_append_12 hl (by decide) (lv' := [(4, .int (nI (tr_tb o (n + 1)))), (3, .int (nI ((o + n) % 32768))), (0, .ref q), (1, .long v)]) rfl (fun ls hl => ?_)
  refine lv_aload_n hx hb nd_Q_append_14 rfl (lv_at hl 2 rfl) ?_
  refine g_calli (va_runV (As := []) (rest := []) ⟨hx, hb, hml, hown, hts⟩ (c_Q_tailBlock l G w q r t o n (nI d) ho hn hq) (cwV (C := nR_Q) 0 hts (nw_of (nw_4 nh_ml_Q_43 nh_im_Q_tailBlock nh_se_Q_tailBlock nh_in_Q nh_co_Q_tailBlock)) rfl rfl rfl (by decide +kernel) ⟨Nat.le_of_ble_eq_true rfl, Nat.le_of_ble_eq_true rfl⟩) (g_preV (ci := 3) (q := (nR_Q, nT_Q, 5)) hK hw hS rfl hq _) rfl rfl hl.1 rfl (lv_room (Nat.le_of_ble_eq_true rfl)) nd_Q_append_15 ⟨by exact Nat.le_of_ble_eq_true rfl, by exact Nat.le_of_ble_eq_true rfl⟩) hS (fun v2 w4 H locs hp hw hS => ?_)
  obtain ⟨rfl, hw9⟩ := hp
  rw [hw9] at hw
  refine lv_istore hx hb nd_Q_append_18 hl (by decide) (lv' := [(5, .int (nI (tr_tb o n))), (4, .int (nI (tr_tb o (n + 1)))), (3, .int (nI ((o + n) % 32768))), (0, .ref q), (1, .long v)]) rfl (fun ls hl => ?_)
  refine lv_aload_n hx hb nd_Q_append_20 rfl (lv_at hl 3 rfl) ?_
  refine lv_dup hx hb nd_Q_append_21 rfl ?_
  refine xw_get (T := nT_Q) (N := 5) (ci := 3) hx hb hT nu_Q hown hK.1 hw hq rfl 4 (by decide) (hT _ nh_fl_Q_26) (fun _ h9 => h9) rfl nd_Q_append_22 ?_
  refine lv_iconst (v := 1) hx hb nd_Q_append_25 (by decide) ?_
  refine lv_iadd hx hb nd_Q_append_26 ?_
  refine lv_topi (fun y5 ey6 => ?_)
  obtain rfl : y5 = nI (n + 1) := ey6.trans (nI_1 n)
  refine xw_put (T := nT_Q) (N := 5) (ci := 3) (v := .int (nI (n + 1))) (ty := .int) hx hb hT nu_Q nt_Q nk_Q nn_Q hown hK.1 hB hw hS hq rfl 4 (by decide) (hT _ nh_fl_Q_26) (fun _ h9 => h9) rfl (by decide +kernel) rfl rfl (Nat.le_of_ble_eq_true rfl) nd_Q_append_27 (fun H locs hw hS => ?_)
  obtain ⟨w7, ew8⟩ : ∃ z, z = va_up w q (some (.inr (3, [.int (nI d), .ref r, .ref t, .int (nI o), .int (nI (n + 1))]))) := ⟨_, rfl⟩
  have hw : g_P G w7 H := by rw [ew8]; exact hw
  have hq : w7 q = some (.inr (3, [.int (nI d), .ref r, .ref t, .int (nI o), .int (nI (n + 1))])) := by rw [ew8]; exact va_up_self _ _ _
  refine lv_iload hx hb nd_Q_append_30 (lv_at hl 1 rfl) ?_
  refine lv_iload hx hb nd_Q_append_32 (lv_at hl 0 rfl) ?_
  obtain ⟨W1, R1, U1, L1, l1, s1⟩ := tr_seq0 hD ew8
  refine lv_icmp_eq (tgt := 60) hx hb nd_Q_append_34 (by decide) (fun hc => ?_) (fun hc => ?_)
  · have hTe : tr_tb o (n + 1) = tr_tb o n := (nI_eq (by omega) (by omega)).mp hc
    obtain ⟨D0, K0, V0⟩ := tr_Df_seq hD ho (by omega) hTe ew8
    refine lv_aload_n hx hb nd_Q_append_60 rfl (lv_at hl 3 rfl) ?_
    refine lv_iload_n hx hb nd_Q_append_61 rfl (lv_at hl 2 rfl) ?_
    refine lv_lload_n hx hb nd_Q_append_62 rfl (lv_at hl 4 rfl) ?_
    refine g_callv (va_runV (As := [.int (nI ((o + n) % 32768)), .long v]) (rest := []) ⟨hx, hb, hml, hown, hts⟩ (c_Q_writeT l G w7 M d q r t o (n + 1) ((o + n) % 32768) v D0 (by omega) (tr_tb1 o n)) (cwV (C := nR_Q) 2 hts (nw_of (nw_4 nh_ml_Q_54 nh_im_Q_write nh_se_Q_write nh_in_Q nh_co_Q_write)) rfl rfl rfl (by decide +kernel) ⟨Nat.le_of_ble_eq_true rfl, Nat.le_of_ble_eq_true rfl⟩) (g_preV (ci := 3) (q := (nR_Q, nT_Q, 5)) hK hw hS rfl hq _) rfl rfl hl.1 rfl (lv_room (Nat.le_of_ble_eq_true rfl)) nd_Q_append_63 ⟨by exact Nat.le_of_ble_eq_true rfl, by exact Nat.le_of_ble_eq_true rfl⟩) hS (fun w9 H locs hp hw hS => ?_)
    obtain ⟨r1, t1, hWr⟩ := hp
    exact g_vret hx hb hr hlocks hw hS (⟨r1, t1, tr_ap K0 V0 hWr⟩) (by exact Nat.le_of_ble_eq_true rfl) (by exact Nat.le_of_ble_eq_true rfl) nd_Q_append_66
  · refine lv_aload_n hx hb nd_Q_append_37 rfl (lv_at hl 3 rfl) ?_
    refine lv_iload hx hb nd_Q_append_38 (lv_at hl 0 rfl) ?_
    refine lv_aload_n hx hb nd_Q_append_40 rfl (lv_at hl 3 rfl) ?_
    refine xw_get (T := nT_Q) (N := 5) (ci := 3) hx hb hT nu_Q hown hK.1 hw hq rfl 2 (by decide) (hT _ nh_fl_Q_19) (fun _ h9 => h9) rfl nd_Q_append_41 ?_
    refine g_callv (va_runV (As := [.int (nI (tr_tb o n)), .ref t]) (rest := []) ⟨hx, hb, hml, hown, hts⟩ (c_Q_hang l G w7 M d q r t (tr_tb o n) t (nI o) (nI (n + 1)) W1 hd hq R1 U1 L1 hTl) (cwV (C := nR_Q) 2 hts (nw_of (nw_4 nh_ml_Q_47 nh_im_Q_hang nh_se_Q_hang nh_in_Q nh_co_Q_hang)) rfl rfl rfl (by decide +kernel) ⟨Nat.le_of_ble_eq_true rfl, Nat.le_of_ble_eq_true rfl⟩) (g_preV (ci := 3) (q := (nR_Q, nT_Q, 5)) hK hw hS rfl hq _) rfl rfl hl.1 rfl (lv_room (Nat.le_of_ble_eq_true rfl)) nd_Q_append_44 ⟨by exact Nat.le_of_ble_eq_true rfl, by exact Nat.le_of_ble_eq_true rfl⟩) hS (fun w9 H locs hp hw hS => ?_)
    obtain ⟨r1, hG⟩ := hp
    have hne : tr_tb o (n + 1) ≠ tr_tb o n := fun z => hc (by rw [z])
    have hq : w9 q = some (.inr (3, [.int (nI d), .ref r1, .ref t, .int (nI o), .int (nI (n + 1))])) := hG.1
    have hr1 : w9 r1 = some (.inr (2, [.int (tr_stp w9 r1), .ref (tr_arr w9 r1)])) := hG.2.1.1.cell
    refine lv_aload_n hx hb nd_Q_append_47 rfl (lv_at hl 3 rfl) ?_
    refine lv_aload_n hx hb nd_Q_append_48 rfl (lv_at hl 3 rfl) ?_
    refine xw_get (T := nT_Q) (N := 5) (ci := 3) hx hb hT nu_Q hown hK.1 hw hq rfl 1 (by decide) (hT _ nh_fl_Q_15) (fun _ h9 => h9) rfl nd_Q_append_49 ?_
    refine lv_iload hx hb nd_Q_append_52 (lv_at hl 1 rfl) ?_
    refine g_callr (va_runV (As := [.int (nI (tr_tb o (n + 1)))]) (rest := [.ref q]) ⟨hx, hb, hml, hown, hts⟩ (c_R_leafOf l G w9 r1 (tr_tb o (n + 1)) hG.2.1 hTl1) (cwV (C := nR_R) 1 hts (nw_of (nw_4 nh_ml_Q_51 nh_im_R_leafOf nh_se_R_leafOf nh_in_R nh_co_R_leafOf)) rfl rfl rfl (by decide +kernel) ⟨Nat.le_of_ble_eq_true rfl, Nat.le_of_ble_eq_true rfl⟩) (g_preV (ci := 2) (q := (nR_R, nT_R, 2)) hK hw hS rfl hr1 _) rfl rfl hl.1 rfl (lv_room (Nat.le_of_ble_eq_true rfl)) nd_Q_append_54 ⟨by exact Nat.le_of_ble_eq_true rfl, by exact Nat.le_of_ble_eq_true rfl⟩) hS (fun v3 w10 H locs hp hw hS => ?_)
    obtain ⟨rfl, hw9⟩ := hp
    rw [hw9] at hw
    refine xw_put (T := nT_Q) (N := 5) (ci := 3) (v := .ref (tr_lfb w9 r1 (tr_tb o (n + 1)))) (ty := (.object "RadixShelf$Leaf")) hx hb hT nu_Q nt_Q nk_Q nn_Q hown hK.1 hB hw hS hq rfl 2 (by decide) (hT _ nh_fl_Q_19) (fun _ h9 => h9) rfl (by decide +kernel) rfl rfl (Nat.le_of_ble_eq_true rfl) nd_Q_append_57 (fun H locs hw hS => ?_)
    obtain ⟨w11, ew12⟩ : ∃ z, z = va_up w9 q (some (.inr (3, [.int (nI d), .ref r1, .ref (tr_lfb w9 r1 (tr_tb o (n + 1))), .int (nI o), .int (nI (n + 1))]))) := ⟨_, rfl⟩
    have hw : g_P G w11 H := by rw [ew12]; exact hw
    have hr1 : w11 r1 = some (.inr (2, [.int (tr_stp w9 r1), .ref (tr_arr w9 r1)])) := by rw [ew12, va_up_ne _ _ (xw_ne hr1 hq (by simp))]; exact hr1
    have hq : w11 q = some (.inr (3, [.int (nI d), .ref r1, .ref (tr_lfb w9 r1 (tr_tb o (n + 1))), .int (nI o), .int (nI (n + 1))])) := by rw [ew12]; exact va_up_self _ _ _
    refine lv_aload_n hx hb nd_Q_append_60 rfl (lv_at hl 3 rfl) ?_
    refine lv_iload_n hx hb nd_Q_append_61 rfl (lv_at hl 2 rfl) ?_
    refine lv_lload_n hx hb nd_Q_append_62 rfl (lv_at hl 4 rfl) ?_
    obtain ⟨D2, K2, V2⟩ := tr_next hD hn1 hne ew8 hG ew12
    refine g_callv (va_runV (As := [.int (nI ((o + n) % 32768)), .long v]) (rest := []) ⟨hx, hb, hml, hown, hts⟩ (c_Q_writeT l G w11 M d q r1 (tr_lfb w9 r1 (tr_tb o (n + 1))) o (n + 1) ((o + n) % 32768) v D2 (by omega) (tr_tb1 o n)) (cwV (C := nR_Q) 2 hts (nw_of (nw_4 nh_ml_Q_54 nh_im_Q_write nh_se_Q_write nh_in_Q nh_co_Q_write)) rfl rfl rfl (by decide +kernel) ⟨Nat.le_of_ble_eq_true rfl, Nat.le_of_ble_eq_true rfl⟩) (g_preV (ci := 3) (q := (nR_Q, nT_Q, 5)) hK hw hS rfl hq _) rfl rfl hl.1 rfl (lv_room (Nat.le_of_ble_eq_true rfl)) nd_Q_append_63 ⟨by exact Nat.le_of_ble_eq_true rfl, by exact Nat.le_of_ble_eq_true rfl⟩) hS (fun w13 H locs hp hw hS => ?_)
    obtain ⟨r2, t2, hWr⟩ := hp
    exact g_vret hx hb hr hlocks hw hS (⟨r2, t2, tr_ap K2 V2 hWr⟩) (by exact Nat.le_of_ble_eq_true rfl) (by exact Nat.le_of_ble_eq_true rfl) nd_Q_append_66

set_option maxHeartbeats 4000000 in
set_option maxRecDepth 100000 in
theorem c_Q_append0 (l : Launch) {Z : Int32 → Prop} (G : g_G) (w : xw_W) (M d q r t o n : Nat) (v : Int64) (hD : tr_Df (G.2.1 0) (G.2.1 1) (G.2.1 2) M d Z w q r t o n) (hn1 : n < 3000) (hTe0 : tr_tb o (n + 1) = tr_tb o n) (hs0 : tr_stp w t = nI d) : Met l ny_Q_append nw_Q_append ({ frames := 4, cells := 0, slots := 0, locals := 87 }) (g_Pc G w [.ref q, .long v]) (g_Qv G (fun w' => ∃ r1 t1, tr_Ap (G.2.1 0) (G.2.1 1) (G.2.1 2) M d Z w w' q r t o n r1 t1 v)) 0 0 (xw_A (g_b G)) := by
  refine g_met (by decide) (Nat.le_of_ble_eq_true rfl) rfl ?_
  intro p e s m below meth c ls hx hb hr hts hown hlocks hin hml hl hK hB hw hS
  have hT : ∀ w ∈ nw_T, w.before _ s = true := fun w h => hts w (List.mem_cons_of_mem _ h)
  have hown : s.vm.findClass "RadixShelf$Sequence" = some m.cls := hown
  have hl : lv_has ls 6 [(0, .ref q), (1, .long v)] := hl
  obtain ⟨hW, hd, hq, ho, hn, hR, ht, hU, hul, hut, hz, hav⟩ := id hD
  have hq0 := hq
  have hTl := tr_tb_lt o n
  have hTl1 := tr_tb_lt o (n + 1)
  refine lv_aload_n hx hb nd_Q_append_0 rfl (lv_at hl 0 rfl) ?_
  refine lv_aload_n hx hb nd_Q_append_1 rfl (lv_at hl 0 rfl) ?_
  refine xw_get (T := nT_Q) (N := 5) (ci := 3) hx hb hT nu_Q hown hK.1 hw hq rfl 4 (by decide) (hT _ nh_fl_Q_26) (fun _ h9 => h9) rfl nd_Q_append_2 ?_
  refine g_calli (va_runV (As := [.int (nI n)]) (rest := []) ⟨hx, hb, hml, hown, hts⟩ (c_Q_position l G w q r t o (nI d) (nI n) (nI n) ho hq) (cwV (C := nR_Q) 1 hts (nw_of (nw_4 nh_ml_Q_29 nh_im_Q_position nh_se_Q_position nh_in_Q nh_co_Q_position)) rfl rfl rfl (by decide +kernel) ⟨Nat.le_of_ble_eq_true rfl, Nat.le_of_ble_eq_true rfl⟩) (g_preV (ci := 3) (q := (nR_Q, nT_Q, 5)) hK hw hS rfl hq _) rfl rfl hl.1 rfl (lv_room (Nat.le_of_ble_eq_true rfl)) nd_Q_append_5 ⟨by exact Nat.le_of_ble_eq_true rfl, by exact Nat.le_of_ble_eq_true rfl⟩) hS (fun v1 w1 H locs hp hw hS => ?_)
  obtain ⟨rfl, hw9⟩ := hp
  rw [hw9] at hw
  refine lv_topi (fun y2 ey3 => ?_)
  obtain rfl : y2 = nI ((o + n) % 32768) := ey3.trans (by rw [pk_tn (by omega)])
  refine lv_istore_n hx hb nd_Q_append_8 rfl hl (by decide) (lv' := [(3, .int (nI ((o + n) % 32768))), (0, .ref q), (1, .long v)]) rfl (fun ls hl => ?_)
  refine lv_iload_n hx hb nd_Q_append_9 rfl (lv_at hl 0 rfl) ?_
  refine lv_iconst (v := 5) hx hb nd_Q_append_10 (by decide) ?_
  refine lv_iushr (v := nI (tr_tb o (n + 1))) hx hb nd_Q_append_11 ((tr_ush5 (by omega)).trans (congrArg nI (tr_tb1 o n))) ?_
  refine lv_istore hx hb nd_Q_append_12 hl (by decide) (lv' := [(4, .int (nI (tr_tb o (n + 1)))), (3, .int (nI ((o + n) % 32768))), (0, .ref q), (1, .long v)]) rfl (fun ls hl => ?_)
  refine lv_aload_n hx hb nd_Q_append_14 rfl (lv_at hl 2 rfl) ?_
  refine g_calli (va_runV (As := []) (rest := []) ⟨hx, hb, hml, hown, hts⟩ (c_Q_tailBlock l G w q r t o n (nI d) ho hn hq) (cwV (C := nR_Q) 0 hts (nw_of (nw_4 nh_ml_Q_43 nh_im_Q_tailBlock nh_se_Q_tailBlock nh_in_Q nh_co_Q_tailBlock)) rfl rfl rfl (by decide +kernel) ⟨Nat.le_of_ble_eq_true rfl, Nat.le_of_ble_eq_true rfl⟩) (g_preV (ci := 3) (q := (nR_Q, nT_Q, 5)) hK hw hS rfl hq _) rfl rfl hl.1 rfl (lv_room (Nat.le_of_ble_eq_true rfl)) nd_Q_append_15 ⟨by exact Nat.le_of_ble_eq_true rfl, by exact Nat.le_of_ble_eq_true rfl⟩) hS (fun v2 w4 H locs hp hw hS => ?_)
  obtain ⟨rfl, hw9⟩ := hp
  rw [hw9] at hw
  refine lv_istore hx hb nd_Q_append_18 hl (by decide) (lv' := [(5, .int (nI (tr_tb o n))), (4, .int (nI (tr_tb o (n + 1)))), (3, .int (nI ((o + n) % 32768))), (0, .ref q), (1, .long v)]) rfl (fun ls hl => ?_)
  refine lv_aload_n hx hb nd_Q_append_20 rfl (lv_at hl 3 rfl) ?_
  refine lv_dup hx hb nd_Q_append_21 rfl ?_
  refine xw_get (T := nT_Q) (N := 5) (ci := 3) hx hb hT nu_Q hown hK.1 hw hq rfl 4 (by decide) (hT _ nh_fl_Q_26) (fun _ h9 => h9) rfl nd_Q_append_22 ?_
  refine lv_iconst (v := 1) hx hb nd_Q_append_25 (by decide) ?_
  refine lv_iadd hx hb nd_Q_append_26 ?_
  refine lv_topi (fun y5 ey6 => ?_)
  obtain rfl : y5 = nI (n + 1) := ey6.trans (nI_1 n)
  refine xw_put (T := nT_Q) (N := 5) (ci := 3) (v := .int (nI (n + 1))) (ty := .int) hx hb hT nu_Q nt_Q nk_Q nn_Q hown hK.1 hB hw hS hq rfl 4 (by decide) (hT _ nh_fl_Q_26) (fun _ h9 => h9) rfl (by decide +kernel) rfl rfl (Nat.le_of_ble_eq_true rfl) nd_Q_append_27 (fun H locs hw hS => ?_)
  obtain ⟨w7, ew8⟩ : ∃ z, z = va_up w q (some (.inr (3, [.int (nI d), .ref r, .ref t, .int (nI o), .int (nI (n + 1))]))) := ⟨_, rfl⟩
  have hw : g_P G w7 H := by rw [ew8]; exact hw
  have hq : w7 q = some (.inr (3, [.int (nI d), .ref r, .ref t, .int (nI o), .int (nI (n + 1))])) := by rw [ew8]; exact va_up_self _ _ _
  refine lv_iload hx hb nd_Q_append_30 (lv_at hl 1 rfl) ?_
  refine lv_iload hx hb nd_Q_append_32 (lv_at hl 0 rfl) ?_
  obtain ⟨W1, R1, U1, L1, l1, s1⟩ := tr_seq0 hD ew8
  refine lv_icmp_eq (tgt := 60) hx hb nd_Q_append_34 (by decide) (fun hc => ?_) (fun hc => ?_)
  · have hTe : tr_tb o (n + 1) = tr_tb o n := (nI_eq (by omega) (by omega)).mp hc
    obtain ⟨D0, K0, V0⟩ := tr_Df_seq hD ho (by omega) hTe ew8
    refine lv_aload_n hx hb nd_Q_append_60 rfl (lv_at hl 3 rfl) ?_
    refine lv_iload_n hx hb nd_Q_append_61 rfl (lv_at hl 2 rfl) ?_
    refine lv_lload_n hx hb nd_Q_append_62 rfl (lv_at hl 4 rfl) ?_
    refine g_callv (va_runV (As := [.int (nI ((o + n) % 32768)), .long v]) (rest := []) ⟨hx, hb, hml, hown, hts⟩ (c_Q_write0 l G w7 M d q r t o (n + 1) ((o + n) % 32768) v D0 (by omega) (tr_tb1 o n) (by rw [s1]; exact hs0)) (cwV (C := nR_Q) 2 hts (nw_of (nw_4 nh_ml_Q_54 nh_im_Q_write nh_se_Q_write nh_in_Q nh_co_Q_write)) rfl rfl rfl (by decide +kernel) ⟨Nat.le_of_ble_eq_true rfl, Nat.le_of_ble_eq_true rfl⟩) (g_preV (ci := 3) (q := (nR_Q, nT_Q, 5)) hK hw hS rfl hq _) rfl rfl hl.1 rfl (lv_room (Nat.le_of_ble_eq_true rfl)) nd_Q_append_63 ⟨by exact Nat.le_of_ble_eq_true rfl, by exact Nat.le_of_ble_eq_true rfl⟩) hS (fun w9 H locs hp hw hS => ?_)
    obtain ⟨r1, t1, hWr⟩ := hp
    exact g_vret hx hb hr hlocks hw hS (⟨r1, t1, tr_ap K0 V0 hWr⟩) (by exact Nat.le_of_ble_eq_true rfl) (by exact Nat.le_of_ble_eq_true rfl) nd_Q_append_66
  · exact absurd (by rw [hTe0]) hc

set_option maxHeartbeats 4000000 in
set_option maxRecDepth 100000 in
theorem c_Q_prepend (l : Launch) {Z : Int32 → Prop} (G : g_G) (w : xw_W) (M d q r t o n : Nat) (v : Int64) (hD : tr_Df (G.2.1 0) (G.2.1 1) (G.2.1 2) M d Z w q r t o n) (hn1 : n < 3000) : Met l ny_Q_prepend nw_Q_prepend ({ frames := 6, cells := 6, slots := 102, locals := 127 }) (g_Pc G w [.ref q, .long v]) (g_Qv G (fun w' => ∃ r1 t1, tr_Df (G.2.1 0) (G.2.1 1) (G.2.1 2) M d Z w' q r1 t1 ((o + 32767) % 32768) (n + 1) ∧ tr_Kp d q w w' ∧ ∀ x, x < 32768 → tr_vl w' r1 t1 (tr_tb ((o + 32767) % 32768) (n + 1)) x = if x = (o + 32767) % 32768 then v else tr_vl w r t (tr_tb o n) x)) 6 102 (xw_A (g_b G)) := by
  refine g_met (by decide) (Nat.le_of_ble_eq_true rfl) rfl ?_
  intro p e s m below meth c ls hx hb hr hts hown hlocks hin hml hl hK hB hw hS
  have hT : ∀ w ∈ nw_T, w.before _ s = true := fun w h => hts w (List.mem_cons_of_mem _ h)
  have hown : s.vm.findClass "RadixShelf$Sequence" = some m.cls := hown
  have hl : lv_has ls 3 [(0, .ref q), (1, .long v)] := hl
  obtain ⟨hW, hd, hq, ho, hn, hR, ht, hU, hul, hut, hz, hav⟩ := id hD
  have hq0 := hq
  refine lv_aload_n hx hb nd_Q_prepend_0 rfl (lv_at hl 0 rfl) ?_
  refine lv_aload_n hx hb nd_Q_prepend_1 rfl (lv_at hl 0 rfl) ?_
  refine lv_iconst (v := (-1)) hx hb nd_Q_prepend_2 (by decide) ?_
  refine g_calli (va_runV (As := [.int (-1)]) (rest := [.ref q]) ⟨hx, hb, hml, hown, hts⟩ (c_Q_position l G w q r t o (nI d) (nI n) (-1) ho hq) (cwV (C := nR_Q) 1 hts (nw_of (nw_4 nh_ml_Q_29 nh_im_Q_position nh_se_Q_position nh_in_Q nh_co_Q_position)) rfl rfl rfl (by decide +kernel) ⟨Nat.le_of_ble_eq_true rfl, Nat.le_of_ble_eq_true rfl⟩) (g_preV (ci := 3) (q := (nR_Q, nT_Q, 5)) hK hw hS rfl hq _) rfl rfl hl.1 rfl (lv_room (Nat.le_of_ble_eq_true rfl)) nd_Q_prepend_3 ⟨by exact Nat.le_of_ble_eq_true rfl, by exact Nat.le_of_ble_eq_true rfl⟩) hS (fun v1 w1 H locs hp hw hS => ?_)
  obtain ⟨rfl, hw9⟩ := hp
  rw [hw9] at hw
  refine lv_topi (fun y2 ey3 => ?_)
  obtain rfl : y2 = nI ((o + 32767) % 32768) := ey3.trans (by rw [show (-1 : Int32).toBitVec.toNat = 4294967295 by decide]; congr 1; omega)
  refine xw_put (T := nT_Q) (N := 5) (ci := 3) (v := .int (nI ((o + 32767) % 32768))) (ty := .int) hx hb hT nu_Q nt_Q nk_Q nn_Q hown hK.1 hB hw hS hq rfl 3 (by decide) (hT _ nh_fl_Q_23) (fun _ h9 => h9) rfl (by decide +kernel) rfl rfl (Nat.le_of_ble_eq_true rfl) nd_Q_prepend_6 (fun H locs hw hS => ?_)
  obtain ⟨w4, ew5⟩ : ∃ z, z = va_up w q (some (.inr (3, [.int (nI d), .ref r, .ref t, .int (nI ((o + 32767) % 32768)), .int (nI n)]))) := ⟨_, rfl⟩
  have hw : g_P G w4 H := by rw [ew5]; exact hw
  have hq : w4 q = some (.inr (3, [.int (nI d), .ref r, .ref t, .int (nI ((o + 32767) % 32768)), .int (nI n)])) := by rw [ew5]; exact va_up_self _ _ _
  refine lv_aload_n hx hb nd_Q_prepend_9 rfl (lv_at hl 0 rfl) ?_
  refine lv_dup hx hb nd_Q_prepend_10 rfl ?_
  refine xw_get (T := nT_Q) (N := 5) (ci := 3) hx hb hT nu_Q hown hK.1 hw hq rfl 4 (by decide) (hT _ nh_fl_Q_26) (fun _ h9 => h9) rfl nd_Q_prepend_11 ?_
  refine lv_iconst (v := 1) hx hb nd_Q_prepend_14 (by decide) ?_
  refine lv_iadd hx hb nd_Q_prepend_15 ?_
  refine lv_topi (fun y6 ey7 => ?_)
  obtain rfl : y6 = nI (n + 1) := ey7.trans (nI_1 n)
  refine xw_put (T := nT_Q) (N := 5) (ci := 3) (v := .int (nI (n + 1))) (ty := .int) hx hb hT nu_Q nt_Q nk_Q nn_Q hown hK.1 hB hw hS hq rfl 4 (by decide) (hT _ nh_fl_Q_26) (fun _ h9 => h9) rfl (by decide +kernel) rfl rfl (Nat.le_of_ble_eq_true rfl) nd_Q_prepend_16 (fun H locs hw hS => ?_)
  obtain ⟨w8, ew9⟩ : ∃ z, z = va_up w4 q (some (.inr (3, [.int (nI d), .ref r, .ref t, .int (nI ((o + 32767) % 32768)), .int (nI (n + 1))]))) := ⟨_, rfl⟩
  have hw : g_P G w8 H := by rw [ew9]; exact hw
  have hq : w8 q = some (.inr (3, [.int (nI d), .ref r, .ref t, .int (nI ((o + 32767) % 32768)), .int (nI (n + 1))])) := by rw [ew9]; exact va_up_self _ _ _
  refine lv_aload_n hx hb nd_Q_prepend_19 rfl (lv_at hl 0 rfl) ?_
  refine lv_aload_n hx hb nd_Q_prepend_20 rfl (lv_at hl 0 rfl) ?_
  refine xw_get (T := nT_Q) (N := 5) (ci := 3) hx hb hT nu_Q hown hK.1 hw hq rfl 3 (by decide) (hT _ nh_fl_Q_23) (fun _ h9 => h9) rfl nd_Q_prepend_21 ?_
  refine lv_lload_n hx hb nd_Q_prepend_24 rfl (lv_at hl 1 rfl) ?_
  have e9 : w8 = va_up w q (some (tr_S (nI d) r t (nI ((o + 32767) % 32768)) (nI (n + 1)))) := by rw [ew9, ew5, bx_uu]
  obtain ⟨D0, K0, V0⟩ := tr_Df_seq hD (by omega) (by omega) (tr_tbp o n) e9
  refine g_callv (va_runV (As := [.int (nI ((o + 32767) % 32768)), .long v]) (rest := []) ⟨hx, hb, hml, hown, hts⟩ (c_Q_write l G w8 M d q r t ((o + 32767) % 32768) (n + 1) ((o + 32767) % 32768) v D0 (by omega)) (cwV (C := nR_Q) 2 hts (nw_of (nw_4 nh_ml_Q_54 nh_im_Q_write nh_se_Q_write nh_in_Q nh_co_Q_write)) rfl rfl rfl (by decide +kernel) ⟨Nat.le_of_ble_eq_true rfl, Nat.le_of_ble_eq_true rfl⟩) (g_preV (ci := 3) (q := (nR_Q, nT_Q, 5)) hK hw hS rfl hq _) rfl rfl hl.1 rfl (lv_room (Nat.le_of_ble_eq_true rfl)) nd_Q_prepend_25 ⟨by exact Nat.le_of_ble_eq_true rfl, by exact Nat.le_of_ble_eq_true rfl⟩) hS (fun w10 H locs hp hw hS => ?_)
  obtain ⟨r1, t1, D1, K1, V1, -⟩ := hp
  exact g_vret hx hb hr hlocks hw hS (⟨r1, t1, D1, K0.tr K1, fun x hx9 => by rw [V1 x hx9, V0 x hx9]⟩) (by exact Nat.le_of_ble_eq_true rfl) (by exact Nat.le_of_ble_eq_true rfl) nd_Q_prepend_28

set_option maxHeartbeats 4000000 in
set_option maxRecDepth 100000 in
theorem c_Q_replace (l : Launch) {Z : Int32 → Prop} (G : g_G) (w : xw_W) (M d q r t o n i : Nat) (v : Int64) (hD : tr_Df (G.2.1 0) (G.2.1 1) (G.2.1 2) M d Z w q r t o n) (hi : i < n) : Met l ny_Q_replace nw_Q_replace ({ frames := 6, cells := 6, slots := 102, locals := 127 }) (g_Pc G w [.ref q, .int (nI i), .long v]) (g_Qv G (fun w' => ∃ r1 t1, tr_Df (G.2.1 0) (G.2.1 1) (G.2.1 2) M d Z w' q r1 t1 o n ∧ tr_Kp d q w w' ∧ ∀ x, x < 32768 → tr_vl w' r1 t1 (tr_tb o n) x = if x = (o + i) % 32768 then v else tr_vl w r t (tr_tb o n) x)) 6 102 (xw_A (g_b G)) := by
  refine g_met (by decide) (Nat.le_of_ble_eq_true rfl) rfl ?_
  intro p e s m below meth c ls hx hb hr hts hown hlocks hin hml hl hK hB hw hS
  have hT : ∀ w ∈ nw_T, w.before _ s = true := fun w h => hts w (List.mem_cons_of_mem _ h)
  have hown : s.vm.findClass "RadixShelf$Sequence" = some m.cls := hown
  have hl : lv_has ls 4 [(0, .ref q), (1, .int (nI i)), (2, .long v)] := hl
  obtain ⟨hW, hd, hq, ho, hn, hR, ht, hU, hul, hut, hz, hav⟩ := id hD
  have hq0 := hq
  refine lv_aload_n hx hb nd_Q_replace_0 rfl (lv_at hl 0 rfl) ?_
  refine lv_aload_n hx hb nd_Q_replace_1 rfl (lv_at hl 0 rfl) ?_
  refine lv_iload_n hx hb nd_Q_replace_2 rfl (lv_at hl 1 rfl) ?_
  refine g_calli (va_runV (As := [.int (nI i)]) (rest := [.ref q]) ⟨hx, hb, hml, hown, hts⟩ (c_Q_position l G w q r t o (nI d) (nI n) (nI i) ho hq) (cwV (C := nR_Q) 1 hts (nw_of (nw_4 nh_ml_Q_29 nh_im_Q_position nh_se_Q_position nh_in_Q nh_co_Q_position)) rfl rfl rfl (by decide +kernel) ⟨Nat.le_of_ble_eq_true rfl, Nat.le_of_ble_eq_true rfl⟩) (g_preV (ci := 3) (q := (nR_Q, nT_Q, 5)) hK hw hS rfl hq _) rfl rfl hl.1 rfl (lv_room (Nat.le_of_ble_eq_true rfl)) nd_Q_replace_3 ⟨by exact Nat.le_of_ble_eq_true rfl, by exact Nat.le_of_ble_eq_true rfl⟩) hS (fun v1 w1 H locs hp hw hS => ?_)
  obtain ⟨rfl, hw9⟩ := hp
  rw [hw9] at hw
  refine lv_topi (fun y2 ey3 => ?_)
  obtain rfl : y2 = nI ((o + i) % 32768) := ey3.trans (by rw [pk_tn (by omega)])
  refine lv_lload_n hx hb nd_Q_replace_6 rfl (lv_at hl 2 rfl) ?_
  refine g_callv (va_runV (As := [.int (nI ((o + i) % 32768)), .long v]) (rest := []) ⟨hx, hb, hml, hown, hts⟩ (c_Q_write l G w M d q r t o n ((o + i) % 32768) v hD (by omega)) (cwV (C := nR_Q) 2 hts (nw_of (nw_4 nh_ml_Q_54 nh_im_Q_write nh_se_Q_write nh_in_Q nh_co_Q_write)) rfl rfl rfl (by decide +kernel) ⟨Nat.le_of_ble_eq_true rfl, Nat.le_of_ble_eq_true rfl⟩) (g_preV (ci := 3) (q := (nR_Q, nT_Q, 5)) hK hw hS rfl hq _) rfl rfl hl.1 rfl (lv_room (Nat.le_of_ble_eq_true rfl)) nd_Q_replace_7 ⟨by exact Nat.le_of_ble_eq_true rfl, by exact Nat.le_of_ble_eq_true rfl⟩) hS (fun w4 H locs hp hw hS => ?_)
  obtain ⟨r1, t1, D1, K1, V1, -⟩ := hp
  exact g_vret hx hb hr hlocks hw hS (⟨r1, t1, D1, K1, V1⟩) (by exact Nat.le_of_ble_eq_true rfl) (by exact Nat.le_of_ble_eq_true rfl) nd_Q_replace_10

set_option maxHeartbeats 4000000 in
set_option maxRecDepth 100000 in
theorem c_Q_trim (l : Launch) {Z : Int32 → Prop} (G : g_G) (w : xw_W) (M d q r t o n a b : Nat) (hD : tr_Df (G.2.1 0) (G.2.1 1) (G.2.1 2) M d Z w q r t o n) (hab : a + b ≤ n) : Met l ny_Q_trim nw_Q_trim ({ frames := 3, cells := 0, slots := 0, locals := 62 }) (g_Pc G w [.ref q, .int (nI a), .int (nI b)]) (g_Qv G (fun w' => ∃ t1, tr_Df (G.2.1 0) (G.2.1 1) (G.2.1 2) M d Z w' q r t1 ((o + a) % 32768) (n - (a + b)) ∧ tr_Kp d q w w' ∧ ∀ i, i < n - (a + b) → tr_vl w' r t1 (tr_tb ((o + a) % 32768) (n - (a + b))) (((o + a) % 32768 + i) % 32768) = tr_vl w r t (tr_tb o n) ((o + (a + i)) % 32768))) 0 0 (xw_A (g_b G)) := by
  refine g_met (by decide) (Nat.le_of_ble_eq_true rfl) rfl ?_
  intro p e s m below meth c ls hx hb hr hts hown hlocks hin hml hl hK hB hw hS
  have hT : ∀ w ∈ nw_T, w.before _ s = true := fun w h => hts w (List.mem_cons_of_mem _ h)
  have hown : s.vm.findClass "RadixShelf$Sequence" = some m.cls := hown
  have hl : lv_has ls 4 [(0, .ref q), (1, .int (nI a)), (2, .int (nI b))] := hl
  obtain ⟨hW, hd, hq, ho, hn, hR, ht, hU, hul, hut, hz, hav⟩ := id hD
  have hq0 := hq
  have hTl := tr_tb_lt o n
  have hTl1 := tr_tb_lt ((o + a) % 32768) (n - (a + b))
  refine lv_aload_n hx hb nd_Q_trim_0 rfl (lv_at hl 0 rfl) ?_
  refine g_calli (va_runV (As := []) (rest := []) ⟨hx, hb, hml, hown, hts⟩ (c_Q_tailBlock l G w q r t o n (nI d) ho hn hq) (cwV (C := nR_Q) 0 hts (nw_of (nw_4 nh_ml_Q_43 nh_im_Q_tailBlock nh_se_Q_tailBlock nh_in_Q nh_co_Q_tailBlock)) rfl rfl rfl (by decide +kernel) ⟨Nat.le_of_ble_eq_true rfl, Nat.le_of_ble_eq_true rfl⟩) (g_preV (ci := 3) (q := (nR_Q, nT_Q, 5)) hK hw hS rfl hq _) rfl rfl hl.1 rfl (lv_room (Nat.le_of_ble_eq_true rfl)) nd_Q_trim_1 ⟨by exact Nat.le_of_ble_eq_true rfl, by exact Nat.le_of_ble_eq_true rfl⟩) hS (fun v2 w1 H locs hp hw hS => ?_)
  obtain ⟨rfl, hw9⟩ := hp
  rw [hw9] at hw
  refine lv_istore_n hx hb nd_Q_trim_4 rfl hl (by decide) (lv' := [(3, .int (nI (tr_tb o n))), (0, .ref q), (1, .int (nI a)), (2, .int (nI b))]) rfl (fun ls hl => ?_)
  refine lv_aload_n hx hb nd_Q_trim_5 rfl (lv_at hl 1 rfl) ?_
  refine lv_aload_n hx hb nd_Q_trim_6 rfl (lv_at hl 1 rfl) ?_
  refine lv_iload_n hx hb nd_Q_trim_7 rfl (lv_at hl 2 rfl) ?_
  refine g_calli (va_runV (As := [.int (nI a)]) (rest := [.ref q]) ⟨hx, hb, hml, hown, hts⟩ (c_Q_position l G w q r t o (nI d) (nI n) (nI a) ho hq) (cwV (C := nR_Q) 1 hts (nw_of (nw_4 nh_ml_Q_29 nh_im_Q_position nh_se_Q_position nh_in_Q nh_co_Q_position)) rfl rfl rfl (by decide +kernel) ⟨Nat.le_of_ble_eq_true rfl, Nat.le_of_ble_eq_true rfl⟩) (g_preV (ci := 3) (q := (nR_Q, nT_Q, 5)) hK hw hS rfl hq _) rfl rfl hl.1 rfl (lv_room (Nat.le_of_ble_eq_true rfl)) nd_Q_trim_8 ⟨by exact Nat.le_of_ble_eq_true rfl, by exact Nat.le_of_ble_eq_true rfl⟩) hS (fun v1 w2 H locs hp hw hS => ?_)
  obtain ⟨rfl, hw9⟩ := hp
  rw [hw9] at hw
  refine lv_topi (fun y3 ey4 => ?_)
  obtain rfl : y3 = nI ((o + a) % 32768) := ey4.trans (by rw [pk_tn (by omega)])
  refine xw_put (T := nT_Q) (N := 5) (ci := 3) (v := .int (nI ((o + a) % 32768))) (ty := .int) hx hb hT nu_Q nt_Q nk_Q nn_Q hown hK.1 hB hw hS hq rfl 3 (by decide) (hT _ nh_fl_Q_23) (fun _ h9 => h9) rfl (by decide +kernel) rfl rfl (Nat.le_of_ble_eq_true rfl) nd_Q_trim_11 (fun H locs hw hS => ?_)
  obtain ⟨w5, ew6⟩ : ∃ z, z = va_up w q (some (.inr (3, [.int (nI d), .ref r, .ref t, .int (nI ((o + a) % 32768)), .int (nI n)]))) := ⟨_, rfl⟩
  have hw : g_P G w5 H := by rw [ew6]; exact hw
  have hq : w5 q = some (.inr (3, [.int (nI d), .ref r, .ref t, .int (nI ((o + a) % 32768)), .int (nI n)])) := by rw [ew6]; exact va_up_self _ _ _
  refine lv_aload_n hx hb nd_Q_trim_14 rfl (lv_at hl 1 rfl) ?_
  refine lv_dup hx hb nd_Q_trim_15 rfl ?_
  refine xw_get (T := nT_Q) (N := 5) (ci := 3) hx hb hT nu_Q hown hK.1 hw hq rfl 4 (by decide) (hT _ nh_fl_Q_26) (fun _ h9 => h9) rfl nd_Q_trim_16 ?_
  refine lv_iload_n hx hb nd_Q_trim_19 rfl (lv_at hl 2 rfl) ?_
  refine lv_iload_n hx hb nd_Q_trim_20 rfl (lv_at hl 3 rfl) ?_
  refine lv_iadd hx hb nd_Q_trim_21 ?_
  refine lv_isub hx hb nd_Q_trim_22 ?_
  refine lv_topi (fun y7 ey8 => ?_)
  obtain rfl : y7 = nI (n - (a + b)) := ey8.trans (by rw [nI_add, pk_sub hab])
  refine xw_put (T := nT_Q) (N := 5) (ci := 3) (v := .int (nI (n - (a + b)))) (ty := .int) hx hb hT nu_Q nt_Q nk_Q nn_Q hown hK.1 hB hw hS hq rfl 4 (by decide) (hT _ nh_fl_Q_26) (fun _ h9 => h9) rfl (by decide +kernel) rfl rfl (Nat.le_of_ble_eq_true rfl) nd_Q_trim_23 (fun H locs hw hS => ?_)
  obtain ⟨w9, ew10⟩ : ∃ z, z = va_up w5 q (some (.inr (3, [.int (nI d), .ref r, .ref t, .int (nI ((o + a) % 32768)), .int (nI (n - (a + b)))]))) := ⟨_, rfl⟩
  have hw : g_P G w9 H := by rw [ew10]; exact hw
  have hq : w9 q = some (.inr (3, [.int (nI d), .ref r, .ref t, .int (nI ((o + a) % 32768)), .int (nI (n - (a + b)))])) := by rw [ew10]; exact va_up_self _ _ _
  refine lv_aload_n hx hb nd_Q_trim_26 rfl (lv_at hl 1 rfl) ?_
  have e9 : w9 = va_up w q (some (tr_S (nI d) r t (nI ((o + a) % 32768)) (nI (n - (a + b))))) := by rw [ew10, ew6, bx_uu]
  obtain ⟨W1, R1, U1, L1, l1, s1⟩ := tr_seq0 hD e9
  refine g_calli (va_runV (As := []) (rest := []) ⟨hx, hb, hml, hown, hts⟩ (c_Q_tailBlock l G w9 q r t ((o + a) % 32768) (n - (a + b)) (nI d) (by omega) (by omega) hq) (cwV (C := nR_Q) 0 hts (nw_of (nw_4 nh_ml_Q_43 nh_im_Q_tailBlock nh_se_Q_tailBlock nh_in_Q nh_co_Q_tailBlock)) rfl rfl rfl (by decide +kernel) ⟨Nat.le_of_ble_eq_true rfl, Nat.le_of_ble_eq_true rfl⟩) (g_preV (ci := 3) (q := (nR_Q, nT_Q, 5)) hK hw hS rfl hq _) rfl rfl hl.1 rfl (lv_room (Nat.le_of_ble_eq_true rfl)) nd_Q_trim_27 ⟨by exact Nat.le_of_ble_eq_true rfl, by exact Nat.le_of_ble_eq_true rfl⟩) hS (fun v3 w11 H locs hp hw hS => ?_)
  obtain ⟨rfl, hw9⟩ := hp
  rw [hw9] at hw
  refine lv_iload_n hx hb nd_Q_trim_30 rfl (lv_at hl 0 rfl) ?_
  refine lv_icmp_eq (tgt := 49) hx hb nd_Q_trim_31 (by decide) (fun hc => ?_) (fun hc => ?_)
  · have hTe : tr_tb ((o + a) % 32768) (n - (a + b)) = tr_tb o n := (nI_eq (by omega) (by omega)).mp hc
    obtain ⟨D0, K0, V0⟩ := tr_Df_seq hD (by omega) (by omega) hTe e9
    exact g_vret hx hb hr hlocks hw hS (⟨t, D0, K0, fun i hi => (V0 _ (by omega)).trans (by congr 1; omega)⟩) (by exact Nat.le_of_ble_eq_true rfl) (by exact Nat.le_of_ble_eq_true rfl) nd_Q_trim_49
  · have hr1 : w9 r = some (.inr (2, [.int (tr_stp w9 r), .ref (tr_arr w9 r)])) := R1.1.cell
    refine lv_aload_n hx hb nd_Q_trim_34 rfl (lv_at hl 1 rfl) ?_
    refine lv_aload_n hx hb nd_Q_trim_35 rfl (lv_at hl 1 rfl) ?_
    refine xw_get (T := nT_Q) (N := 5) (ci := 3) hx hb hT nu_Q hown hK.1 hw hq rfl 1 (by decide) (hT _ nh_fl_Q_15) (fun _ h9 => h9) rfl nd_Q_trim_36 ?_
    refine lv_aload_n hx hb nd_Q_trim_39 rfl (lv_at hl 1 rfl) ?_
    refine g_calli (va_runV (As := []) (rest := [.ref r, .ref q]) ⟨hx, hb, hml, hown, hts⟩ (c_Q_tailBlock l G w9 q r t ((o + a) % 32768) (n - (a + b)) (nI d) (by omega) (by omega) hq) (cwV (C := nR_Q) 0 hts (nw_of (nw_4 nh_ml_Q_43 nh_im_Q_tailBlock nh_se_Q_tailBlock nh_in_Q nh_co_Q_tailBlock)) rfl rfl rfl (by decide +kernel) ⟨Nat.le_of_ble_eq_true rfl, Nat.le_of_ble_eq_true rfl⟩) (g_preV (ci := 3) (q := (nR_Q, nT_Q, 5)) hK hw hS rfl hq _) rfl rfl hl.1 rfl (lv_room (Nat.le_of_ble_eq_true rfl)) nd_Q_trim_40 ⟨by exact Nat.le_of_ble_eq_true rfl, by exact Nat.le_of_ble_eq_true rfl⟩) hS (fun v4 w12 H locs hp hw hS => ?_)
    obtain ⟨rfl, hw9⟩ := hp
    rw [hw9] at hw
    refine g_callr (va_runV (As := [.int (nI (tr_tb ((o + a) % 32768) (n - (a + b))))]) (rest := [.ref q]) ⟨hx, hb, hml, hown, hts⟩ (c_R_leafOf l G w9 r (tr_tb ((o + a) % 32768) (n - (a + b))) R1 hTl1) (cwV (C := nR_R) 1 hts (nw_of (nw_4 nh_ml_Q_51 nh_im_R_leafOf nh_se_R_leafOf nh_in_R nh_co_R_leafOf)) rfl rfl rfl (by decide +kernel) ⟨Nat.le_of_ble_eq_true rfl, Nat.le_of_ble_eq_true rfl⟩) (g_preV (ci := 2) (q := (nR_R, nT_R, 2)) hK hw hS rfl hr1 _) rfl rfl hl.1 rfl (lv_room (Nat.le_of_ble_eq_true rfl)) nd_Q_trim_43 ⟨by exact Nat.le_of_ble_eq_true rfl, by exact Nat.le_of_ble_eq_true rfl⟩) hS (fun v5 w13 H locs hp hw hS => ?_)
    obtain ⟨rfl, hw9⟩ := hp
    rw [hw9] at hw
    refine xw_put (T := nT_Q) (N := 5) (ci := 3) (v := .ref (tr_lfb w9 r (tr_tb ((o + a) % 32768) (n - (a + b))))) (ty := (.object "RadixShelf$Leaf")) hx hb hT nu_Q nt_Q nk_Q nn_Q hown hK.1 hB hw hS hq rfl 2 (by decide) (hT _ nh_fl_Q_19) (fun _ h9 => h9) rfl (by decide +kernel) rfl rfl (Nat.le_of_ble_eq_true rfl) nd_Q_trim_46 (fun H locs hw hS => ?_)
    obtain ⟨w14, ew15⟩ : ∃ z, z = va_up w9 q (some (.inr (3, [.int (nI d), .ref r, .ref (tr_lfb w9 r (tr_tb ((o + a) % 32768) (n - (a + b)))), .int (nI ((o + a) % 32768)), .int (nI (n - (a + b)))]))) := ⟨_, rfl⟩
    have hw : g_P G w14 H := by rw [ew15]; exact hw
    have hr1 : w14 r = some (.inr (2, [.int (tr_stp w9 r), .ref (tr_arr w9 r)])) := by rw [ew15, va_up_ne _ _ (xw_ne hr1 hq (by simp))]; exact hr1
    have hq : w14 q = some (.inr (3, [.int (nI d), .ref r, .ref (tr_lfb w9 r (tr_tb ((o + a) % 32768) (n - (a + b)))), .int (nI ((o + a) % 32768)), .int (nI (n - (a + b)))])) := by rw [ew15]; exact va_up_self _ _ _
    have hne : tr_tb ((o + a) % 32768) (n - (a + b)) ≠ tr_tb o n := fun z => hc (by rw [z])
    have e10 : w14 = va_up w q (some (tr_S (nI d) r (tr_lfb w r (tr_tb ((o + a) % 32768) (n - (a + b)))) (nI ((o + a) % 32768)) (nI (n - (a + b))))) := by rw [ew15, l1 _ hTl1, e9, bx_uu]
    obtain ⟨D0, K0, V0⟩ := tr_trim hD (by omega) (by omega) e10
    refine g_vret hx hb hr hlocks hw hS (⟨_, D0, K0, fun i hi => (V0 _ (by omega) (fun z => hne ?_)).trans (by congr 1; omega)⟩) (by exact Nat.le_of_ble_eq_true rfl) (by exact Nat.le_of_ble_eq_true rfl) nd_Q_trim_49
    unfold tr_tb at z ⊢
    have h9 := tr_ring (u := o + a + i) (v := o + a + (n - (a + b)) - 1) (z := o + n - 1) (by omega) (by omega) (by omega) (by omega)
    omega
