/-- the blank sequence: three nodes -/
theorem sh_blank {cJ cL cB : Nat} {w : tr_W} {q rt br lf x1 xa xb : Nat} {f : Nat → Int64} {fa fb : Nat → Option Nat} (hq : w q = some (tr_S 0 rt lf 0 0)) (hr : w rt = some (tr_N tr_kR 0 xb)) (hb : w br = some (tr_N tr_kB 0 xa)) (hl : w lf = some (tr_N tr_kL 0 x1)) (h1 : w x1 = some (tr_V cJ f)) (ha : w xa = some (tr_Q cL fa)) (hxb : w xb = some (tr_Q cB fb)) (hfa : ∀ j, j < 32 → fa j = some lf) (hfb : ∀ j, j < 32 → fb j = some br) (hab : xa ≠ xb)
    (hN : ∀ k n, tr_isN w k n → n = rt ∨ n = br ∨ n = lf) : tr_So cJ cL cB (fun _ => True) w q 0 rt lf 0 0 (fun _ => 0) ∧ tr_Wi w 0 := by
  have ar : tr_arr w rt = xb := tr_arr_of hr
  have ab : tr_arr w br = xa := tr_arr_of hb
  have al : tr_arr w lf = x1 := tr_arr_of hl
  have okl : tr_okL cJ w lf := ⟨⟨Or.inl rfl, _, _, hl⟩, f, by rw [al]; exact h1⟩
  have ca : ∀ j, j < 32 → tr_chd w xa j = lf := fun j hj => by rw [tr_chd_of ha, hfa j hj]; rfl
  have cb : ∀ j, j < 32 → tr_chd w xb j = br := fun j hj => by rw [tr_chd_of hxb, hfb j hj]; rfl
  have okb : tr_okB cJ cL w br := ⟨⟨Or.inr (Or.inl rfl), _, _, hb⟩, by rw [ab]; exact ⟨fa, ha, fun j hj => by rw [ca j hj]; exact hfa j hj⟩, fun j hj => by rw [ab, ca j hj]; exact okl⟩
  have okr : tr_okR cJ cL cB w rt := ⟨⟨Or.inr (Or.inr rfl), _, _, hr⟩, by rw [ar]; exact ⟨fb, hxb, fun j hj => by rw [cb j hj]; exact hfb j hj⟩, fun j hj => by rw [ar, cb j hj]; exact okb⟩
  have ne1 : x1 ≠ xa := xw_ne h1 ha (fun z => by injection z with z; injection z with z1 z2; injection z2 with z3 z4; injection z4 with z5; cases z5)
  have ne2 : x1 ≠ xb := xw_ne h1 hxb (fun z => by injection z with z; injection z with z1 z2; injection z2 with z3 z4; injection z4 with z5; cases z5)
  refine ⟨⟨by rw [nI_0]; exact hq, by decide, by decide, okr, okl, ⟨trivial, fun _ _ => trivial, fun _ _ => trivial, trivial⟩, fun i hi => absurd hi (by omega)⟩, fun k n hn => ?_, fun k n k' n' hn hn' e => ?_, fun k n hn => ⟨0, Nat.le_refl _, ?_⟩⟩
  · rcases hN k n hn with rfl | rfl | rfl
    · rw [ar]; exact ⟨_, hxb⟩
    · rw [ab]; exact ⟨_, ha⟩
    · rw [al]; exact ⟨_, h1⟩
  · rcases hN k n hn with rfl | rfl | rfl <;> rcases hN k' n' hn' with rfl | rfl | rfl
    · rfl
    · rw [ar, ab] at e; exact absurd e.symm hab
    · rw [ar, al] at e; exact absurd e.symm ne2
    · rw [ab, ar] at e; exact absurd e hab
    · rfl
    · rw [ab, al] at e; exact absurd e.symm ne1
    · rw [al, ar] at e; exact absurd e ne2
    · rw [al, ab] at e; exact absurd e ne1
    · rfl
  · rcases hN k n hn with rfl | rfl | rfl
    · exact tr_stp_of hr
    · exact tr_stp_of hb
    · exact tr_stp_of hl
theorem tr_isN_at {w : tr_W} {k n a : Nat} {e : va_E} (hn : tr_isN (va_up w a (some e)) k n) : n = a ∨ tr_isN w k n := by
  by_cases h : n = a
  · exact Or.inl h
  · exact Or.inr (tr_isN_eq (va_up_ne _ _ h).symm hn)
theorem tr_isN_no {w : tr_W} {k n a : Nat} {e : va_E} (hn : tr_isN (va_up w a (some e)) k n) (he : (∃ x, e = .inl x) ∨ ∃ c l, e = .inr (c, l) ∧ 3 ≤ c) : tr_isN w k n := by
  rcases tr_isN_at hn with h | h
  · obtain ⟨hk, s, x, hx⟩ := hn
    rw [h, va_up_self] at hx
    rcases he with ⟨y, rfl⟩ | ⟨c, l, rfl, hc⟩
    · cases hx
    · injection hx with hx
      injection hx with hx
      injection hx with h1 h2
      rcases hk with hk | hk | hk <;> (rw [← h1] at hk; subst hk; exact absurd hc (by decide))
  · exact h

theorem va_up_id {w : xw_W} {a : Nat} {e : va_E} (h : w a = some e) : va_up w a (some e) = w := by
  funext x
  by_cases hx : x = a
  · rw [hx, va_up_self, h]
  · rw [va_up_ne _ _ hx]

set_option maxHeartbeats 4000000 in
set_option maxRecDepth 100000 in
theorem c_S_blankSequence (l : Launch) (G : g_G) (w : xw_W) (hno : ∀ k n, ¬ tr_isN w k n) : Met l ny_S_blankSequence nw_S_blankSequence ({ frames := 2, cells := 7, slots := 107, locals := 37 }) (g_Pc G w []) (g_Qr G (fun q w' => ∃ rt lf, tr_So (G.2.1 0) (G.2.1 1) (G.2.1 2) (fun _ => True) w' q 0 rt lf 0 0 (fun _ => 0) ∧ tr_Wi w' 0 ∧ ∀ a e, w a = some e → w' a = some e)) 7 107 (xw_A (g_b G)) := by
  refine g_met (by decide) (Nat.le_of_ble_eq_true rfl) rfl ?_
  intro p e s m below meth c ls hx hb hr hts hown hlocks hin hml hl hK hB hw hS
  have hT : ∀ w ∈ nw_T, w.before _ s = true := fun w h => hts w (List.mem_cons_of_mem _ h)
  have hown : s.vm.findClass "RadixShelf" = some m.cls := hown
  have hl : lv_has ls 5 [] := hl
  have ol : ∀ a e, w a = some e → w a = some e := fun _ _ h => h
  refine xw_new (T := nT_F) (N := 2) (ci := 1) (fs := [.int 0, .null]) hx hb hT nu_F nt_F nk_F hown (hT _ nh_cl_S_122) (hT _ nh_is_F) (hT _ nh_in_F) hK.1 hB hw hS rfl (fun j hj => by rcases (show j = 0 ∨ j = 1 by omega) with rfl | rfl <;> rfl) (by exact Nat.le_of_ble_eq_true rfl) (by exact Nat.le_of_ble_eq_true rfl) nd_S_blankSequence_0 (fun lf H hn_lf hw hS => ?_)
  obtain ⟨w1, ew2⟩ : ∃ z, z = va_up w lf (some (.inr (1, [.int 0, .null]))) := ⟨_, rfl⟩
  have hw : g_P G w1 H := by rw [ew2]; exact hw
  have h_lf : w1 lf = some (.inr (1, [.int 0, .null])) := by rw [ew2]; exact va_up_self _ _ _
  have z_lf : w lf = none := by
    cases h9 : w lf with
    | none => rfl
    | some e9 => rw [ol _ _ h9] at hn_lf; cases hn_lf
  have ol : ∀ a e, w a = some e → w1 a = some e := fun a e9 h9 => by rw [ew2, va_up_ne _ _ (xw_nn h9 z_lf)]; exact ol a e9 h9
  refine lv_dup hx hb nd_S_blankSequence_3 rfl ?_
  refine lv_iconst (v := 0) hx hb nd_S_blankSequence_4 (by decide) ?_
  refine lv_bipush (v := 32) hx hb nd_S_blankSequence_5 (by decide) ?_
  refine xw_newa (atype := .long) (N' := 32) (a0 := (32, .inr (.inl (fun _ => 0)))) hx hb (hT _ nh_ac_long) (ty := .long) rfl hK.1 hB hw hS 0 rfl (fun _ => rfl) (by decide) (by decide) (by decide) (by exact Nat.le_of_ble_eq_true rfl) (by exact Nat.le_of_ble_eq_true rfl) nd_S_blankSequence_7 (fun x1 H hn_x1 hw hS => ?_)
  obtain ⟨w3, ew4⟩ : ∃ z, z = va_up w1 x1 (some (.inl (G.2.1 0, 32, .inr (.inl (fun _ => 0))))) := ⟨_, rfl⟩
  have hw : g_P G w3 H := by rw [ew4]; exact hw
  have h_lf : w3 lf = some (.inr (1, [.int 0, .null])) := by rw [ew4, va_up_ne _ _ (xw_nn h_lf hn_x1)]; exact h_lf
  have h_x1 : w3 x1 = some (.inl (G.2.1 0, 32, .inr (.inl (fun _ => 0)))) := by rw [ew4]; exact va_up_self _ _ _
  have z_x1 : w x1 = none := by
    cases h9 : w x1 with
    | none => rfl
    | some e9 => rw [ol _ _ h9] at hn_x1; cases hn_x1
  have ol : ∀ a e, w a = some e → w3 a = some e := fun a e9 h9 => by rw [ew4, va_up_ne _ _ (xw_nn h9 z_x1)]; exact ol a e9 h9
  refine g_callv (va_runI (As := [.int 0, .ref x1]) (rest := [.ref lf]) ⟨hx, hb, hml, hown, hts⟩ (c_F_init l G w3 lf 0 x1 h_lf) (cwI 2 hts (nw_of (nw_0 nh_co_F_init)) rfl rfl rfl (hT _ nh_in_F) (hT _ nh_ml_S_124) (hT _ nh_im_F_init) rfl (by decide +kernel) ⟨Nat.le_of_ble_eq_true rfl, Nat.le_of_ble_eq_true rfl⟩) (g_preS hK hw hS _) rfl rfl hl.1 rfl (lv_room (Nat.le_of_ble_eq_true rfl)) nd_S_blankSequence_9 ⟨by exact Nat.le_of_ble_eq_true rfl, by exact Nat.le_of_ble_eq_true rfl⟩) hS (fun w5 H locs hp hw hS => ?_)
  have e_lf : w5 = va_up w3 lf (some (.inr (1, [.int 0, .ref x1]))) := hp
  have h_x1 : w5 x1 = some (.inl (G.2.1 0, 32, .inr (.inl (fun _ => 0)))) := by rw [e_lf, va_up_ne _ _ (xw_ne h_x1 h_lf (by simp))]; exact h_x1
  have h_lf : w5 lf = some (.inr (1, [.int 0, .ref x1])) := by rw [e_lf]; exact va_up_self _ _ _
  have ol : ∀ a e, w a = some e → w5 a = some e := fun a e9 h9 => by rw [e_lf, va_up_ne _ _ (xw_nn h9 z_lf)]; exact ol a e9 h9
  refine lv_astore_n hx hb nd_S_blankSequence_12 rfl hl (by decide) (lv' := [(0, .ref lf)]) rfl (fun ls hl => ?_)
  refine lv_bipush (v := 32) hx hb nd_S_blankSequence_13 (by decide) ?_
  refine xw_newq (N' := 32) hx hb hown (hT _ nh_cl_S_122) hK.2.1.1 hK.1 hB hw hS 1 rfl (by decide) (by decide) (by decide) (by exact Nat.le_of_ble_eq_true rfl) (by exact Nat.le_of_ble_eq_true rfl) nd_S_blankSequence_15 (fun xa H hn_xa hw hS => ?_)
  obtain ⟨w6, ew7⟩ : ∃ z, z = va_up w5 xa (some (.inl (G.2.1 1, 32, .inr (.inr (.inr (.inr (fun _ => none))))))) := ⟨_, rfl⟩
  have hw : g_P G w6 H := by rw [ew7]; exact hw
  have h_lf : w6 lf = some (.inr (1, [.int 0, .ref x1])) := by rw [ew7, va_up_ne _ _ (xw_nn h_lf hn_xa)]; exact h_lf
  have h_x1 : w6 x1 = some (.inl (G.2.1 0, 32, .inr (.inl (fun _ => 0)))) := by rw [ew7, va_up_ne _ _ (xw_nn h_x1 hn_xa)]; exact h_x1
  have h_xa : w6 xa = some (.inl (G.2.1 1, 32, .inr (.inr (.inr (.inr (fun _ => none)))))) := by rw [ew7]; exact va_up_self _ _ _
  have z_xa : w xa = none := by
    cases h9 : w xa with
    | none => rfl
    | some e9 => rw [ol _ _ h9] at hn_xa; cases hn_xa
  have ol : ∀ a e, w a = some e → w6 a = some e := fun a e9 h9 => by rw [ew7, va_up_ne _ _ (xw_nn h9 z_xa)]; exact ol a e9 h9
  refine lv_astore_n hx hb nd_S_blankSequence_18 rfl hl (by decide) (lv' := [(1, .ref xa), (0, .ref lf)]) rfl (fun ls hl => ?_)
  refine lv_iconst (v := 0) hx hb nd_S_blankSequence_19 (by decide) ?_
  refine lv_istore_n hx hb nd_S_blankSequence_20 rfl hl (by decide) (lv' := [(2, .int 0), (1, .ref xa), (0, .ref lf)]) rfl (fun ls hl => ?_)
  have loopxa : (∀ (f : Nat → Option Nat) (ls : Array Slot) (H : Heap) (locs : List Loc), (∀ j, j < 32 → f j = some lf) → lv_has ls 5 [(2, .int (nI 32)), (1, .ref xa), (0, .ref lf)] → g_P G (va_up w6 xa (some (.inl (G.2.1 1, 32, .inr (.inr (.inr (.inr f))))))) H → g_S G s.heap H locs → W p l e ({ frames := 2, cells := 7, slots := 107, locals := 37 }) s m [].toArray below meth c H locs (3) (66) (MQ below (g_Qr G (fun q w' => ∃ rt lf, tr_So (G.2.1 0) (G.2.1 1) (G.2.1 2) (fun _ => True) w' q 0 rt lf 0 0 (fun _ => 0) ∧ tr_Wi w' 0 ∧ ∀ a e, w a = some e → w' a = some e)) [].toArray s 7 107 (xw_A (g_b G))) (F0 m 37 ls [])) → ∀ (m9 i : Nat) (f : Nat → Option Nat) (ls : Array Slot) (H : Heap) (locs : List Loc), m9 + i = 32 → (∀ j, j < i → f j = some lf) → lv_has ls 5 [(2, .int (nI i)), (1, .ref xa), (0, .ref lf)] → g_P G (va_up w6 xa (some (.inl (G.2.1 1, 32, .inr (.inr (.inr (.inr f))))))) H → g_S G s.heap H locs → W p l e ({ frames := 2, cells := 7, slots := 107, locals := 37 }) s m [].toArray below meth c H locs (3) (66) (MQ below (g_Qr G (fun q w' => ∃ rt lf, tr_So (G.2.1 0) (G.2.1 1) (G.2.1 2) (fun _ => True) w' q 0 rt lf 0 0 (fun _ => 0) ∧ tr_Wi w' 0 ∧ ∀ a e, w a = some e → w' a = some e)) [].toArray s 7 107 (xw_A (g_b G))) (F0 m 21 ls []) := by
    intro go m9
    induction m9 with
    | zero =>
      intro i f ls H locs hmi hf hl hw hS
      obtain ⟨wl, ewl⟩ : ∃ z, z = va_up w6 xa (some (.inl (G.2.1 1, 32, .inr (.inr (.inr (.inr f)))))) := ⟨_, rfl⟩
      rw [← ewl] at hw
      have h_lf : wl lf = some (.inr (1, [.int 0, .ref x1])) := by rw [ewl, va_up_ne _ _ (xw_ne h_lf h_xa (by simp))]; exact h_lf
      have h_xa : wl xa = some (.inl (G.2.1 1, 32, .inr (.inr (.inr (.inr f))))) := by rw [ewl]; exact va_up_self _ _ _
      refine lv_iload_n hx hb nd_S_blankSequence_21 rfl (lv_at hl 0 rfl) ?_
      refine lv_bipush (v := 32) hx hb nd_S_blankSequence_22 (by decide) ?_
      refine lv_icmp_ge (tgt := 37) hx hb nd_S_blankSequence_24 (by decide) (fun hc => ?_) (fun hc => ?_)
      · obtain rfl : i = 32 := by omega
        exact go f ls H locs hf hl (by rw [← ewl]; exact hw) hS
      · exact absurd (nI_le (a := 32) (b := i) (by omega) (by omega)) hc
    | succ m9 ih =>
      intro i f ls H locs hmi hf hl hw hS
      obtain ⟨wl, ewl⟩ : ∃ z, z = va_up w6 xa (some (.inl (G.2.1 1, 32, .inr (.inr (.inr (.inr f)))))) := ⟨_, rfl⟩
      rw [← ewl] at hw
      have h_lf : wl lf = some (.inr (1, [.int 0, .ref x1])) := by rw [ewl, va_up_ne _ _ (xw_ne h_lf h_xa (by simp))]; exact h_lf
      have h_xa : wl xa = some (.inl (G.2.1 1, 32, .inr (.inr (.inr (.inr f))))) := by rw [ewl]; exact va_up_self _ _ _
      refine lv_iload_n hx hb nd_S_blankSequence_21 rfl (lv_at hl 0 rfl) ?_
      refine lv_bipush (v := 32) hx hb nd_S_blankSequence_22 (by decide) ?_
      refine lv_icmp_ge (tgt := 37) hx hb nd_S_blankSequence_24 (by decide) (fun hc => ?_) (fun hc => ?_)
      · exact absurd hc (nI_ge (b := 32) (by omega) (by omega))
      · refine lv_aload_n hx hb nd_S_blankSequence_27 rfl (lv_at hl 1 rfl) ?_
        refine lv_iload_n hx hb nd_S_blankSequence_28 rfl (lv_at hl 0 rfl) ?_
        refine lv_aload_n hx hb nd_S_blankSequence_29 rfl (lv_at hl 2 rfl) ?_
        refine xw_aast (r := (nR_F, nT_F, 2)) hx hb hK.1 hB hw hS 1 1 h_xa rfl h_lf rfl (vp_in_nI (by omega) (by decide)) nd_S_blankSequence_30 (fun H locs hw hS => ?_)
        rw [nI_clamp (by omega)] at hw
        obtain ⟨w8, ew9⟩ : ∃ z, z = va_up wl xa (some (.inl (G.2.1 1, 32, .inr (.inr (.inr (.inr (va_up f i (some lf)))))))) := ⟨_, rfl⟩
        have hw : g_P G w8 H := by rw [ew9]; exact hw
        have h_lf : w8 lf = some (.inr (1, [.int 0, .ref x1])) := by rw [ew9, va_up_ne _ _ (xw_ne h_lf h_xa (by simp))]; exact h_lf
        have h_xa : w8 xa = some (.inl (G.2.1 1, 32, .inr (.inr (.inr (.inr (va_up f i (some lf))))))) := by rw [ew9]; exact va_up_self _ _ _
        refine lv_iinc (k := 0) hx hb nd_S_blankSequence_31 hl rfl rfl (by decide) (lv' := [(2, .int ((nI i) + 1)), (1, .ref xa), (0, .ref lf)]) rfl (fun ls hl => ?_)
        rw [nI_1] at hl
        refine lv_goto (tgt := 21) hx hb nd_S_blankSequence_34 (by decide) ?_
        refine ih (i + 1) (va_up f i (some lf)) ls H locs (by omega) (fun j hj => ?_) hl (by rw [ew9, ewl, bx_uu] at hw; exact hw) hS
        by_cases ej : j = i
        · rw [ej, va_up_self]
        · rw [va_up_ne _ _ ej]; exact hf j (by omega)
  refine loopxa (fun fxa ls H locs hfxa hl hw hS => ?_) 32 0 (fun _ => none) ls H locs (by omega) (fun j hj => absurd hj (by omega)) hl ?_ hS
  · obtain ⟨w8, e_xa⟩ : ∃ z, z = va_up w6 xa (some (.inl (G.2.1 1, 32, .inr (.inr (.inr (.inr fxa)))))) := ⟨_, rfl⟩
    rw [← e_xa] at hw
    have h_lf : w8 lf = some (.inr (1, [.int 0, .ref x1])) := by rw [e_xa, va_up_ne _ _ (xw_ne h_lf h_xa (by simp))]; exact h_lf
    have h_x1 : w8 x1 = some (.inl (G.2.1 0, 32, .inr (.inl (fun _ => 0)))) := by rw [e_xa, va_up_ne _ _ (xw_ne h_x1 h_xa (by simp))]; exact h_x1
    have h_xa : w8 xa = some (.inl (G.2.1 1, 32, .inr (.inr (.inr (.inr fxa))))) := by rw [e_xa]; exact va_up_self _ _ _
    have ol : ∀ a e, w a = some e → w8 a = some e := fun a e9 h9 => by rw [e_xa, va_up_ne _ _ (xw_nn h9 z_xa)]; exact ol a e9 h9
    refine xw_new (T := nT_B) (N := 2) (ci := 0) (fs := [.int 0, .null]) hx hb hT nu_B nt_B nk_B hown (hT _ nh_cl_S_127) (hT _ nh_is_B) (hT _ nh_in_B) hK.1 hB hw hS rfl (fun j hj => by rcases (show j = 0 ∨ j = 1 by omega) with rfl | rfl <;> rfl) (by exact Nat.le_of_ble_eq_true rfl) (by exact Nat.le_of_ble_eq_true rfl) nd_S_blankSequence_37 (fun br H hn_br hw hS => ?_)
    obtain ⟨w9, ew10⟩ : ∃ z, z = va_up w8 br (some (.inr (0, [.int 0, .null]))) := ⟨_, rfl⟩
    have hw : g_P G w9 H := by rw [ew10]; exact hw
    have h_lf : w9 lf = some (.inr (1, [.int 0, .ref x1])) := by rw [ew10, va_up_ne _ _ (xw_nn h_lf hn_br)]; exact h_lf
    have h_x1 : w9 x1 = some (.inl (G.2.1 0, 32, .inr (.inl (fun _ => 0)))) := by rw [ew10, va_up_ne _ _ (xw_nn h_x1 hn_br)]; exact h_x1
    have h_xa : w9 xa = some (.inl (G.2.1 1, 32, .inr (.inr (.inr (.inr fxa))))) := by rw [ew10, va_up_ne _ _ (xw_nn h_xa hn_br)]; exact h_xa
    have h_br : w9 br = some (.inr (0, [.int 0, .null])) := by rw [ew10]; exact va_up_self _ _ _
    have z_br : w br = none := by
      cases h9 : w br with
      | none => rfl
      | some e9 => rw [ol _ _ h9] at hn_br; cases hn_br
    have ol : ∀ a e, w a = some e → w9 a = some e := fun a e9 h9 => by rw [ew10, va_up_ne _ _ (xw_nn h9 z_br)]; exact ol a e9 h9
    refine lv_dup hx hb nd_S_blankSequence_40 rfl ?_
    refine lv_iconst (v := 0) hx hb nd_S_blankSequence_41 (by decide) ?_
    refine lv_aload_n hx hb nd_S_blankSequence_42 rfl (lv_at hl 1 rfl) ?_
    refine g_callv (va_runI (As := [.int 0, .ref xa]) (rest := [.ref br]) ⟨hx, hb, hml, hown, hts⟩ (c_B_init l G w9 br 0 xa h_br) (cwI 2 hts (nw_of (nw_0 nh_co_B_init)) rfl rfl rfl (hT _ nh_in_B) (hT _ nh_ml_S_129) (hT _ nh_im_B_init) rfl (by decide +kernel) ⟨Nat.le_of_ble_eq_true rfl, Nat.le_of_ble_eq_true rfl⟩) (g_preS hK hw hS _) rfl rfl hl.1 rfl (lv_room (Nat.le_of_ble_eq_true rfl)) nd_S_blankSequence_43 ⟨by exact Nat.le_of_ble_eq_true rfl, by exact Nat.le_of_ble_eq_true rfl⟩) hS (fun w11 H locs hp hw hS => ?_)
    have e_br : w11 = va_up w9 br (some (.inr (0, [.int 0, .ref xa]))) := hp
    have h_lf : w11 lf = some (.inr (1, [.int 0, .ref x1])) := by rw [e_br, va_up_ne _ _ (xw_ne h_lf h_br (by simp))]; exact h_lf
    have h_x1 : w11 x1 = some (.inl (G.2.1 0, 32, .inr (.inl (fun _ => 0)))) := by rw [e_br, va_up_ne _ _ (xw_ne h_x1 h_br (by simp))]; exact h_x1
    have h_xa : w11 xa = some (.inl (G.2.1 1, 32, .inr (.inr (.inr (.inr fxa))))) := by rw [e_br, va_up_ne _ _ (xw_ne h_xa h_br (by simp))]; exact h_xa
    have h_br : w11 br = some (.inr (0, [.int 0, .ref xa])) := by rw [e_br]; exact va_up_self _ _ _
    have ol : ∀ a e, w a = some e → w11 a = some e := fun a e9 h9 => by rw [e_br, va_up_ne _ _ (xw_nn h9 z_br)]; exact ol a e9 h9
    refine lv_astore_n hx hb nd_S_blankSequence_46 rfl hl (by decide) (lv' := [(2, .ref br), (1, .ref xa), (0, .ref lf)]) rfl (fun ls hl => ?_)
    refine lv_bipush (v := 32) hx hb nd_S_blankSequence_47 (by decide) ?_
    refine xw_newq (N' := 32) hx hb hown (hT _ nh_cl_S_127) hK.2.1.2.1 hK.1 hB hw hS 2 rfl (by decide) (by decide) (by decide) (by exact Nat.le_of_ble_eq_true rfl) (by exact Nat.le_of_ble_eq_true rfl) nd_S_blankSequence_49 (fun xb H hn_xb hw hS => ?_)
    have hab : xa ≠ xb := xw_nn h_xa hn_xb
    obtain ⟨w12, ew13⟩ : ∃ z, z = va_up w11 xb (some (.inl (G.2.1 2, 32, .inr (.inr (.inr (.inr (fun _ => none))))))) := ⟨_, rfl⟩
    have hw : g_P G w12 H := by rw [ew13]; exact hw
    have h_lf : w12 lf = some (.inr (1, [.int 0, .ref x1])) := by rw [ew13, va_up_ne _ _ (xw_nn h_lf hn_xb)]; exact h_lf
    have h_x1 : w12 x1 = some (.inl (G.2.1 0, 32, .inr (.inl (fun _ => 0)))) := by rw [ew13, va_up_ne _ _ (xw_nn h_x1 hn_xb)]; exact h_x1
    have h_xa : w12 xa = some (.inl (G.2.1 1, 32, .inr (.inr (.inr (.inr fxa))))) := by rw [ew13, va_up_ne _ _ (xw_nn h_xa hn_xb)]; exact h_xa
    have h_br : w12 br = some (.inr (0, [.int 0, .ref xa])) := by rw [ew13, va_up_ne _ _ (xw_nn h_br hn_xb)]; exact h_br
    have h_xb : w12 xb = some (.inl (G.2.1 2, 32, .inr (.inr (.inr (.inr (fun _ => none)))))) := by rw [ew13]; exact va_up_self _ _ _
    have z_xb : w xb = none := by
      cases h9 : w xb with
      | none => rfl
      | some e9 => rw [ol _ _ h9] at hn_xb; cases hn_xb
    have ol : ∀ a e, w a = some e → w12 a = some e := fun a e9 h9 => by rw [ew13, va_up_ne _ _ (xw_nn h9 z_xb)]; exact ol a e9 h9
    refine lv_astore_n hx hb nd_S_blankSequence_52 rfl hl (by decide) (lv' := [(3, .ref xb), (2, .ref br), (1, .ref xa), (0, .ref lf)]) rfl (fun ls hl => ?_)
    refine lv_iconst (v := 0) hx hb nd_S_blankSequence_53 (by decide) ?_
    refine lv_istore hx hb nd_S_blankSequence_54 hl (by decide) (lv' := [(4, .int 0), (3, .ref xb), (2, .ref br), (1, .ref xa), (0, .ref lf)]) rfl (fun ls hl => ?_)
    have loopxb : (∀ (f : Nat → Option Nat) (ls : Array Slot) (H : Heap) (locs : List Loc), (∀ j, j < 32 → f j = some br) → lv_has ls 5 [(4, .int (nI 32)), (3, .ref xb), (2, .ref br), (1, .ref xa), (0, .ref lf)] → g_P G (va_up w12 xb (some (.inl (G.2.1 2, 32, .inr (.inr (.inr (.inr f))))))) H → g_S G s.heap H locs → W p l e ({ frames := 2, cells := 7, slots := 107, locals := 37 }) s m [].toArray below meth c H locs (5) (100) (MQ below (g_Qr G (fun q w' => ∃ rt lf, tr_So (G.2.1 0) (G.2.1 1) (G.2.1 2) (fun _ => True) w' q 0 rt lf 0 0 (fun _ => 0) ∧ tr_Wi w' 0 ∧ ∀ a e, w a = some e → w' a = some e)) [].toArray s 7 107 (xw_A (g_b G))) (F0 m 74 ls [])) → ∀ (m9 i : Nat) (f : Nat → Option Nat) (ls : Array Slot) (H : Heap) (locs : List Loc), m9 + i = 32 → (∀ j, j < i → f j = some br) → lv_has ls 5 [(4, .int (nI i)), (3, .ref xb), (2, .ref br), (1, .ref xa), (0, .ref lf)] → g_P G (va_up w12 xb (some (.inl (G.2.1 2, 32, .inr (.inr (.inr (.inr f))))))) H → g_S G s.heap H locs → W p l e ({ frames := 2, cells := 7, slots := 107, locals := 37 }) s m [].toArray below meth c H locs (5) (100) (MQ below (g_Qr G (fun q w' => ∃ rt lf, tr_So (G.2.1 0) (G.2.1 1) (G.2.1 2) (fun _ => True) w' q 0 rt lf 0 0 (fun _ => 0) ∧ tr_Wi w' 0 ∧ ∀ a e, w a = some e → w' a = some e)) [].toArray s 7 107 (xw_A (g_b G))) (F0 m 56 ls []) := by
        intro go m9
        induction m9 with
        | zero =>
          intro i f ls H locs hmi hf hl hw hS
          obtain ⟨wl, ewl⟩ : ∃ z, z = va_up w12 xb (some (.inl (G.2.1 2, 32, .inr (.inr (.inr (.inr f)))))) := ⟨_, rfl⟩
          rw [← ewl] at hw
          have h_br : wl br = some (.inr (0, [.int 0, .ref xa])) := by rw [ewl, va_up_ne _ _ (xw_ne h_br h_xb (by simp))]; exact h_br
          have h_xb : wl xb = some (.inl (G.2.1 2, 32, .inr (.inr (.inr (.inr f))))) := by rw [ewl]; exact va_up_self _ _ _
          refine lv_iload hx hb nd_S_blankSequence_56 (lv_at hl 0 rfl) ?_
          refine lv_bipush (v := 32) hx hb nd_S_blankSequence_58 (by decide) ?_
          refine lv_icmp_ge (tgt := 74) hx hb nd_S_blankSequence_60 (by decide) (fun hc => ?_) (fun hc => ?_)
          · obtain rfl : i = 32 := by omega
            exact go f ls H locs hf hl (by rw [← ewl]; exact hw) hS
          · exact absurd (nI_le (a := 32) (b := i) (by omega) (by omega)) hc
        | succ m9 ih =>
          intro i f ls H locs hmi hf hl hw hS
          obtain ⟨wl, ewl⟩ : ∃ z, z = va_up w12 xb (some (.inl (G.2.1 2, 32, .inr (.inr (.inr (.inr f)))))) := ⟨_, rfl⟩
          rw [← ewl] at hw
          have h_br : wl br = some (.inr (0, [.int 0, .ref xa])) := by rw [ewl, va_up_ne _ _ (xw_ne h_br h_xb (by simp))]; exact h_br
          have h_xb : wl xb = some (.inl (G.2.1 2, 32, .inr (.inr (.inr (.inr f))))) := by rw [ewl]; exact va_up_self _ _ _
          refine lv_iload hx hb nd_S_blankSequence_56 (lv_at hl 0 rfl) ?_
          refine lv_bipush (v := 32) hx hb nd_S_blankSequence_58 (by decide) ?_
          refine lv_icmp_ge (tgt := 74) hx hb nd_S_blankSequence_60 (by decide) (fun hc => ?_) (fun hc => ?_)
          · exact absurd hc (nI_ge (b := 32) (by omega) (by omega))
          · refine lv_aload_n hx hb nd_S_blankSequence_63 rfl (lv_at hl 1 rfl) ?_
            refine lv_iload hx hb nd_S_blankSequence_64 (lv_at hl 0 rfl) ?_
            refine lv_aload_n hx hb nd_S_blankSequence_66 rfl (lv_at hl 2 rfl) ?_
            refine xw_aast (r := (nR_B, nT_B, 2)) hx hb hK.1 hB hw hS 2 0 h_xb rfl h_br rfl (vp_in_nI (by omega) (by decide)) nd_S_blankSequence_67 (fun H locs hw hS => ?_)
            rw [nI_clamp (by omega)] at hw
            obtain ⟨w14, ew15⟩ : ∃ z, z = va_up wl xb (some (.inl (G.2.1 2, 32, .inr (.inr (.inr (.inr (va_up f i (some br)))))))) := ⟨_, rfl⟩
            have hw : g_P G w14 H := by rw [ew15]; exact hw
            have h_br : w14 br = some (.inr (0, [.int 0, .ref xa])) := by rw [ew15, va_up_ne _ _ (xw_ne h_br h_xb (by simp))]; exact h_br
            have h_xb : w14 xb = some (.inl (G.2.1 2, 32, .inr (.inr (.inr (.inr (va_up f i (some br))))))) := by rw [ew15]; exact va_up_self _ _ _
            refine lv_iinc (k := 0) hx hb nd_S_blankSequence_68 hl rfl rfl (by decide) (lv' := [(4, .int ((nI i) + 1)), (3, .ref xb), (2, .ref br), (1, .ref xa), (0, .ref lf)]) rfl (fun ls hl => ?_)
            rw [nI_1] at hl
            refine lv_goto (tgt := 56) hx hb nd_S_blankSequence_71 (by decide) ?_
            refine ih (i + 1) (va_up f i (some br)) ls H locs (by omega) (fun j hj => ?_) hl (by rw [ew15, ewl, bx_uu] at hw; exact hw) hS
            by_cases ej : j = i
            · rw [ej, va_up_self]
            · rw [va_up_ne _ _ ej]; exact hf j (by omega)
    refine loopxb (fun fxb ls H locs hfxb hl hw hS => ?_) 32 0 (fun _ => none) ls H locs (by omega) (fun j hj => absurd hj (by omega)) hl ?_ hS
    · obtain ⟨w14, e_xb⟩ : ∃ z, z = va_up w12 xb (some (.inl (G.2.1 2, 32, .inr (.inr (.inr (.inr fxb)))))) := ⟨_, rfl⟩
      rw [← e_xb] at hw
      have h_lf : w14 lf = some (.inr (1, [.int 0, .ref x1])) := by rw [e_xb, va_up_ne _ _ (xw_ne h_lf h_xb (by simp))]; exact h_lf
      have h_x1 : w14 x1 = some (.inl (G.2.1 0, 32, .inr (.inl (fun _ => 0)))) := by rw [e_xb, va_up_ne _ _ (xw_ne h_x1 h_xb (by simp))]; exact h_x1
      have h_xa : w14 xa = some (.inl (G.2.1 1, 32, .inr (.inr (.inr (.inr fxa))))) := by rw [e_xb, va_up_ne _ _ (hab)]; exact h_xa
      have h_br : w14 br = some (.inr (0, [.int 0, .ref xa])) := by rw [e_xb, va_up_ne _ _ (xw_ne h_br h_xb (by simp))]; exact h_br
      have h_xb : w14 xb = some (.inl (G.2.1 2, 32, .inr (.inr (.inr (.inr fxb))))) := by rw [e_xb]; exact va_up_self _ _ _
      have ol : ∀ a e, w a = some e → w14 a = some e := fun a e9 h9 => by rw [e_xb, va_up_ne _ _ (xw_nn h9 z_xb)]; exact ol a e9 h9
      refine xw_new (T := nT_Q) (N := 5) (ci := 3) (fs := [.int 0, .null, .null, .int 0, .int 0]) hx hb hT nu_Q nt_Q nk_Q hown (hT _ nh_cl_S_17) (hT _ nh_is_Q) (hT _ nh_in_Q) hK.1 hB hw hS rfl (fun j hj => by rcases (show j = 0 ∨ j = 1 ∨ j = 2 ∨ j = 3 ∨ j = 4 by omega) with rfl | rfl | rfl | rfl | rfl <;> rfl) (by exact Nat.le_of_ble_eq_true rfl) (by exact Nat.le_of_ble_eq_true rfl) nd_S_blankSequence_74 (fun q H hn_q hw hS => ?_)
      obtain ⟨w15, ew16⟩ : ∃ z, z = va_up w14 q (some (.inr (3, [.int 0, .null, .null, .int 0, .int 0]))) := ⟨_, rfl⟩
      have hw : g_P G w15 H := by rw [ew16]; exact hw
      have h_lf : w15 lf = some (.inr (1, [.int 0, .ref x1])) := by rw [ew16, va_up_ne _ _ (xw_nn h_lf hn_q)]; exact h_lf
      have h_x1 : w15 x1 = some (.inl (G.2.1 0, 32, .inr (.inl (fun _ => 0)))) := by rw [ew16, va_up_ne _ _ (xw_nn h_x1 hn_q)]; exact h_x1
      have h_xa : w15 xa = some (.inl (G.2.1 1, 32, .inr (.inr (.inr (.inr fxa))))) := by rw [ew16, va_up_ne _ _ (xw_nn h_xa hn_q)]; exact h_xa
      have h_br : w15 br = some (.inr (0, [.int 0, .ref xa])) := by rw [ew16, va_up_ne _ _ (xw_nn h_br hn_q)]; exact h_br
      have h_xb : w15 xb = some (.inl (G.2.1 2, 32, .inr (.inr (.inr (.inr fxb))))) := by rw [ew16, va_up_ne _ _ (xw_nn h_xb hn_q)]; exact h_xb
      have h_q : w15 q = some (.inr (3, [.int 0, .null, .null, .int 0, .int 0])) := by rw [ew16]; exact va_up_self _ _ _
      have z_q : w q = none := by
        cases h9 : w q with
        | none => rfl
        | some e9 => rw [ol _ _ h9] at hn_q; cases hn_q
      have ol : ∀ a e, w a = some e → w15 a = some e := fun a e9 h9 => by rw [ew16, va_up_ne _ _ (xw_nn h9 z_q)]; exact ol a e9 h9
      refine lv_dup hx hb nd_S_blankSequence_77 rfl ?_
      refine lv_iconst (v := 0) hx hb nd_S_blankSequence_78 (by decide) ?_
      refine xw_new (T := nT_R) (N := 2) (ci := 2) (fs := [.int 0, .null]) hx hb hT nu_R nt_R nk_R hown (hT _ nh_cl_S_132) (hT _ nh_is_R) (hT _ nh_in_R) hK.1 hB hw hS rfl (fun j hj => by rcases (show j = 0 ∨ j = 1 by omega) with rfl | rfl <;> rfl) (by exact Nat.le_of_ble_eq_true rfl) (by exact Nat.le_of_ble_eq_true rfl) nd_S_blankSequence_79 (fun rt H hn_rt hw hS => ?_)
      obtain ⟨w17, ew18⟩ : ∃ z, z = va_up w15 rt (some (.inr (2, [.int 0, .null]))) := ⟨_, rfl⟩
      have hw : g_P G w17 H := by rw [ew18]; exact hw
      have h_lf : w17 lf = some (.inr (1, [.int 0, .ref x1])) := by rw [ew18, va_up_ne _ _ (xw_nn h_lf hn_rt)]; exact h_lf
      have h_x1 : w17 x1 = some (.inl (G.2.1 0, 32, .inr (.inl (fun _ => 0)))) := by rw [ew18, va_up_ne _ _ (xw_nn h_x1 hn_rt)]; exact h_x1
      have h_xa : w17 xa = some (.inl (G.2.1 1, 32, .inr (.inr (.inr (.inr fxa))))) := by rw [ew18, va_up_ne _ _ (xw_nn h_xa hn_rt)]; exact h_xa
      have h_br : w17 br = some (.inr (0, [.int 0, .ref xa])) := by rw [ew18, va_up_ne _ _ (xw_nn h_br hn_rt)]; exact h_br
      have h_xb : w17 xb = some (.inl (G.2.1 2, 32, .inr (.inr (.inr (.inr fxb))))) := by rw [ew18, va_up_ne _ _ (xw_nn h_xb hn_rt)]; exact h_xb
      have h_q : w17 q = some (.inr (3, [.int 0, .null, .null, .int 0, .int 0])) := by rw [ew18, va_up_ne _ _ (xw_nn h_q hn_rt)]; exact h_q
      have h_rt : w17 rt = some (.inr (2, [.int 0, .null])) := by rw [ew18]; exact va_up_self _ _ _
      have z_rt : w rt = none := by
        cases h9 : w rt with
        | none => rfl
        | some e9 => rw [ol _ _ h9] at hn_rt; cases hn_rt
      have ol : ∀ a e, w a = some e → w17 a = some e := fun a e9 h9 => by rw [ew18, va_up_ne _ _ (xw_nn h9 z_rt)]; exact ol a e9 h9
      refine lv_dup hx hb nd_S_blankSequence_82 rfl ?_
      refine lv_iconst (v := 0) hx hb nd_S_blankSequence_83 (by decide) ?_
      refine lv_aload_n hx hb nd_S_blankSequence_84 rfl (lv_at hl 1 rfl) ?_
      refine g_callv (va_runI (As := [.int 0, .ref xb]) (rest := [.ref rt, .int 0, .ref q, .ref q]) ⟨hx, hb, hml, hown, hts⟩ (c_R_init l G w17 rt 0 xb h_rt) (cwI 2 hts (nw_of (nw_0 nh_co_R_init)) rfl rfl rfl (hT _ nh_in_R) (hT _ nh_ml_S_134) (hT _ nh_im_R_init) rfl (by decide +kernel) ⟨Nat.le_of_ble_eq_true rfl, Nat.le_of_ble_eq_true rfl⟩) (g_preS hK hw hS _) rfl rfl hl.1 rfl (lv_room (Nat.le_of_ble_eq_true rfl)) nd_S_blankSequence_85 ⟨by exact Nat.le_of_ble_eq_true rfl, by exact Nat.le_of_ble_eq_true rfl⟩) hS (fun w19 H locs hp hw hS => ?_)
      have e_rt : w19 = va_up w17 rt (some (.inr (2, [.int 0, .ref xb]))) := hp
      have h_lf : w19 lf = some (.inr (1, [.int 0, .ref x1])) := by rw [e_rt, va_up_ne _ _ (xw_ne h_lf h_rt (by simp))]; exact h_lf
      have h_x1 : w19 x1 = some (.inl (G.2.1 0, 32, .inr (.inl (fun _ => 0)))) := by rw [e_rt, va_up_ne _ _ (xw_ne h_x1 h_rt (by simp))]; exact h_x1
      have h_xa : w19 xa = some (.inl (G.2.1 1, 32, .inr (.inr (.inr (.inr fxa))))) := by rw [e_rt, va_up_ne _ _ (xw_ne h_xa h_rt (by simp))]; exact h_xa
      have h_br : w19 br = some (.inr (0, [.int 0, .ref xa])) := by rw [e_rt, va_up_ne _ _ (xw_ne h_br h_rt (by simp))]; exact h_br
      have h_xb : w19 xb = some (.inl (G.2.1 2, 32, .inr (.inr (.inr (.inr fxb))))) := by rw [e_rt, va_up_ne _ _ (xw_ne h_xb h_rt (by simp))]; exact h_xb
      have h_q : w19 q = some (.inr (3, [.int 0, .null, .null, .int 0, .int 0])) := by rw [e_rt, va_up_ne _ _ (xw_ne h_q h_rt (by simp))]; exact h_q
      have h_rt : w19 rt = some (.inr (2, [.int 0, .ref xb])) := by rw [e_rt]; exact va_up_self _ _ _
      have ol : ∀ a e, w a = some e → w19 a = some e := fun a e9 h9 => by rw [e_rt, va_up_ne _ _ (xw_nn h9 z_rt)]; exact ol a e9 h9
      refine lv_aload_n hx hb nd_S_blankSequence_88 rfl (lv_at hl 4 rfl) ?_
      refine lv_iconst (v := 0) hx hb nd_S_blankSequence_89 (by decide) ?_
      refine lv_iconst (v := 0) hx hb nd_S_blankSequence_90 (by decide) ?_
      refine g_callv (va_runI (As := [.int 0, .ref rt, .ref lf, .int 0, .int 0]) (rest := [.ref q]) ⟨hx, hb, hml, hown, hts⟩ (c_Q_init l G w19 q rt lf 0 0 0 h_q) (cwI 5 hts (nw_of (nw_0 nh_co_Q_init)) rfl rfl rfl (hT _ nh_in_Q) (hT _ nh_ml_S_105) (hT _ nh_im_Q_init) rfl (by decide +kernel) ⟨Nat.le_of_ble_eq_true rfl, Nat.le_of_ble_eq_true rfl⟩) (g_preS hK hw hS _) rfl rfl hl.1 rfl (lv_room (Nat.le_of_ble_eq_true rfl)) nd_S_blankSequence_91 ⟨by exact Nat.le_of_ble_eq_true rfl, by exact Nat.le_of_ble_eq_true rfl⟩) hS (fun w20 H locs hp hw hS => ?_)
      have e_q : w20 = va_up w19 q (some (.inr (3, [.int 0, .ref rt, .ref lf, .int 0, .int 0]))) := hp
      have h_lf : w20 lf = some (.inr (1, [.int 0, .ref x1])) := by rw [e_q, va_up_ne _ _ (xw_ne h_lf h_q (by simp))]; exact h_lf
      have h_x1 : w20 x1 = some (.inl (G.2.1 0, 32, .inr (.inl (fun _ => 0)))) := by rw [e_q, va_up_ne _ _ (xw_ne h_x1 h_q (by simp))]; exact h_x1
      have h_xa : w20 xa = some (.inl (G.2.1 1, 32, .inr (.inr (.inr (.inr fxa))))) := by rw [e_q, va_up_ne _ _ (xw_ne h_xa h_q (by simp))]; exact h_xa
      have h_br : w20 br = some (.inr (0, [.int 0, .ref xa])) := by rw [e_q, va_up_ne _ _ (xw_ne h_br h_q (by simp))]; exact h_br
      have h_xb : w20 xb = some (.inl (G.2.1 2, 32, .inr (.inr (.inr (.inr fxb))))) := by rw [e_q, va_up_ne _ _ (xw_ne h_xb h_q (by simp))]; exact h_xb
      have h_rt : w20 rt = some (.inr (2, [.int 0, .ref xb])) := by rw [e_q, va_up_ne _ _ (xw_ne h_rt h_q (by simp))]; exact h_rt
      have h_q : w20 q = some (.inr (3, [.int 0, .ref rt, .ref lf, .int 0, .int 0])) := by rw [e_q]; exact va_up_self _ _ _
      have ol : ∀ a e, w a = some e → w20 a = some e := fun a e9 h9 => by rw [e_q, va_up_ne _ _ (xw_nn h9 z_q)]; exact ol a e9 h9
      have hN : ∀ k n, tr_isN w20 k n → n = rt ∨ n = br ∨ n = lf := by
        intro k n hn
        rw [e_q] at hn
        have hn := tr_isN_no hn (Or.inr ⟨_, _, rfl, by decide⟩)
        rw [e_rt] at hn
        rcases tr_isN_at hn with h9 | hn
        · exact Or.inl h9
        rw [ew18] at hn
        rcases tr_isN_at hn with h9 | hn
        · exact Or.inl h9
        rw [ew16] at hn
        have hn := tr_isN_no hn (Or.inr ⟨_, _, rfl, by decide⟩)
        rw [e_xb] at hn
        have hn := tr_isN_no hn (Or.inl ⟨_, rfl⟩)
        rw [ew13] at hn
        have hn := tr_isN_no hn (Or.inl ⟨_, rfl⟩)
        rw [e_br] at hn
        rcases tr_isN_at hn with h9 | hn
        · exact Or.inr (Or.inl h9)
        rw [ew10] at hn
        rcases tr_isN_at hn with h9 | hn
        · exact Or.inr (Or.inl h9)
        rw [e_xa] at hn
        have hn := tr_isN_no hn (Or.inl ⟨_, rfl⟩)
        rw [ew7] at hn
        have hn := tr_isN_no hn (Or.inl ⟨_, rfl⟩)
        rw [e_lf] at hn
        rcases tr_isN_at hn with h9 | hn
        · exact Or.inr (Or.inr h9)
        rw [ew4] at hn
        have hn := tr_isN_no hn (Or.inl ⟨_, rfl⟩)
        rw [ew2] at hn
        rcases tr_isN_at hn with h9 | hn
        · exact Or.inr (Or.inr h9)
        exact absurd hn (hno k n)
      obtain ⟨hSo, hWi⟩ := sh_blank h_q h_rt h_br h_lf h_x1 h_xa h_xb hfxa hfxb hab hN
      exact g_aret hx hb hr hlocks hw hS (⟨rt, lf, hSo, hWi, ol⟩) (by exact Nat.le_of_ble_eq_true rfl) (by exact Nat.le_of_ble_eq_true rfl) nd_S_blankSequence_94
    · rw [show va_up w12 xb (some (.inl (G.2.1 2, 32, .inr (.inr (.inr (.inr (fun _ => none))))))) = w12 from va_up_id h_xb]; exact hw
  · rw [show va_up w6 xa (some (.inl (G.2.1 1, 32, .inr (.inr (.inr (.inr (fun _ => none))))))) = w6 from va_up_id h_xa]; exact hw
