set_option maxHeartbeats 4000000 in
set_option maxRecDepth 100000 in
theorem c_M_init (l : Launch) (G : g_G) (w : xw_W) (mo : Nat) (hm : w mo = some (.inr (5, [.null, .null, .int 0, .int 0]))) : Met l ny_M_init nw_M_init ({ frames := 1, cells := 19, slots := 51034, locals := 12 }) (g_Pc G w [.ref mo]) (g_Qv G (fun w' => ∃ ra sa rr, mo_I G w' mo ra sa rr (false, fun _ => 0, fun _ _ => 0) 0 ∧ (∀ a, w a ≠ none → a ≠ mo → w' a = w a) ∧ (∀ k n, tr_isN w' k n → w' n = w n) ∧ w ra = none ∧ w sa = none ∧ ∀ k, k < 17 → w (rr k) = none)) 19 51034 (xw_A (g_b G)) := by
  refine g_met (by decide) (Nat.le_of_ble_eq_true rfl) rfl ?_
  intro p e s m below meth c ls hx hb hr hts hown hlocks hin hml hl hK hB hw hS
  have hT : ∀ w ∈ nw_T, w.before _ s = true := fun w h => hts w (List.mem_cons_of_mem _ h)
  have hown : s.vm.findClass "RadixShelfModel" = some m.cls := hown
  have hl : lv_has ls 1 [(0, .ref mo)] := hl
  refine lv_aload_n hx hb nd_M_init_0 rfl (lv_at hl 0 rfl) ?_
  refine W.objInit hx hb hown (hT _ nh_ml_M_1) (hT _ nh_im_obj) (hT _ nh_co_obj) rfl (by rw [hml]; exact hl.1) rfl nd_M_init_1 (Nat.le_of_ble_eq_true rfl) (Nat.le_of_ble_eq_true rfl) ?_
  refine W.eq (g2 := F0 m 4 ls []) rfl ?_
  refine lv_aload_n hx hb nd_M_init_4 rfl (lv_at hl 0 rfl) ?_
  refine lv_bipush (v := 17) hx hb nd_M_init_5 (by decide) ?_
  refine lv_sipush (v := 3000) hx hb nd_M_init_7 (by decide) ?_
  refine xw_multi (N := 17) (M := 3000) hx hb hown (hT _ nh_cl_M_9) (hT _ nh_ac_long) hK hB hw hS rfl rfl (by decide) (by decide) (by exact Nat.le_of_ble_eq_true rfl) (by exact Nat.le_of_ble_eq_true rfl) nd_M_init_10 (fun q H hnn hw hS => ?_)
  have hlt : mo < q := Nat.not_le.mp (fun z => by rw [hnn mo z] at hm; cases hm)
  obtain ⟨w1, e1⟩ : ∃ z, z = mo_W w q (G.2.1 5) (G.2.1 0) 17 3000 17 := ⟨_, rfl⟩
  have hw : g_P G w1 H := by rw [e1]; exact hw
  have old : ∀ a, (a < q ∨ q + 1 + 17 ≤ a) → w1 a = w a := fun a ha => by rw [e1]; exact mo_W_old 17 a ha
  have hin9 : ∀ k, k < 17 → w1 (q + 1 + k) = some (.inl (G.2.1 0, 3000, .inr (.inl (fun _ => 0)))) := fun k hk => by rw [e1]; exact mo_W_in 17 k hk
  have hm : w1 mo = some (.inr (5, [.null, .null, .int 0, .int 0])) := by rw [old mo (Or.inl hlt)]; exact hm
  have hq : w1 q = some (.inl (G.2.1 5, 17, .inr (.inr (.inr (.inr (fun j => some (q + 1 + j))))))) := by rw [e1]; exact mo_W_out 17
  have hq1 := hq
  refine xw_putF (T := nT_M) (N := 4) (ci := 5) (v := .ref q) (ty := (.array (.array .long))) hx hb hT nu_M nt_M nk_M nn_M hown hK.1 hB hw hS hm rfl 0 (by decide) (hT _ nh_fl_M_11) (fun _ h9 => h9) rfl hin rfl (by decide +kernel) rfl rfl (Nat.le_of_ble_eq_true rfl) nd_M_init_14 (fun H locs hw hS => ?_)
  obtain ⟨w2, ew3⟩ : ∃ z, z = va_up w1 mo (some (.inr (5, [.ref q, .null, .int 0, .int 0]))) := ⟨_, rfl⟩
  have hw : g_P G w2 H := by rw [ew3]; exact hw
  have hq : w2 q = some (.inl (G.2.1 5, 17, .inr (.inr (.inr (.inr (fun j => some (q + 1 + j))))))) := by rw [ew3, va_up_ne _ _ (xw_ne hq hm (by simp))]; exact hq
  have hm : w2 mo = some (.inr (5, [.ref q, .null, .int 0, .int 0])) := by rw [ew3]; exact va_up_self _ _ _
  refine lv_aload_n hx hb nd_M_init_17 rfl (lv_at hl 0 rfl) ?_
  refine lv_bipush (v := 17) hx hb nd_M_init_18 (by decide) ?_
  have hin9b : ∀ k, k < 17 → w2 (q + 1 + k) = some (.inl (G.2.1 0, 3000, .inr (.inl (fun _ => 0)))) := fun k hk => by rw [ew3, va_up_ne _ _ (by omega)]; exact hin9 k hk
  refine xw_newa (atype := .int) (N' := 17) (a0 := (17, .inl (fun _ => 0))) hx hb (hT _ nh_ac_int) (ty := .int) rfl hK.1 hB hw hS 4 rfl (fun _ => rfl) (by decide) (by decide) (by decide) (by exact Nat.le_of_ble_eq_true rfl) (by exact Nat.le_of_ble_eq_true rfl) nd_M_init_20 (fun sa H hn_sa hw hS => ?_)
  have hnsa := hn_sa
  obtain ⟨w4, ew5⟩ : ∃ z, z = va_up w2 sa (some (.inl (G.2.1 4, 17, .inl (fun _ => 0)))) := ⟨_, rfl⟩
  have hw : g_P G w4 H := by rw [ew5]; exact hw
  have hm : w4 mo = some (.inr (5, [.ref q, .null, .int 0, .int 0])) := by rw [ew5, va_up_ne _ _ (xw_nn hm hn_sa)]; exact hm
  have hq : w4 q = some (.inl (G.2.1 5, 17, .inr (.inr (.inr (.inr (fun j => some (q + 1 + j))))))) := by rw [ew5, va_up_ne _ _ (xw_nn hq hn_sa)]; exact hq
  have h_sa : w4 sa = some (.inl (G.2.1 4, 17, .inl (fun _ => 0))) := by rw [ew5]; exact va_up_self _ _ _
  refine xw_putF (T := nT_M) (N := 4) (ci := 5) (v := .ref sa) (ty := (.array .int)) hx hb hT nu_M nt_M nk_M nn_M hown hK.1 hB hw hS hm rfl 1 (by decide) (hT _ nh_fl_M_14) (fun _ h9 => h9) rfl hin rfl (by decide +kernel) rfl rfl (Nat.le_of_ble_eq_true rfl) nd_M_init_22 (fun H locs hw hS => ?_)
  obtain ⟨w6, ew7⟩ : ∃ z, z = va_up w4 mo (some (.inr (5, [.ref q, .ref sa, .int 0, .int 0]))) := ⟨_, rfl⟩
  have hw : g_P G w6 H := by rw [ew7]; exact hw
  have hq : w6 q = some (.inl (G.2.1 5, 17, .inr (.inr (.inr (.inr (fun j => some (q + 1 + j))))))) := by rw [ew7, va_up_ne _ _ (xw_ne hq hm (by simp))]; exact hq
  have h_sa : w6 sa = some (.inl (G.2.1 4, 17, .inl (fun _ => 0))) := by rw [ew7, va_up_ne _ _ (xw_ne h_sa hm (by simp))]; exact h_sa
  have hm : w6 mo = some (.inr (5, [.ref q, .ref sa, .int 0, .int 0])) := by rw [ew7]; exact va_up_self _ _ _
  have hsm : sa ≠ mo := fun z => by rw [z, ew3, va_up_self] at hnsa; cases hnsa
  have hs1 : w1 sa = none := by rw [ew3, va_up_ne _ _ hsm] at hnsa; exact hnsa
  have hsq : q + 1 + 17 ≤ sa ∨ sa < q := by
    by_cases h9 : q + 1 + 17 ≤ sa
    · exact Or.inl h9
    · by_cases h8 : sa < q
      · exact Or.inr h8
      · exfalso
        by_cases h7 : sa = q
        · rw [h7, hq1] at hs1; cases hs1
        · have h6 := hin9 (sa - (q + 1)) (by omega)
          rw [show q + 1 + (sa - (q + 1)) = sa by omega, hs1] at h6
          cases h6
  have hs0 : w sa = none := by rw [← old sa (by omega)]; exact hs1
  have fin : ∀ a, a ≠ mo → a ≠ sa → w6 a = w1 a := fun a n1 n2 => by rw [ew7, va_up_ne _ _ n1, ew5, va_up_ne _ _ n2, ew3, va_up_ne _ _ n1]
  have rows9 : ∀ k, k < 17 → w6 (q + 1 + k) = some (.inl (G.2.1 0, 3000, .inr (.inl (fun _ => 0)))) := fun k hk => by rw [fin _ (by omega) (fun z => by rw [← z, hin9 k hk] at hs1; cases hs1)]; exact hin9 k hk
  have hJ : mo_J G w6 mo q sa (fun k => q + 1 + k) false (fun _ => 0) (fun _ _ => 0) 0 := ⟨hm, ⟨_, hq, fun k _ => rfl⟩, ⟨_, h_sa, fun k _ => nI_0.symm⟩, fun k hk => ⟨Nat.zero_le _, rows9 k hk⟩, fun k k' _ _ e => by have : q + 1 + k = q + 1 + k' := e; omega⟩
  have hF1 : ∀ a, w a ≠ none → a ≠ mo → w6 a = w a := fun a ha n1 => by
    have hlq : a < q := Nat.not_le.mp (fun z => ha (hnn a z))
    rw [fin a n1 (fun z => ha (by rw [z]; exact hs0)), old a (Or.inl hlq)]
  have hF2 : ∀ k n, tr_isN w6 k n → w6 n = w n := fun k n hn => by
    have n1 : n ≠ mo := tr_isN_ne hn hm (by decide)
    have n2 : ∀ a e, w6 a = some (.inl e) → n ≠ a := fun a e ha z => by
      obtain ⟨-, s9, x9, h9⟩ := hn
      rw [z, ha] at h9
      cases h9
    have n3 := n2 _ _ h_sa
    by_cases h9 : n < q ∨ q + 1 + 17 ≤ n
    · rw [fin n n1 n3, old n h9]
    · exfalso
      by_cases h7 : n = q
      · exact n2 _ _ hq h7
      · exact n2 _ _ (rows9 (n - (q + 1)) (by omega)) (by omega)
  exact g_vret hx hb hr hlocks hw hS (⟨q, sa, fun k => q + 1 + k, ⟨_, hJ, fun k _ z hz => rfl⟩, hF1, hF2, hnn q (Nat.le_refl _), hs0, fun k _ => hnn (q + 1 + k) (by omega)⟩) (by exact Nat.le_of_ble_eq_true rfl) (by exact Nat.le_of_ble_eq_true rfl) nd_M_init_25
