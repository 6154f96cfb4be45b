/-! storing into an array; writing the sequence; owning a node -/
theorem tr_kind {w : tr_W} {k k' n : Nat} (h : tr_isN w k n) (h' : tr_isN w k' n) : k = k' := by
  obtain ⟨-, s, x, hx⟩ := h
  obtain ⟨-, s', x', hx'⟩ := h'
  rw [hx] at hx'
  injection hx' with e
  injection e with e
  injection e with e1 e2
theorem tr_kinds {w : tr_W} {k k' n n' : Nat} (h : tr_isN w k n) (h' : tr_isN w k' n') (hk : k ≠ k') : n ≠ n' := by
  intro e
  subst e
  exact hk (tr_kind h h')
theorem tr_st_node {w : tr_W} {x k n : Nat} {e1 : ClassId × vp_A} (h : tr_isN (va_up w x (some (.inl e1))) k n) : n ≠ x ∧ tr_isN w k n ∧ va_up w x (some (.inl e1)) n = w n := by
  by_cases hn : n = x
  · obtain ⟨-, s, y, hx⟩ := h
    rw [hn, tr_up_self] at hx
    cases hx
  · have e : va_up w x (some (.inl e1)) n = w n := tr_up_ne hn
    exact ⟨hn, tr_isN_eq e.symm h, e⟩
theorem tr_st_old {w : tr_W} {x k n : Nat} {e0 e1 : ClassId × vp_A} (hx : w x = some (.inl e0)) (h : tr_isN w k n) : va_up w x (some (.inl e1)) n = w n := by
  obtain ⟨-, s, y, hy⟩ := h
  exact tr_up_ne (Ne.symm (tr_ne_kind hx hy))
theorem tr_st_same {w : tr_W} {x k n : Nat} {e0 e1 : ClassId × vp_A} (hx : w x = some (.inl e0)) (h : tr_isN w k n) (hn : tr_arr w n ≠ x) : tr_Same w (va_up w x (some (.inl e1))) n := ⟨tr_st_old hx h, tr_up_ne hn⟩
theorem tr_st_Kp {w : tr_W} {x d q : Nat} {e0 e1 : ClassId × vp_A} (hx : w x = some (.inl e0)) (ho : tr_Own w d x) : tr_Kp d q w (va_up w x (some (.inl e1))) := by
  refine ⟨fun a e ha _ hn => ?_, fun k n hn => Or.inl (tr_st_node hn).2.2, fun k n hn => tr_st_old hx hn, fun a ha => ?_⟩
  · rw [tr_up_ne (fun z => hn (by rw [z]; exact ho))]
    exact ha
  · by_cases h : a = x
    · rw [h, tr_up_self]; exact fun z => by cases z
    · rw [tr_up_ne h]; exact ha
theorem tr_st_Wi {w : tr_W} {x M : Nat} {e0 e1 : ClassId × vp_A} (hW : tr_Wi w M) (hx : w x = some (.inl e0)) : tr_Wi (va_up w x (some (.inl e1))) M := by
  refine ⟨fun k n hn => ?_, fun k1 a k2 b ha hb hab => ?_, fun k n hn => ?_⟩
  · obtain ⟨-, hn', h⟩ := tr_st_node hn
    rw [tr_arr_eq h]
    by_cases hz : tr_arr w n = x
    · exact ⟨e1, by rw [hz, tr_up_self]⟩
    · obtain ⟨e, he⟩ := hW.1 k n hn'
      exact ⟨e, by rw [tr_up_ne hz]; exact he⟩
  · obtain ⟨-, ha', h⟩ := tr_st_node ha
    obtain ⟨-, hb', h'⟩ := tr_st_node hb
    rw [tr_arr_eq h, tr_arr_eq h'] at hab
    exact hW.2.1 _ _ _ _ ha' hb' hab
  · obtain ⟨-, hn', h⟩ := tr_st_node hn
    rw [tr_stp_eq h]
    exact hW.2.2 k n hn'
theorem tr_sq_node {w : tr_W} {q k n : Nat} {l' : List Value} (h : tr_isN (va_up w q (some (.inr (tr_kS, l')))) k n) : tr_isN w k n ∧ va_up w q (some (.inr (tr_kS, l'))) n = w n := by
  have hn : n ≠ q := tr_notSeq h tr_up_self
  have e : va_up w q (some (.inr (tr_kS, l'))) n = w n := tr_up_ne hn
  exact ⟨tr_isN_eq e.symm h, e⟩
theorem tr_sq_same {w : tr_W} {M q k n : Nat} {l : List Value} {e : va_E} (hW : tr_Wi w M) (hq : w q = some (.inr (tr_kS, l))) (h : tr_isN w k n) : tr_Same w (va_up w q (some e)) n := ⟨tr_up_ne (tr_notSeq h hq), tr_up_ne (tr_arr_notSeq hW h hq)⟩
theorem tr_sq_Kp {w : tr_W} {q d : Nat} {l l' : List Value} (hq : w q = some (.inr (tr_kS, l))) : tr_Kp d q w (va_up w q (some (.inr (tr_kS, l')))) := by
  refine ⟨fun a e ha hn _ => by rw [tr_up_ne hn]; exact ha, fun k n hn => Or.inl (tr_sq_node hn).2, fun k n hn => tr_up_ne (tr_notSeq hn hq), fun a ha => ?_⟩
  by_cases h : a = q
  · rw [h, tr_up_self]; exact fun z => by cases z
  · rw [tr_up_ne h]; exact ha
theorem tr_sq_Wi {w : tr_W} {q M : Nat} {l l' : List Value} (hW : tr_Wi w M) (hq : w q = some (.inr (tr_kS, l))) : tr_Wi (va_up w q (some (.inr (tr_kS, l')))) M := by
  refine ⟨fun k n hn => ?_, fun k1 a k2 b ha hb hab => ?_, fun k n hn => ?_⟩
  · obtain ⟨hn', h⟩ := tr_sq_node hn
    obtain ⟨e, he⟩ := hW.1 k n hn'
    exact ⟨e, by rw [tr_arr_eq h, tr_up_ne (tr_ne_kind he hq)]; exact he⟩
  · obtain ⟨ha', h⟩ := tr_sq_node ha
    obtain ⟨hb', h'⟩ := tr_sq_node hb
    rw [tr_arr_eq h, tr_arr_eq h'] at hab
    exact hW.2.1 _ _ _ _ ha' hb' hab
  · obtain ⟨hn', h⟩ := tr_sq_node hn
    rw [tr_stp_eq h]
    exact hW.2.2 k n hn'
/-- what owning a node gives -/
theorem tr_Ow.out {k d q M : Nat} {w w1 : tr_W} {n n1 : Nat} (hW : tr_Wi w M) (hd : d ≤ M) (hn : tr_isN w k n) (h : tr_Ow k d w w1 n n1) :
    tr_Kp d q w w1 ∧ tr_Wi w1 M ∧ tr_isN w1 k n1 ∧ tr_stp w1 n1 = nI d ∧ w1 (tr_arr w1 n1) = w (tr_arr w n) ∧ (∀ k' m, tr_isN w k' m → tr_Same w w1 m) ∧ ((n1 = n ∧ tr_stp w n = nI d) ∨ w n1 = none) ∧ ∀ a e, w a = some e → w1 a = some e := by
  rcases h with ⟨hs, rfl, rfl⟩ | ⟨hs, x, e, h1, h2, hne, he, rfl⟩
  · exact ⟨tr_Kp.rf, hW, hn, hs, rfl, fun _ _ _ => tr_Same.rf, Or.inl ⟨rfl, hs⟩, fun _ _ h => h⟩
  · have hold : ∀ a e', w a = some e' → va_up (va_up w x (some (.inl e))) n1 (some (tr_N k (nI d) x)) a = some e' := fun a e' ha => tr_new_same h1 h2 ha
    refine ⟨tr_new_Kp h1 h2 hne, tr_new_Wi hW hd h1 h2 hne, ⟨hn.1, nI d, x, tr_up_self⟩, tr_stp_of tr_up_self, ?_, fun k' m hm => ?_, Or.inr h1, hold⟩
    · rw [tr_arr_of tr_up_self, tr_up_ne (fun z => hne z.symm), tr_up_self, he]
    · obtain ⟨s', x', hx'⟩ := hm.2
      obtain ⟨e', he'⟩ := hW.1 k' m hm
      exact ⟨by rw [hx']; exact hold _ _ hx', by rw [he']; exact hold _ _ he'⟩
theorem tr_okA_eq {c : Nat} {w w' : tr_W} {x x' : Nat} (h : tr_okA c w x) (e : w' x' = w x) : tr_okA c w' x' ∧ ∀ j, tr_chd w' x' j = tr_chd w x j := by
  have hc : ∀ j, tr_chd w' x' j = tr_chd w x j := fun j => by simp [tr_chd, e]
  obtain ⟨f, hf, hj⟩ := h
  exact ⟨⟨f, by rw [e]; exact hf, fun j hj' => by rw [hc j]; exact hj j hj'⟩, hc⟩
/-- a branch's and a root's copy -/
theorem tr_okB_own {cJ cL d q M : Nat} {w w1 : tr_W} {y y1 : Nat} (hW : tr_Wi w M) (hd : d ≤ M) (hy : tr_okB cJ cL w y) (h : tr_Ow tr_kB d w w1 y y1) : tr_okB cJ cL w1 y1 ∧ ∀ j, tr_chd w1 (tr_arr w1 y1) j = tr_chd w (tr_arr w y) j := by
  obtain ⟨-, -, hn, -, ha, hsm, -⟩ := h.out (q := q) hW hd hy.1
  obtain ⟨hA, hc⟩ := tr_okA_eq hy.2.1 ha
  exact ⟨⟨hn, hA, fun j hj => by rw [hc j]; exact tr_okL_same (hy.2.2 j hj) (hsm _ _ (hy.2.2 j hj).1)⟩, hc⟩
theorem tr_okR_own {cJ cL cB d q M : Nat} {w w1 : tr_W} {r r1 : Nat} (hW : tr_Wi w M) (hd : d ≤ M) (hr : tr_okR cJ cL cB w r) (h : tr_Ow tr_kR d w w1 r r1) : tr_okR cJ cL cB w1 r1 ∧ (∀ i, tr_brn w1 r1 i = tr_brn w r i) ∧ ∀ b, b < 1024 → tr_lfb w1 r1 b = tr_lfb w r b := by
  obtain ⟨-, -, hn, -, ha, hsm, -⟩ := h.out (q := q) hW hd hr.1
  obtain ⟨hA, hc⟩ := tr_okA_eq hr.2.1 ha
  refine ⟨⟨hn, hA, fun i hi => ?_⟩, hc, fun b hb => ?_⟩
  · rw [hc i]
    have hy := hr.2.2 i hi
    exact tr_okB_same hy (hsm _ _ hy.1) (fun j hj => hsm _ _ (hy.2.2 j hj).1)
  · unfold tr_lfb
    have e : tr_brn w1 r1 (b / 32) = tr_brn w r (b / 32) := hc _
    rw [e]
    exact (hsm _ _ (hr.br (show b / 32 < 32 by omega)).1).chd _
theorem tr_okR_all {cJ cL cB : Nat} {w w' : tr_W} {r : Nat} (h : tr_okR cJ cL cB w r) (hs : ∀ k n, tr_isN w k n → tr_Same w w' n) : tr_okR cJ cL cB w' r ∧ (∀ i, tr_brn w' r i = tr_brn w r i) ∧ ∀ b, b < 1024 → tr_lfb w' r b = tr_lfb w r b :=
  tr_okR_same h (hs _ _ h.1) (fun _ hi => hs _ _ (h.br hi).1) (fun _ hb => hs _ _ (h.lf hb).1)
def tr_Ub (w : tr_W) (r d : Nat) : Prop := ∀ i j, i < 32 → j < 32 → tr_brn w r i = tr_brn w r j → tr_stp w (tr_brn w r i) = nI d → i = j
set_option maxHeartbeats 1000000 in
/-- hanging a leaf into the trie of q -/
theorem tr_hang {cJ cL cB d q M r r1 y1 t leaf blk : Nat} {o n : Int32} {w w1 w2 w3 w4 w5 : tr_W} {f4 f5 : Nat → Option Nat} (hW : tr_Wi w M) (hd : d ≤ M) (hq : w q = some (tr_S (nI d) r t o n)) (hR : tr_okR cJ cL cB w r) (hU : tr_Ub w r d) (hlf : tr_okL cJ w leaf) (hblk : blk < 1024)
    (h1 : tr_Ow tr_kR d w w1 r r1) (h2 : w2 = va_up w1 q (some (tr_S (nI d) r1 t o n))) (h3 : tr_Ow tr_kB d w2 w3 (tr_brn w2 r1 (blk / 32)) y1)
    (h4 : w3 (tr_arr w3 y1) = some (tr_Q cL f4)) (h4' : w4 = va_up w3 (tr_arr w3 y1) (some (tr_Q cL (va_up f4 (blk % 32) (some leaf)))))
    (h5 : w4 (tr_arr w3 r1) = some (tr_Q cB f5)) (h5' : w5 = va_up w4 (tr_arr w3 r1) (some (tr_Q cB (va_up f5 (blk / 32) (some y1))))) :
    w5 q = some (tr_S (nI d) r1 t o n) ∧ tr_okR cJ cL cB w5 r1 ∧ tr_Ub w5 r1 d ∧ (∀ b, b < 1024 → tr_lfb w5 r1 b = if b = blk then leaf else tr_lfb w r b) ∧ tr_Wi w5 M ∧ tr_Kp d q w w5 ∧ (∀ z, tr_isN w tr_kL z → tr_Same w w5 z) ∧ tr_stp w5 r1 = nI d ∧ ∀ i, i < 32 → (tr_stp w5 (tr_brn w5 r1 i) = nI d ∨ tr_stp w5 (tr_brn w5 r1 i) = tr_stp w (tr_brn w r i)) := by
  obtain ⟨K1, W1, n1, s1, -, m1, f1, x1⟩ := h1.out (q := q) hW hd hR.1
  obtain ⟨R1, b1, l1⟩ := tr_okR_own (q := q) hW hd hR h1
  have q1 : w1 q = some (tr_S (nI d) r t o n) := x1 _ _ hq
  have m2 : ∀ k n, tr_isN w1 k n → tr_Same w1 w2 n := fun k n hn => by rw [h2]; exact tr_sq_same W1 q1 hn
  have K2 : tr_Kp d q w1 w2 := by rw [h2]; exact tr_sq_Kp q1
  have W2 : tr_Wi w2 M := by rw [h2]; exact tr_sq_Wi W1 q1
  have q2 : w2 q = some (tr_S (nI d) r1 t o n) := by rw [h2, tr_up_self]
  obtain ⟨R2, b2, l2⟩ := tr_okR_all R1 m2
  have hi0 : blk / 32 < 32 := by omega
  have Y2 := R2.br hi0
  obtain ⟨K3, W3, n3, s3, -, m3, f3, x3⟩ := h3.out (q := q) W2 hd Y2.1
  obtain ⟨Y3, c3⟩ := tr_okB_own (q := q) W2 hd Y2 h3
  obtain ⟨R3, b3, l3⟩ := tr_okR_all R2 m3
  have q3 : w3 q = some (tr_S (nI d) r1 t o n) := x3 _ _ q2
  have r3 := R3.1
  have rs3 : tr_stp w3 r1 = nI d := by rw [(m3 _ _ R2.1).stp, (m2 _ _ R1.1).stp]; exact s1
  have hyr : y1 ≠ r1 := tr_kinds n3 r3 (by decide)
  have hxx : tr_arr w3 y1 ≠ tr_arr w3 r1 := fun z => hyr (W3.2.1 _ _ _ _ n3 r3 z)
  -- the two stores
  have m4 : ∀ k n, tr_isN w3 k n → n ≠ y1 → tr_Same w3 w4 n := fun k n hn hne => by rw [h4']; exact tr_st_same h4 hn (fun z => hne (W3.2.1 _ _ _ _ hn n3 z))
  have o4 : ∀ k n, tr_isN w3 k n → w4 n = w3 n := fun k n hn => by rw [h4']; exact tr_st_old h4 hn
  have K4 : tr_Kp d q w3 w4 := by rw [h4']; exact tr_st_Kp h4 ⟨_, _, n3, s3, rfl⟩
  have W4 : tr_Wi w4 M := by rw [h4']; exact tr_st_Wi W3 h4
  have r4 : tr_isN w4 tr_kR r1 := tr_isN_eq (o4 _ _ r3) r3
  have a4 : tr_arr w4 r1 = tr_arr w3 r1 := tr_arr_eq (o4 _ _ r3)
  have m5 : ∀ k n, tr_isN w4 k n → n ≠ r1 → tr_Same w4 w5 n := fun k n hn hne => by rw [h5']; exact tr_st_same h5 hn (fun z => hne (W4.2.1 _ _ _ _ hn r4 (z.trans a4.symm)))
  have o5 : ∀ k n, tr_isN w4 k n → w5 n = w4 n := fun k n hn => by rw [h5']; exact tr_st_old h5 hn
  have K5 : tr_Kp d q w4 w5 := by rw [h5']; exact tr_st_Kp h5 ⟨_, _, r4, by rw [tr_stp_eq (o4 _ _ r3)]; exact rs3, a4.symm⟩
  have W5 : tr_Wi w5 M := by rw [h5']; exact tr_st_Wi W4 h5
  have all : ∀ k n, tr_isN w3 k n → n ≠ y1 → n ≠ r1 → tr_Same w3 w5 n := fun k n hn h h' => (m4 k n hn h).tr (m5 k n (tr_isN_eq (m4 k n hn h).1 hn) h')
  have lv3 : ∀ z, tr_isN w3 tr_kL z → tr_Same w3 w5 z := fun z hz => all _ _ hz (tr_kinds hz n3 (by decide)) (tr_kinds hz r3 (by decide))
  have lv : ∀ z, tr_isN w tr_kL z → tr_Same w w5 z := fun z hz => by
    have e1 := m1 _ _ hz
    have z1 := tr_isN_eq e1.1 hz
    have e2 := m2 _ _ z1
    have z2 := tr_isN_eq e2.1 z1
    have e3 := m3 _ _ z2
    exact ((e1.tr e2).tr e3).tr (lv3 z (tr_isN_eq e3.1 z2))
  have br : ∀ i, tr_brn w3 r1 i = tr_brn w r i := fun i => by rw [b3, b2, b1]
  have lf : ∀ b, b < 1024 → tr_lfb w3 r1 b = tr_lfb w r b := fun b hb => by rw [l3 b hb, l2 b hb, l1 b hb]
  -- y1 is at one place only
  have hy1 : ∀ i, i < 32 → i ≠ blk / 32 → tr_brn w3 r1 i ≠ y1 := by
    intro i hi hne z
    rcases f3 with ⟨e, hs⟩ | e
    · have e1 : tr_brn w r i = tr_brn w r (blk / 32) := by rw [← br i, z, e, b2, b1]
      refine hne (hU i (blk / 32) hi hi0 e1 ?_)
      have hN := (hR.br hi).1
      rw [e1]
      have hN0 := (hR.br hi0).1
      have e2 : tr_stp w1 (tr_brn w r (blk / 32)) = tr_stp w (tr_brn w r (blk / 32)) := (m1 _ _ hN0).stp
      have e3 := (m2 _ _ (tr_isN_eq (m1 _ _ hN0).1 hN0)).stp
      rw [← e2, ← e3, ← b1 (blk / 32), ← b2 (blk / 32)]
      exact hs
    · have hz := (R2.br hi).1
      rw [b3] at z
      rw [z] at hz
      obtain ⟨-, s, x, hx⟩ := hz
      rw [e] at hx
      cases hx
  have ar5 : tr_arr w5 r1 = tr_arr w3 r1 := (tr_arr_eq (o5 _ _ r4)).trans a4
  have c5 : ∀ i, i < 32 → (va_up f5 (blk / 32) (some y1)) i = some (if i = blk / 32 then y1 else tr_brn w3 r1 i) := by
    intro i hi
    have hf := R3.2.1
    obtain ⟨f, hf1, hf2⟩ := hf
    have hw4 : w4 (tr_arr w3 r1) = w3 (tr_arr w3 r1) := by rw [h4']; exact tr_up_ne (Ne.symm hxx)
    rw [hw4, hf1] at h5
    have hff : f5 = f := by
      injection h5 with h5
      injection h5 with h5
      injection h5 with _ h5
      injection h5 with _ h5
      injection h5 with h5
      injection h5 with h5
      injection h5 with h5
      injection h5 with h5
      exact h5.symm
    by_cases e : i = blk / 32
    · rw [if_pos e, e]; exact va_up_self _ _ _
    · rw [if_neg e, va_up_ne _ _ e, hff]
      exact hf2 i hi
  have x5 : w5 (tr_arr w5 r1) = some (tr_Q cB (va_up f5 (blk / 32) (some y1))) := by rw [ar5, h5', tr_up_self]
  have br5 : ∀ i, i < 32 → tr_brn w5 r1 i = if i = blk / 32 then y1 else tr_brn w3 r1 i := fun i hi => by
    unfold tr_brn
    rw [tr_chd_of x5 i, c5 i hi]; rfl
  -- y1's own row
  have y4 : w4 y1 = w3 y1 := o4 _ _ n3
  have ny4 : tr_isN w4 tr_kB y1 := tr_isN_eq y4 n3
  have y5 : w5 y1 = w4 y1 := o5 _ _ ny4
  have ay5 : tr_arr w5 y1 = tr_arr w3 y1 := (tr_arr_eq y5).trans (tr_arr_eq y4)
  have xy5 : w5 (tr_arr w5 y1) = some (tr_Q cL (va_up f4 (blk % 32) (some leaf))) := by rw [ay5, h5', tr_up_ne hxx, h4', tr_up_self]
  have c4 : ∀ j, j < 32 → (va_up f4 (blk % 32) (some leaf)) j = some (if j = blk % 32 then leaf else tr_chd w3 (tr_arr w3 y1) j) := by
    intro j hj
    obtain ⟨f, hf1, hf2⟩ := Y3.2.1
    rw [h4] at hf1
    have hff : f4 = f := by
      injection hf1 with h5
      injection h5 with h5
      injection h5 with _ h5
      injection h5 with _ h5
      injection h5 with h5
      injection h5 with h5
      injection h5 with h5
      injection h5 with h5
    by_cases e : j = blk % 32
    · rw [if_pos e, e]; exact va_up_self _ _ _
    · rw [if_neg e, va_up_ne _ _ e, hff]
      exact hf2 j hj
  have ch5 : ∀ j, j < 32 → tr_chd w5 (tr_arr w5 y1) j = if j = blk % 32 then leaf else tr_chd w3 (tr_arr w3 y1) j := fun j hj => by
    rw [tr_chd_of xy5 j, c4 j hj]; rfl
  have oldY : ∀ i, i < 32 → i ≠ blk / 32 → tr_Same w3 w5 (tr_brn w3 r1 i) := fun i hi hne => all _ _ (R3.br hi).1 (hy1 i hi hne) (tr_kinds (R3.br hi).1 r3 (by decide))
  have okY : ∀ i, i < 32 → i ≠ blk / 32 → tr_okB cJ cL w5 (tr_brn w3 r1 i) := fun i hi hne => tr_okB_same (R3.br hi) (oldY i hi hne) (fun j hj => lv3 _ ((R3.br hi).2.2 j hj).1)
  have okY1 : tr_okB cJ cL w5 y1 := by
    refine ⟨tr_isN_eq y5 ny4, ⟨_, xy5, fun j hj => by rw [ch5 j hj]; exact c4 j hj⟩, fun j hj => ?_⟩
    rw [ch5 j hj]
    by_cases e : j = blk % 32
    · rw [if_pos e]; exact tr_okL_same hlf (lv _ hlf.1)
    · rw [if_neg e]; exact tr_okL_same (Y3.2.2 j hj) (lv3 _ (Y3.2.2 j hj).1)
  refine ⟨?_, ⟨tr_isN_eq (o5 _ _ r4) r4, ⟨_, x5, fun i hi => ?_⟩, fun i hi => ?_⟩, fun i j hi hj e hs => ?_, fun b hb => ?_, W5, (((K1.tr K2).tr K3).tr K4).tr K5, lv, by rw [tr_stp_eq (o5 _ _ r4), tr_stp_eq (o4 _ _ r3)]; exact rs3, fun i hi => ?_⟩
  · have q4 : w4 q = some (tr_S (nI d) r1 t o n) := by rw [h4', tr_up_ne (Ne.symm (tr_ne_kind h4 q3))]; exact q3
    rw [h5', tr_up_ne (Ne.symm (tr_ne_kind h5 q4))]
    exact q4
  · have := br5 i hi
    unfold tr_brn at this
    rw [this]; exact c5 i hi
  · have := br5 i hi
    unfold tr_brn at this
    rw [this]
    by_cases e : i = blk / 32
    · rw [if_pos e]; exact okY1
    · rw [if_neg e]; exact okY i hi e
  · rw [br5 i hi, br5 j hj] at e
    by_cases ei : i = blk / 32
    · by_cases ej : j = blk / 32
      · rw [ei, ej]
      · rw [if_pos ei, if_neg ej] at e
        exact absurd e.symm (hy1 j hj ej)
    · by_cases ej : j = blk / 32
      · rw [if_neg ei, if_pos ej] at e
        exact absurd e (hy1 i hi ei)
      · rw [if_neg ei, if_neg ej] at e
        rw [br5 i hi, if_neg ei, (oldY i hi ei).stp] at hs
        have hN := (hR.br hi).1
        have hN1 := tr_isN_eq (m1 _ _ hN).1 hN
        have hN2 := tr_isN_eq (m2 _ _ hN1).1 hN1
        refine hU i j hi hj (by rw [← br i, ← br j]; exact e) ?_
        rw [br i] at hs
        rw [← (m1 _ _ hN).stp, ← (m2 _ _ hN1).stp, ← (m3 _ _ hN2).stp]
        exact hs
  · have hb2 : b / 32 < 32 := by omega
    have hj2 : b % 32 < 32 := by omega
    unfold tr_lfb
    rw [br5 _ hb2]
    by_cases ei : b / 32 = blk / 32
    · rw [if_pos ei, ch5 _ hj2]
      by_cases ej : b % 32 = blk % 32
      · rw [if_pos ej, if_pos (show b = blk by omega)]
      · rw [if_neg ej, if_neg (show b ≠ blk by omega), c3, ← ei]
        have := lf b hb
        unfold tr_lfb at this
        rw [← this, b3]
        exact ((m3 _ _ (R2.br hb2).1).chd _).symm
    · rw [if_neg ei, if_neg (show b ≠ blk by omega), (oldY _ hb2 ei).chd]
      have := lf b hb
      unfold tr_lfb at this
      exact this
  · rw [br5 i hi]
    by_cases ei : i = blk / 32
    · rw [if_pos ei]
      exact Or.inl (by rw [tr_stp_eq y5, tr_stp_eq y4]; exact s3)
    · rw [if_neg ei]
      have hN := (hR.br hi).1
      have hN1 := tr_isN_eq (m1 _ _ hN).1 hN
      have hN2 := tr_isN_eq (m2 _ _ hN1).1 hN1
      exact Or.inr (by rw [(oldY i hi ei).stp, br i, (m3 _ _ hN2).stp, (m2 _ _ hN1).stp, (m1 _ _ hN).stp])
