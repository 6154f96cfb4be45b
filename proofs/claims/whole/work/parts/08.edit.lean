/-! a draft: its invariant, and what each edit does to the values at the 32768 places -/
def tr_tb (o n : Nat) : Nat := ((o + n + 32767) % 32768) / 32
def tr_blk (w : tr_W) (r t T b : Nat) : Nat := if b = T then t else tr_lfb w r b
def tr_vl (w : tr_W) (r t T p : Nat) : Int64 := tr_val w (tr_arr w (tr_blk w r t T (p / 32))) (p % 32)
def tr_Ul (w : tr_W) (r d : Nat) : Prop := ∀ a b, a < 1024 → b < 1024 → tr_lfb w r a = tr_lfb w r b → tr_stp w (tr_lfb w r a) = nI d → a = b
def tr_Ut (w : tr_W) (r t d T : Nat) : Prop := ∀ a, a < 1024 → tr_lfb w r a = t → tr_stp w t = nI d → a = T
/-- every node that root and tail reach bears a stamp of the kind Z -/
def tr_Av (w : tr_W) (r t : Nat) (Z : Int32 → Prop) : Prop := Z (tr_stp w r) ∧ (∀ i, i < 32 → Z (tr_stp w (tr_brn w r i))) ∧ (∀ b, b < 1024 → Z (tr_stp w (tr_lfb w r b))) ∧ Z (tr_stp w t)
def tr_Df (cJ cL cB M d : Nat) (Z : Int32 → Prop) (w : tr_W) (q r t o n : Nat) : Prop :=
  tr_Wi w M ∧ d ≤ M ∧ w q = some (tr_S (nI d) r t (nI o) (nI n)) ∧ o < 32768 ∧ n ≤ 3000 ∧ tr_okR cJ cL cB w r ∧ tr_okL cJ w t ∧ tr_Ub w r d ∧ tr_Ul w r d ∧ tr_Ut w r t d (tr_tb o n) ∧ Z (nI d) ∧ tr_Av w r t Z
def tr_Hg (cJ cL cB M d q r t blk leaf : Nat) (o n : Int32) (w w' : tr_W) (r1 : Nat) : Prop :=
  w' q = some (tr_S (nI d) r1 t o n) ∧ tr_okR cJ cL cB w' r1 ∧ tr_Ub w' r1 d ∧ (∀ b, b < 1024 → tr_lfb w' r1 b = if b = blk then leaf else tr_lfb w r b) ∧ tr_Wi w' M ∧ tr_Kp d q w w' ∧ (∀ z, tr_isN w tr_kL z → tr_Same w w' z) ∧ tr_stp w' r1 = nI d ∧ ∀ i, i < 32 → (tr_stp w' (tr_brn w' r1 i) = nI d ∨ tr_stp w' (tr_brn w' r1 i) = tr_stp w (tr_brn w r i))
theorem tr_tb_lt (o n : Nat) : tr_tb o n < 1024 := by unfold tr_tb; omega
theorem tr_uniq {w : tr_W} {r t d T : Nat} (hl : tr_Ul w r d) (ht : tr_Ut w r t d T) {a b : Nat} (ha : a < 1024) (hb : b < 1024) (e : tr_blk w r t T a = tr_blk w r t T b) (hs : tr_stp w (tr_blk w r t T a) = nI d) : a = b := by
  unfold tr_blk at e hs
  by_cases h1 : a = T
  · by_cases h2 : b = T
    · rw [h1, h2]
    · rw [if_pos h1] at hs
      rw [if_pos h1, if_neg h2] at e
      exact absurd (ht b hb e.symm hs) h2
  · by_cases h2 : b = T
    · rw [if_neg h1] at hs
      rw [if_neg h1, if_pos h2] at e
      rw [e] at hs
      exact absurd (ht a ha e hs) h1
    · rw [if_neg h1] at hs
      rw [if_neg h1, if_neg h2] at e
      exact hl a b ha hb e hs
theorem tr_blk_ok {cJ cL cB : Nat} {w : tr_W} {r t T b : Nat} (hR : tr_okR cJ cL cB w r) (ht : tr_okL cJ w t) (hb : b < 1024) : tr_okL cJ w (tr_blk w r t T b) := by
  unfold tr_blk
  by_cases h : b = T
  · rw [if_pos h]; exact ht
  · rw [if_neg h]; exact hR.lf hb
theorem tr_Ub_all {cJ cL cB d : Nat} {w w' : tr_W} {r : Nat} (hR : tr_okR cJ cL cB w r) (hU : tr_Ub w r d) (hs : ∀ k n, tr_isN w k n → w' n = w n) (hb : ∀ i, tr_brn w' r i = tr_brn w r i) : tr_Ub w' r d := by
  intro i j hi hj e h
  rw [hb i, hb j] at e
  rw [hb i, tr_stp_eq (hs _ _ (hR.br hi).1)] at h
  exact hU i j hi hj e h
/-- the leaf's part of a write: owned, then one place stored -/
theorem tr_leaf {cJ cL cB M d q r z lf pos : Nat} {v : Int64} {w w1 w2 : tr_W} {f : Nat → Int64} {l : List Value} (hW : tr_Wi w M) (hd : d ≤ M) (hq : w q = some (.inr (tr_kS, l))) (hR : tr_okR cJ cL cB w r) (hU : tr_Ub w r d) (hz : tr_okL cJ w z)
    (h1 : tr_Ow tr_kL d w w1 z lf) (hf : w1 (tr_arr w1 lf) = some (tr_V cJ f)) (h2 : w2 = va_up w1 (tr_arr w1 lf) (some (tr_V cJ (vp_updL f (pos % 32) v)))) :
    tr_Kp d q w w2 ∧ tr_Wi w2 M ∧ w2 q = some (.inr (tr_kS, l)) ∧ tr_okR cJ cL cB w2 r ∧ (∀ b, b < 1024 → tr_lfb w2 r b = tr_lfb w r b) ∧ tr_Ub w2 r d ∧ tr_okL cJ w2 lf ∧ tr_stp w2 lf = nI d ∧ (∀ k m, tr_isN w k m → m ≠ lf → tr_Same w w2 m) ∧
      (∀ j, tr_val w2 (tr_arr w2 lf) j = if j = pos % 32 then v else tr_val w (tr_arr w z) j) ∧ ((lf = z ∧ tr_stp w z = nI d) ∨ w lf = none) ∧ (∀ k m, tr_isN w k m → w2 m = w m) ∧ ∀ i, tr_brn w2 r i = tr_brn w r i := by
  obtain ⟨K1, W1, n1, s1, a1, m1, f1, x1⟩ := h1.out (q := q) hW hd hz.1
  have o2 : ∀ k m, tr_isN w1 k m → w2 m = w1 m := fun k m hm => by rw [h2]; exact tr_st_old hf hm
  have K2 : tr_Kp d q w1 w2 := by rw [h2]; exact tr_st_Kp hf ⟨_, _, n1, s1, rfl⟩
  have W2 : tr_Wi w2 M := by rw [h2]; exact tr_st_Wi W1 hf
  have m2 : ∀ k m, tr_isN w1 k m → m ≠ lf → tr_Same w1 w2 m := fun k m hm hne => by rw [h2]; exact tr_st_same hf hm (fun e => hne (W1.2.1 _ _ _ _ hm n1 e))
  have hcell : ∀ k m, tr_isN w k m → w2 m = w m := fun k m hm => (o2 k m (tr_isN_eq (m1 k m hm).1 hm)).trans (m1 k m hm).1
  have hsame : ∀ k m, tr_isN w k m → m ≠ lf → tr_Same w w2 m := fun k m hm hne => (m1 k m hm).tr (m2 k m (tr_isN_eq (m1 k m hm).1 hm) hne)
  have hnl : ∀ k m, k ≠ tr_kL → tr_isN w k m → m ≠ lf := fun k m hk hm => tr_kinds (tr_isN_eq (m1 k m hm).1 hm) n1 hk
  have a2 : tr_arr w2 lf = tr_arr w1 lf := tr_arr_eq (o2 _ _ n1)
  have hx2 : w2 (tr_arr w2 lf) = some (tr_V cJ (vp_updL f (pos % 32) v)) := by rw [a2, h2, tr_up_self]
  have okl : ∀ y, tr_okL cJ w y → tr_okL cJ w2 y := by
    intro y hy
    by_cases e : y = lf
    · subst e
      exact ⟨tr_isN_eq (hcell _ _ hy.1) hy.1, _, hx2⟩
    · exact tr_okL_same hy (hsame _ _ hy.1 e)
  have hsr := hsame _ _ hR.1 (hnl _ _ (by decide) hR.1)
  have hbr : ∀ i, tr_brn w2 r i = tr_brn w r i := fun i => hsr.chd i
  have hsy : ∀ i, i < 32 → tr_Same w w2 (tr_brn w r i) := fun i hi => hsame _ _ (hR.br hi).1 (hnl _ _ (by decide) (hR.br hi).1)
  refine ⟨K1.tr K2, W2, ?_, ⟨tr_isN_eq hsr.1 hR.1, tr_okA_same hR.2.1 hsr, fun i hi => ?_⟩, fun b hb => ?_, tr_Ub_all hR hU hcell hbr, ⟨tr_isN_eq (o2 _ _ n1) n1, _, hx2⟩, ?_, hsame, fun j => ?_, f1, hcell, hbr⟩
  · rw [h2, tr_up_ne (Ne.symm (tr_ne_kind hf (x1 _ _ hq)))]
    exact x1 _ _ hq
  · rw [hsr.chd i]
    show tr_okB cJ cL w2 (tr_brn w r i)
    have hy := hR.br hi
    exact ⟨tr_isN_eq (hsy i hi).1 hy.1, tr_okA_same hy.2.1 (hsy i hi), fun j hj => by rw [(hsy i hi).chd j]; exact okl _ (hy.2.2 j hj)⟩
  · unfold tr_lfb
    rw [hbr]
    exact (hsy _ (by omega)).chd _
  · rw [tr_stp_eq (o2 _ _ n1)]; exact s1
  · rw [tr_val_of hx2 j]
    by_cases e : j = pos % 32
    · rw [if_pos e, e]; exact pk_uLs
    · rw [if_neg e, pk_uLn e]
      have e2 : w (tr_arr w z) = some (tr_V cJ f) := by rw [← a1]; exact hf
      exact (tr_val_of e2 j).symm
theorem tr_write_vl {cJ cL cB : Nat} {w w2 w' : tr_W} {r t T r' t' lf pos d : Nat} {v : Int64} (hR : tr_okR cJ cL cB w r) (ht : tr_okL cJ w t) (hl : tr_Ul w r d) (hut : tr_Ut w r t d T) (hpos : pos < 32768)
    (hsame : ∀ k m, tr_isN w k m → m ≠ lf → tr_Same w w2 m) (hval : ∀ j, tr_val w2 (tr_arr w2 lf) j = if j = pos % 32 then v else tr_val w (tr_arr w (tr_blk w r t T (pos / 32))) j) (hf : (lf = tr_blk w r t T (pos / 32) ∧ tr_stp w (tr_blk w r t T (pos / 32)) = nI d) ∨ w lf = none)
    (hcell : ∀ k m, tr_isN w k m → w2 m = w m) (hlf : tr_isN w2 tr_kL lf) (hs2 : ∀ z, tr_isN w2 tr_kL z → tr_Same w2 w' z) (hblk : ∀ b, b < 1024 → tr_blk w' r' t' T b = if b = pos / 32 then lf else tr_blk w r t T b) :
    ∀ p, p < 32768 → tr_vl w' r' t' T p = if p = pos then v else tr_vl w r t T p := by
  intro p hp
  have hb : p / 32 < 1024 := by omega
  unfold tr_vl
  rw [hblk _ hb]
  by_cases e : p / 32 = pos / 32
  · rw [if_pos e, (hs2 _ hlf).val, hval]
    by_cases e2 : p % 32 = pos % 32
    · rw [if_pos e2, if_pos (show p = pos by omega)]
    · rw [if_neg e2, if_neg (show p ≠ pos by omega), e]
  · rw [if_neg e, if_neg (show p ≠ pos by omega)]
    have hz := tr_blk_ok (T := T) hR ht hb
    have hne : tr_blk w r t T (p / 32) ≠ lf := by
      intro h
      rcases hf with ⟨h1, h2⟩ | h1
      · exact e (tr_uniq hl hut hb (by omega) (h.trans h1) (by rw [h, h1]; exact h2))
      · obtain ⟨-, s, x, hx⟩ := hz.1
        rw [h, h1] at hx
        cases hx
    have h1 := hsame _ _ hz.1 hne
    rw [(hs2 _ (tr_isN_eq h1.1 hz.1)).val, h1.val]
/-- a write into the tail's block -/
theorem tr_writeT {Z : Int32 → Prop} {cJ cL cB M d q r t o n lf pos : Nat} {v : Int64} {w w1 w2 w3 : tr_W} {f : Nat → Int64} (hD : tr_Df cJ cL cB M d Z w q r t o n) (hpos : pos < 32768) (hT : pos / 32 = tr_tb o n)
    (h1 : tr_Ow tr_kL d w w1 t lf) (hf : w1 (tr_arr w1 lf) = some (tr_V cJ f)) (h2 : w2 = va_up w1 (tr_arr w1 lf) (some (tr_V cJ (vp_updL f (pos % 32) v)))) (h3 : w3 = va_up w2 q (some (tr_S (nI d) r lf (nI o) (nI n)))) :
    tr_Df cJ cL cB M d Z w3 q r lf o n ∧ tr_Kp d q w w3 ∧ ∀ p, p < 32768 → tr_vl w3 r lf (tr_tb o n) p = if p = pos then v else tr_vl w r t (tr_tb o n) p := by
  obtain ⟨hW, hd, hq, ho, hn, hR, ht, hU, hl, hut, hz, hav⟩ := hD
  obtain ⟨K2, W2, q2, R2, l2, U2, L2, s2, sm2, v2, f2, c2, b2⟩ := tr_leaf (pos := pos) (v := v) hW hd hq hR hU ht h1 hf h2
  have sm3 : ∀ k m, tr_isN w2 k m → tr_Same w2 w3 m := fun k m hm => by rw [h3]; exact tr_sq_same W2 q2 hm
  have K3 : tr_Kp d q w2 w3 := by rw [h3]; exact tr_sq_Kp q2
  have W3 : tr_Wi w3 M := by rw [h3]; exact tr_sq_Wi W2 q2
  obtain ⟨R3, b3, l3⟩ := tr_okR_all R2 sm3
  have lfb3 : ∀ b, b < 1024 → tr_lfb w3 r b = tr_lfb w r b := fun b hb => (l3 b hb).trans (l2 b hb)
  have hTl : tr_tb o n < 1024 := tr_tb_lt o n
  have eb : tr_blk w r t (tr_tb o n) (pos / 32) = t := by unfold tr_blk; rw [if_pos hT]
  have stl : ∀ b, b < 1024 → tr_stp w3 (tr_lfb w r b) = tr_stp w (tr_lfb w r b) := fun b hb => by
    have h := (hR.lf hb).1
    have e2 := c2 _ _ h
    rw [(sm3 _ _ (tr_isN_eq e2 h)).stp, tr_stp_eq e2]
  refine ⟨⟨W3, hd, by rw [h3, tr_up_self], ho, hn, R3, tr_okL_same L2 (sm3 _ _ L2.1), tr_Ub_all R2 U2 (fun k m hm => (sm3 k m hm).1) b3, fun a b ha hb e hs => ?_, fun a ha e hs => ?_, hz, ?_, fun i hi => ?_, fun b hb => by rw [lfb3 b hb, stl b hb]; exact hav.2.2.1 b hb, by rw [(sm3 _ _ L2.1).stp, s2]; exact hz⟩, K2.tr K3, ?_⟩
  · rw [lfb3 a ha, lfb3 b hb] at e
    rw [lfb3 a ha, stl a ha] at hs
    exact hl a b ha hb e hs
  · rw [lfb3 a ha] at e
    rcases f2 with ⟨e1, e2⟩ | e1
    · exact hut a ha (e.trans e1) e2
    · obtain ⟨-, s, x, hx⟩ := (hR.lf ha).1
      rw [e, e1] at hx
      cases hx
  · rw [(sm3 _ _ R2.1).stp, tr_stp_eq (c2 _ _ hR.1)]; exact hav.1
  · have hN := (hR.br hi).1
    rw [b3, b2, (sm3 _ _ (tr_isN_eq (c2 _ _ hN) hN)).stp, tr_stp_eq (c2 _ _ hN)]; exact hav.2.1 i hi
  · refine tr_write_vl hR ht hl hut hpos sm2 (by rw [eb]; exact v2) (by rw [eb]; exact f2) c2 L2.1 (fun z hz => sm3 _ _ hz) (fun b hb => ?_)
    unfold tr_blk
    rw [← hT]
    by_cases e : b = pos / 32
    · rw [if_pos e, if_pos e]
    · rw [if_neg e, if_neg e, if_neg e]; exact lfb3 b hb
/-- a write elsewhere: the leaf is hung -/
theorem tr_writeH {Z : Int32 → Prop} {cJ cL cB M d q r r1 t o n lf pos : Nat} {v : Int64} {w w1 w2 w3 : tr_W} {f : Nat → Int64} (hD : tr_Df cJ cL cB M d Z w q r t o n) (hpos : pos < 32768) (hT : pos / 32 ≠ tr_tb o n)
    (h1 : tr_Ow tr_kL d w w1 (tr_lfb w r (pos / 32)) lf) (hf : w1 (tr_arr w1 lf) = some (tr_V cJ f)) (h2 : w2 = va_up w1 (tr_arr w1 lf) (some (tr_V cJ (vp_updL f (pos % 32) v)))) (h3 : tr_Hg cJ cL cB M d q r t (pos / 32) lf (nI o) (nI n) w2 w3 r1) :
    tr_Df cJ cL cB M d Z w3 q r1 t o n ∧ tr_Kp d q w w3 ∧ ∀ p, p < 32768 → tr_vl w3 r1 t (tr_tb o n) p = if p = pos then v else tr_vl w r t (tr_tb o n) p := by
  obtain ⟨hW, hd, hq, ho, hn, hR, ht, hU, hl, hut, hz, hav⟩ := hD
  have hb0 : pos / 32 < 1024 := by omega
  obtain ⟨K2, W2, q2, R2, l2, U2, L2, s2, sm2, v2, f2, c2, b2⟩ := tr_leaf (pos := pos) (v := v) hW hd hq hR hU (hR.lf hb0) h1 hf h2
  obtain ⟨q3, R3, U3, l3, W3, K3, sm3, rs3, bs3⟩ := h3
  have lfb3 : ∀ b, b < 1024 → tr_lfb w3 r1 b = if b = pos / 32 then lf else tr_lfb w r b := fun b hb => by rw [l3 b hb, l2 b hb]
  have eb : tr_blk w r t (tr_tb o n) (pos / 32) = tr_lfb w r (pos / 32) := by unfold tr_blk; rw [if_neg hT]
  have stz : ∀ z, tr_isN w tr_kL z → tr_stp w3 z = tr_stp w z := fun z h => by
    have e2 := c2 _ _ h
    rw [(sm3 _ (tr_isN_eq e2 h)).stp, tr_stp_eq e2]
  -- lf is at one block only
  have one : ∀ b, b < 1024 → b ≠ pos / 32 → tr_lfb w r b ≠ lf := by
    intro b hb hne h
    rcases f2 with ⟨e1, e2⟩ | e1
    · exact hne (hl b (pos / 32) hb hb0 (h.trans e1) (by rw [h, e1]; exact e2))
    · obtain ⟨-, s, x, hx⟩ := (hR.lf hb).1
      rw [h, e1] at hx
      cases hx
  have nt : t ≠ lf ∨ tr_stp w t ≠ nI d := by
    by_cases h : t = lf
    · refine Or.inr (fun hs => ?_)
      rcases f2 with ⟨e1, e2⟩ | e1
      · exact hT (hut (pos / 32) hb0 (e1.symm.trans h.symm) hs)
      · obtain ⟨-, s, x, hx⟩ := ht.1
        rw [h, e1] at hx
        cases hx
    · exact Or.inl h
  refine ⟨⟨W3, hd, q3, ho, hn, R3, ?_, U3, fun a b ha hb e hs => ?_, fun a ha e hs => ?_, hz, by rw [rs3]; exact hz, fun i hi => ?_, fun b hb => ?_, by rw [stz _ ht.1]; exact hav.2.2.2⟩, K2.tr K3, ?_⟩
  · have h := tr_isN_eq (c2 _ _ ht.1) ht.1
    by_cases e : t = lf
    · rw [e]; exact tr_okL_same L2 (sm3 _ L2.1)
    · exact tr_okL_same (tr_okL_same ht (sm2 _ _ ht.1 e)) (sm3 _ h)
  · rw [lfb3 a ha, lfb3 b hb] at e
    rw [lfb3 a ha] at hs
    by_cases ea : a = pos / 32
    · by_cases eb : b = pos / 32
      · rw [ea, eb]
      · rw [if_pos ea, if_neg eb] at e
        exact absurd e.symm (one b hb eb)
    · by_cases eb : b = pos / 32
      · rw [if_neg ea, if_pos eb] at e
        exact absurd e (one a ha ea)
      · rw [if_neg ea, if_neg eb] at e
        rw [if_neg ea, stz _ (hR.lf ha).1] at hs
        exact hl a b ha hb e hs
  · rw [lfb3 a ha] at e
    rw [stz _ ht.1] at hs
    by_cases ea : a = pos / 32
    · rw [if_pos ea] at e
      rcases nt with h | h
      · exact absurd e.symm h
      · exact absurd hs h
    · rw [if_neg ea] at e
      exact hut a ha e hs
  · rcases bs3 i hi with h | h
    · rw [h]; exact hz
    · rw [h, b2, tr_stp_eq (c2 _ _ (hR.br hi).1)]; exact hav.2.1 i hi
  · rw [lfb3 b hb]
    by_cases e : b = pos / 32
    · rw [if_pos e, (sm3 _ L2.1).stp, s2]; exact hz
    · rw [if_neg e, stz _ (hR.lf hb).1]; exact hav.2.2.1 b hb
  · refine tr_write_vl hR ht hl hut hpos sm2 (by rw [eb]; exact v2) (by rw [eb]; exact f2) c2 L2.1 sm3 (fun b hb => ?_)
    unfold tr_blk
    by_cases e : b = tr_tb o n
    · rw [if_pos e, if_pos e, if_neg (show b ≠ pos / 32 by rw [e]; exact Ne.symm hT)]
    · rw [if_neg e, if_neg e]; exact lfb3 b hb
/-- the sequence's numbers change, its tail's block doesn't -/
theorem tr_Df_seq {Z : Int32 → Prop} {cJ cL cB M d q r t o n o' n' : Nat} {w w' : tr_W} (hD : tr_Df cJ cL cB M d Z w q r t o n) (ho' : o' < 32768) (hn' : n' ≤ 3000) (hT : tr_tb o' n' = tr_tb o n) (h : w' = va_up w q (some (tr_S (nI d) r t (nI o') (nI n')))) :
    tr_Df cJ cL cB M d Z w' q r t o' n' ∧ tr_Kp d q w w' ∧ ∀ p, p < 32768 → tr_vl w' r t (tr_tb o' n') p = tr_vl w r t (tr_tb o n) p := by
  obtain ⟨hW, hd, hq, ho, hn, hR, ht, hU, hl, hut, hz, hav⟩ := hD
  have sm : ∀ k m, tr_isN w k m → tr_Same w w' m := fun k m hm => by rw [h]; exact tr_sq_same hW hq hm
  obtain ⟨R3, b3, l3⟩ := tr_okR_all hR sm
  refine ⟨⟨by rw [h]; exact tr_sq_Wi hW hq, hd, by rw [h, tr_up_self], ho', hn', R3, tr_okL_same ht (sm _ _ ht.1), tr_Ub_all hR hU (fun k m hm => (sm k m hm).1) b3, fun a b ha hb e hs => ?_, fun a ha e hs => ?_, hz, by rw [(sm _ _ hR.1).stp]; exact hav.1, fun i hi => by rw [b3, (sm _ _ (hR.br hi).1).stp]; exact hav.2.1 i hi, fun b hb => by rw [l3 b hb, (sm _ _ (hR.lf hb).1).stp]; exact hav.2.2.1 b hb, by rw [(sm _ _ ht.1).stp]; exact hav.2.2.2⟩, by rw [h]; exact tr_sq_Kp hq, fun p hp => ?_⟩
  · rw [l3 a ha, l3 b hb] at e
    rw [l3 a ha, (sm _ _ (hR.lf ha).1).stp] at hs
    exact hl a b ha hb e hs
  · rw [l3 a ha] at e
    rw [(sm _ _ ht.1).stp] at hs
    rw [hT]
    exact hut a ha e hs
  · have hb : p / 32 < 1024 := by omega
    unfold tr_vl
    have e : tr_blk w' r t (tr_tb o' n') (p / 32) = tr_blk w r t (tr_tb o n) (p / 32) := by
      unfold tr_blk
      rw [hT, l3 _ hb]
    rw [e]
    exact (sm _ _ (tr_blk_ok hR ht hb).1).val _
/-- the tail gives way: its leaf is hung, the next block's leaf becomes the tail -/
theorem tr_next {Z : Int32 → Prop} {cJ cL cB M d q r r1 t o n : Nat} {w w0 w1 w2 : tr_W} (hD : tr_Df cJ cL cB M d Z w q r t o n) (hn1 : n < 3000) (hne : tr_tb o (n + 1) ≠ tr_tb o n) (h0 : w0 = va_up w q (some (tr_S (nI d) r t (nI o) (nI (n + 1)))))
    (h1 : tr_Hg cJ cL cB M d q r t (tr_tb o n) t (nI o) (nI (n + 1)) w0 w1 r1) (h2 : w2 = va_up w1 q (some (tr_S (nI d) r1 (tr_lfb w1 r1 (tr_tb o (n + 1))) (nI o) (nI (n + 1))))) :
    tr_Df cJ cL cB M d Z w2 q r1 (tr_lfb w1 r1 (tr_tb o (n + 1))) o (n + 1) ∧ tr_Kp d q w w2 ∧ ∀ p, p < 32768 → tr_vl w2 r1 (tr_lfb w1 r1 (tr_tb o (n + 1))) (tr_tb o (n + 1)) p = tr_vl w r t (tr_tb o n) p := by
  obtain ⟨hW, hd, hq, ho, hn, hR, ht, hU, hl, hut, hz, hav⟩ := hD
  have sm0 : ∀ k m, tr_isN w k m → tr_Same w w0 m := fun k m hm => by rw [h0]; exact tr_sq_same hW hq hm
  obtain ⟨R0, b0, l0⟩ := tr_okR_all hR sm0
  obtain ⟨q1, R1, U1, l1, W1, K1, sm1, rs1, bs1⟩ := h1
  have sm2 : ∀ k m, tr_isN w1 k m → tr_Same w1 w2 m := fun k m hm => by rw [h2]; exact tr_sq_same W1 q1 hm
  obtain ⟨R2, b2, l2⟩ := tr_okR_all R1 sm2
  have hB : tr_tb o (n + 1) < 1024 := tr_tb_lt _ _
  have hB0 : tr_tb o n < 1024 := tr_tb_lt _ _
  have lfb1 : ∀ b, b < 1024 → tr_lfb w1 r1 b = if b = tr_tb o n then t else tr_lfb w r b := fun b hb => by rw [l1 b hb, l0 b hb]
  have lfb2 : ∀ b, b < 1024 → tr_lfb w2 r1 b = if b = tr_tb o n then t else tr_lfb w r b := fun b hb => by rw [l2 b hb, lfb1 b hb]
  have lsm : ∀ z, tr_isN w tr_kL z → tr_Same w w2 z := fun z hz => by
    have e0 := sm0 _ _ hz
    have z0 := tr_isN_eq e0.1 hz
    have e1 := sm1 _ z0
    have z1 := tr_isN_eq e1.1 z0
    exact (e0.tr e1).tr (sm2 _ _ z1)
  have hUl : tr_Ul w2 r1 d := by
    intro a b ha hb e hs
    rw [lfb2 a ha, lfb2 b hb] at e
    rw [lfb2 a ha] at hs
    by_cases ea : a = tr_tb o n
    · by_cases eb : b = tr_tb o n
      · rw [ea, eb]
      · rw [if_pos ea, if_neg eb] at e
        rw [if_pos ea, (lsm _ ht.1).stp] at hs
        exact absurd (hut b hb e.symm hs) eb
    · by_cases eb : b = tr_tb o n
      · rw [if_neg ea, if_pos eb] at e
        rw [if_neg ea, e, (lsm _ ht.1).stp] at hs
        exact absurd (hut a ha e hs) ea
      · rw [if_neg ea, if_neg eb] at e
        rw [if_neg ea, (lsm _ (hR.lf ha).1).stp] at hs
        exact hl a b ha hb e hs
  have hlv : ∀ b, b < 1024 → Z (tr_stp w2 (tr_lfb w2 r1 b)) := by
    intro b hb
    rw [lfb2 b hb]
    by_cases e : b = tr_tb o n
    · rw [if_pos e, (lsm _ ht.1).stp]; exact hav.2.2.2
    · rw [if_neg e, (lsm _ (hR.lf hb).1).stp]; exact hav.2.2.1 b hb
  have eT : tr_lfb w2 r1 (tr_tb o (n + 1)) = tr_lfb w1 r1 (tr_tb o (n + 1)) := l2 _ hB
  refine ⟨⟨by rw [h2]; exact tr_sq_Wi W1 q1, hd, by rw [h2, tr_up_self], ho, hn1, R2, by rw [← eT]; exact R2.lf hB, tr_Ub_all R1 U1 (fun k m hm => (sm2 k m hm).1) b2, hUl, fun a ha e hs => ?_, hz, by rw [(sm2 _ _ R1.1).stp, rs1]; exact hz, fun i hi => ?_, hlv, by rw [← eT]; exact hlv _ hB⟩, ?_, fun p hp => ?_⟩
  · rw [← eT] at e hs
    exact hUl a _ ha hB e (by rw [e]; exact hs)
  · rw [b2, (sm2 _ _ (R1.br hi).1).stp]
    rcases bs1 i hi with h | h
    · rw [h]; exact hz
    · rw [h, b0, (sm0 _ _ (hR.br hi).1).stp]; exact hav.2.1 i hi
  · have K0 : tr_Kp d q w w0 := by rw [h0]; exact tr_sq_Kp hq
    have K2 : tr_Kp d q w1 w2 := by rw [h2]; exact tr_sq_Kp q1
    exact (K0.tr K1).tr K2
  · have hb : p / 32 < 1024 := by omega
    unfold tr_vl
    have e : tr_blk w2 r1 (tr_lfb w1 r1 (tr_tb o (n + 1))) (tr_tb o (n + 1)) (p / 32) = tr_blk w r t (tr_tb o n) (p / 32) := by
      unfold tr_blk
      by_cases e1 : p / 32 = tr_tb o (n + 1)
      · rw [if_pos e1, if_neg (show p / 32 ≠ tr_tb o n by rw [e1]; exact hne), lfb1 _ hB, if_neg hne, e1]
      · rw [if_neg e1]; exact lfb2 _ hb
    rw [e]
    exact (lsm _ (tr_blk_ok hR ht hb).1).val _
/-- the tail goes back to an earlier block -/
theorem tr_trim {Z : Int32 → Prop} {cJ cL cB M d q r t o n o' n' : Nat} {w w' : tr_W} (hD : tr_Df cJ cL cB M d Z w q r t o n) (ho' : o' < 32768) (hn' : n' ≤ 3000) (h : w' = va_up w q (some (tr_S (nI d) r (tr_lfb w r (tr_tb o' n')) (nI o') (nI n')))) :
    tr_Df cJ cL cB M d Z w' q r (tr_lfb w r (tr_tb o' n')) o' n' ∧ tr_Kp d q w w' ∧ ∀ p, p < 32768 → p / 32 ≠ tr_tb o n → tr_vl w' r (tr_lfb w r (tr_tb o' n')) (tr_tb o' n') p = tr_vl w r t (tr_tb o n) p := by
  obtain ⟨hW, hd, hq, ho, hn, hR, ht, hU, hl, hut, hz, hav⟩ := hD
  have sm : ∀ k m, tr_isN w k m → tr_Same w w' m := fun k m hm => by rw [h]; exact tr_sq_same hW hq hm
  obtain ⟨R3, b3, l3⟩ := tr_okR_all hR sm
  have hB : tr_tb o' n' < 1024 := tr_tb_lt _ _
  refine ⟨⟨by rw [h]; exact tr_sq_Wi hW hq, hd, by rw [h, tr_up_self], ho', hn', R3, tr_okL_same (hR.lf hB) (sm _ _ (hR.lf hB).1), tr_Ub_all hR hU (fun k m hm => (sm k m hm).1) b3, fun a b ha hb e hs => ?_, fun a ha e hs => ?_, hz, by rw [(sm _ _ hR.1).stp]; exact hav.1, fun i hi => by rw [b3, (sm _ _ (hR.br hi).1).stp]; exact hav.2.1 i hi, fun b hb => by rw [l3 b hb, (sm _ _ (hR.lf hb).1).stp]; exact hav.2.2.1 b hb, by rw [(sm _ _ (hR.lf hB).1).stp]; exact hav.2.2.1 _ hB⟩, by rw [h]; exact tr_sq_Kp hq, fun p hp hne => ?_⟩
  · rw [l3 a ha, l3 b hb] at e
    rw [l3 a ha, (sm _ _ (hR.lf ha).1).stp] at hs
    exact hl a b ha hb e hs
  · rw [l3 a ha] at e
    rw [(sm _ _ (hR.lf hB).1).stp] at hs
    exact hl a _ ha hB e (by rw [e]; exact hs)
  · have hb : p / 32 < 1024 := by omega
    unfold tr_vl
    have e : tr_blk w' r (tr_lfb w r (tr_tb o' n')) (tr_tb o' n') (p / 32) = tr_lfb w r (p / 32) := by
      unfold tr_blk
      by_cases e1 : p / 32 = tr_tb o' n'
      · rw [if_pos e1, e1]
      · rw [if_neg e1]; exact l3 _ hb
    have e2 : tr_blk w r t (tr_tb o n) (p / 32) = tr_lfb w r (p / 32) := by unfold tr_blk; rw [if_neg hne]
    rw [e, e2]
    exact (sm _ _ (hR.lf hb).1).val _
