/-! The shelf in pure words: its slots, its builder, what a call leaves. -/
def tr_So (cJ cL cB : Nat) (Z : Int32 → Prop) (w : tr_W) (q : Nat) (s : Int32) (r t o n : Nat) (f : Nat → Int64) : Prop :=
  w q = some (tr_S s r t (nI o) (nI n)) ∧ o < 32768 ∧ n ≤ 3000 ∧ tr_okR cJ cL cB w r ∧ tr_okL cJ w t ∧ tr_Av w r t Z ∧ ∀ i, i < n → tr_vl w r t (tr_tb o n) ((o + i) % 32768) = f i
def tr_Sq (cJ cL cB : Nat) (Z : Int32 → Prop) (w : tr_W) (q n : Nat) (f : Nat → Int64) : Prop := ∃ s r t o, tr_So cJ cL cB Z w q s r t o n f
/-- no node's array -/
def tr_Fre (w : tr_W) (a : Nat) : Prop := ∀ k n, tr_isN w k n → tr_arr w n ≠ a
theorem tr_vl_same {cJ cL cB : Nat} {w w' : tr_W} {r t T p : Nat} (hR : tr_okR cJ cL cB w r) (hp : p < 32768) (hl : ∀ b, b < 1024 → tr_lfb w' r b = tr_lfb w r b) (sz : ∀ b, b < 1024 → tr_Same w w' (tr_lfb w r b)) (st : tr_Same w w' t) : tr_vl w' r t T p = tr_vl w r t T p := by
  have hb : p / 32 < 1024 := by omega
  unfold tr_vl tr_blk
  by_cases e : p / 32 = T
  · rw [if_pos e, if_pos e]; exact st.val _
  · rw [if_neg e, if_neg e, hl _ hb]; exact (sz _ hb).val _
theorem tr_So_same {cJ cL cB : Nat} {Z : Int32 → Prop} {w w' : tr_W} {q r t o n : Nat} {s : Int32} {f : Nat → Int64} (h : tr_So cJ cL cB Z w q s r t o n f) (hq : w' q = w q) (hs : ∀ k m, tr_isN w k m → Z (tr_stp w m) → tr_Same w w' m) : tr_So cJ cL cB Z w' q s r t o n f := by
  obtain ⟨hq0, ho, hn, hR, ht, hA, hv⟩ := h
  have sr := hs _ _ hR.1 hA.1
  have sy : ∀ i, i < 32 → tr_Same w w' (tr_brn w r i) := fun i hi => hs _ _ (hR.br hi).1 (hA.2.1 i hi)
  have sz : ∀ b, b < 1024 → tr_Same w w' (tr_lfb w r b) := fun b hb => hs _ _ (hR.lf hb).1 (hA.2.2.1 b hb)
  have st := hs _ _ ht.1 hA.2.2.2
  obtain ⟨R', b', l'⟩ := tr_okR_same hR sr sy sz
  refine ⟨hq.trans hq0, ho, hn, R', tr_okL_same ht st, ⟨by rw [sr.stp]; exact hA.1, fun i hi => by rw [b' i, (sy i hi).stp]; exact hA.2.1 i hi, fun b hb => by rw [l' b hb, (sz b hb).stp]; exact hA.2.2.1 b hb, by rw [st.stp]; exact hA.2.2.2⟩, fun i hi => ?_⟩
  rw [← hv i hi]
  exact tr_vl_same hR (by omega) l' sz st
theorem tr_So_Z {cJ cL cB : Nat} {Z Z' : Int32 → Prop} {w : tr_W} {q r t o n : Nat} {s : Int32} {f : Nat → Int64} (h : tr_So cJ cL cB Z w q s r t o n f) (hz : ∀ k m, tr_isN w k m → Z (tr_stp w m) → Z' (tr_stp w m)) : tr_So cJ cL cB Z' w q s r t o n f := by
  obtain ⟨hq0, ho, hn, hR, ht, hA, hv⟩ := h
  exact ⟨hq0, ho, hn, hR, ht, ⟨hz _ _ hR.1 hA.1, fun i hi => hz _ _ (hR.br hi).1 (hA.2.1 i hi), fun b hb => hz _ _ (hR.lf hb).1 (hA.2.2.1 b hb), hz _ _ ht.1 hA.2.2.2⟩, hv⟩
theorem tr_Df.so {cJ cL cB M d : Nat} {Z Z' : Int32 → Prop} {w : tr_W} {q r t o n : Nat} {f : Nat → Int64} (h : tr_Df cJ cL cB M d Z w q r t o n) (hz : ∀ s, Z s → Z' s) (hv : ∀ i, i < n → tr_vl w r t (tr_tb o n) ((o + i) % 32768) = f i) : tr_So cJ cL cB Z' w q (nI d) r t o n f := by
  obtain ⟨hW, hd, hq, ho, hn, hR, ht, hU, hl, hut, -, hA⟩ := h
  exact ⟨hq, ho, hn, hR, ht, ⟨hz _ hA.1, fun i hi => hz _ (hA.2.1 i hi), fun b hb => hz _ (hA.2.2.1 b hb), hz _ hA.2.2.2⟩, hv⟩
theorem tr_Wi.mono {w : tr_W} {M M' : Nat} (h : tr_Wi w M) (hM : M ≤ M') : tr_Wi w M' := ⟨h.1, h.2.1, fun k n hn => by obtain ⟨m, hm, e⟩ := h.2.2 k n hn; exact ⟨m, Nat.le_trans hm hM, e⟩⟩
theorem tr_Wi_all {w w' : tr_W} {M : Nat} (hW : tr_Wi w M) (hs : ∀ k m, tr_isN w k m → tr_Same w w' m) (hb : ∀ k m, tr_isN w' k m → tr_isN w k m) : tr_Wi w' M := by
  refine ⟨fun k n hn => ?_, fun k n k' n' hn hn' e => ?_, fun k n hn => ?_⟩
  · have h := hs _ _ (hb _ _ hn)
    obtain ⟨e, he⟩ := hW.1 _ _ (hb _ _ hn)
    exact ⟨e, by rw [h.arr, h.2]; exact he⟩
  · rw [(hs _ _ (hb _ _ hn)).arr, (hs _ _ (hb _ _ hn')).arr] at e
    exact hW.2.1 _ _ _ _ (hb _ _ hn) (hb _ _ hn') e
  · rw [(hs _ _ (hb _ _ hn)).stp]
    exact hW.2.2 _ _ (hb _ _ hn)
theorem tr_Df_all {cJ cL cB M M' d : Nat} {Z : Int32 → Prop} {w w' : tr_W} {q r t o n : Nat} (hD : tr_Df cJ cL cB M d Z w q r t o n) (hW' : tr_Wi w' M') (hM : M ≤ M') (hq' : w' q = w q) (sm : ∀ k m, tr_isN w k m → tr_Same w w' m) : tr_Df cJ cL cB M' d Z w' q r t o n ∧ ∀ x, x < 32768 → tr_vl w' r t (tr_tb o n) x = tr_vl w r t (tr_tb o n) x := by
  obtain ⟨hW, hd, hq, ho, hn, hR, ht, hU, hl, hut, hz, hav⟩ := hD
  obtain ⟨R3, b3, l3⟩ := tr_okR_all hR sm
  refine ⟨⟨hW', Nat.le_trans hd hM, hq'.trans hq, ho, hn, R3, tr_okL_same ht (sm _ _ ht.1), tr_Ub_all hR hU (fun k m hm => (sm k m hm).1) b3, fun a b ha hb e hs => ?_, fun a ha e hs => ?_, hz, by rw [(sm _ _ hR.1).stp]; exact hav.1, fun i hi => by rw [b3, (sm _ _ (hR.br hi).1).stp]; exact hav.2.1 i hi, fun b hb => by rw [l3 b hb, (sm _ _ (hR.lf hb).1).stp]; exact hav.2.2.1 b hb, by rw [(sm _ _ ht.1).stp]; exact hav.2.2.2⟩, fun p hp => tr_vl_same hR hp l3 (fun b hb => sm _ _ (hR.lf hb).1) (sm _ _ ht.1)⟩
  · rw [l3 a ha, l3 b hb] at e
    rw [l3 a ha, (sm _ _ (hR.lf ha).1).stp] at hs
    exact hl a b ha hb e hs
  · rw [l3 a ha] at e
    rw [(sm _ _ ht.1).stp] at hs
    exact hut a ha e hs
theorem tr_isN_ne {w : tr_W} {k n a c : Nat} {l : List Value} (hn : tr_isN w k n) (ha : w a = some (.inr (c, l))) (hc : 3 ≤ c) : n ≠ a := by
  intro h
  obtain ⟨hk, s, x, hx⟩ := hn
  rw [h, ha] at hx
  injection hx with hx
  injection hx with hx
  injection hx with h1 h2
  rcases hk with hk | hk | hk <;> (rw [← h1] at hk; subst hk; exact absurd hc (by decide))
/-- h's cell is written, a draft is made -/
theorem sh_new {w w' : tr_W} {h qn L : Nat} {fs fs' l : List Value} (hW : tr_Wi w L) (hh : w h = some (.inr (4, fs))) (hn : w qn = none) (e : w' = va_up (va_up w h (some (.inr (4, fs')))) qn (some (.inr (tr_kS, l)))) :
    (∀ a e, w a = some e → a ≠ h → w' a = some e) ∧ (∀ k m, tr_isN w k m → tr_Same w w' m) ∧ (∀ k m, tr_isN w' k m → tr_isN w k m) ∧ tr_Wi w' L := by
  have hne : h ≠ qn := xw_nn hh hn
  have h1 : ∀ a e, w a = some e → a ≠ h → w' a = some e := fun a e' ha hne' => by rw [e, va_up_ne _ _ (xw_nn ha hn), va_up_ne _ _ hne']; exact ha
  have h2 : ∀ k m, tr_isN w k m → tr_Same w w' m := fun k m hm => by
    obtain ⟨e1, he1⟩ := hW.1 k m hm
    obtain ⟨s, x, hx⟩ := hm.2
    exact ⟨by rw [hx]; exact h1 _ _ hx (tr_isN_ne hm hh (by decide)), by rw [he1]; exact h1 _ _ he1 (tr_ne_kind he1 hh)⟩
  have h3 : ∀ k m, tr_isN w' k m → tr_isN w k m := fun k m hm => by
    have hq : w' qn = some (.inr (tr_kS, l)) := by rw [e]; exact va_up_self _ _ _
    have hh' : w' h = some (.inr (4, fs')) := by rw [e, va_up_ne _ _ hne]; exact va_up_self _ _ _
    have e1 : w' m = w m := by rw [e, va_up_ne _ _ (tr_isN_ne hm hq (by decide)), va_up_ne _ _ (tr_isN_ne hm hh' (by decide))]
    exact tr_isN_eq e1.symm hm
  exact ⟨h1, h2, h3, tr_Wi_all hW h2 h3⟩
/-- h's cell alone is written -/
theorem sh_put4 {w w' : tr_W} {h L : Nat} {fs fs' : List Value} (hW : tr_Wi w L) (hh : w h = some (.inr (4, fs))) (e : w' = va_up w h (some (.inr (4, fs')))) :
    (∀ a, a ≠ h → w' a = w a) ∧ (∀ k m, tr_isN w k m → tr_Same w w' m) ∧ (∀ k m, tr_isN w' k m → tr_isN w k m) ∧ tr_Wi w' L := by
  have h1 : ∀ a, a ≠ h → w' a = w a := fun a ha => by rw [e, va_up_ne _ _ ha]
  have h2 : ∀ k m, tr_isN w k m → tr_Same w w' m := fun k m hm => by
    obtain ⟨e1, he1⟩ := hW.1 k m hm
    exact ⟨h1 _ (tr_isN_ne hm hh (by decide)), h1 _ (tr_ne_kind he1 hh)⟩
  have h3 : ∀ k m, tr_isN w' k m → tr_isN w k m := fun k m hm => by
    have hh' : w' h = some (.inr (4, fs')) := by rw [e]; exact va_up_self _ _ _
    exact tr_isN_eq (h1 _ (tr_isN_ne hm hh' (by decide))).symm hm
  exact ⟨h1, h2, h3, tr_Wi_all hW h2 h3⟩
/-- a free array is written -/
theorem sh_putA {w w' : tr_W} {a L : Nat} {e0 e1 : ClassId × vp_A} (hW : tr_Wi w L) (ha : w a = some (.inl e0)) (hf : tr_Fre w a) (e : w' = va_up w a (some (.inl e1))) :
    (∀ x, x ≠ a → w' x = w x) ∧ (∀ k m, tr_isN w k m → tr_Same w w' m) ∧ (∀ k m, tr_isN w' k m → tr_isN w k m) ∧ tr_Wi w' L := by
  have h1 : ∀ x, x ≠ a → w' x = w x := fun x hx => by rw [e, va_up_ne _ _ hx]
  have h2 : ∀ k m, tr_isN w k m → tr_Same w w' m := fun k m hm => by rw [e]; exact tr_st_same ha hm (hf k m hm)
  have h3 : ∀ k m, tr_isN w' k m → tr_isN w k m := fun k m hm => by rw [e] at hm; exact (tr_st_node hm).2.1
  exact ⟨h1, h2, h3, tr_Wi_all hW h2 h3⟩
theorem tr_Fre_all {w w' : tr_W} {a : Nat} (h : tr_Fre w a) (hs : ∀ k m, tr_isN w k m → tr_Same w w' m) (hb : ∀ k m, tr_isN w' k m → tr_isN w k m) : tr_Fre w' a := fun k n hn => by rw [(hs _ _ (hb _ _ hn)).arr]; exact h k n (hb _ _ hn)
theorem tr_Fre_Kp {d q a : Nat} {w w' : tr_W} (h : tr_Fre w a) (ha : w a ≠ none) (hK : tr_Kp d q w w') : tr_Fre w' a := fun k n hn => by
  rcases hK.2.1 k n hn with e | ⟨-, e⟩
  · rw [tr_arr_eq e]; exact h k n (tr_isN_eq e.symm hn)
  · intro z
    rw [z] at e
    exact ha e
def sh_Z (bd : Option (Nat × Nat)) (s : Int32) : Prop := ∀ q d, bd = some (q, d) → s ≠ nI d
/-- the shelf at h: op the builder is there, sz and vs the sizes and values (16: the builder's) -/
def sh_I (G : g_G) (w : xw_W) (h e0 sl : Nat) (op : Bool) (sz : Nat → Nat) (vs : Nat → Nat → Int64) (L : Nat) (bd : Option (Nat × Nat)) (g : Nat → Option Nat) : Prop :=
  w h = some (.inr (4, [.ref e0, .ref sl, va_rf (bd.map (·.1)), .int (nI L)])) ∧ w sl = some (.inl (G.2.1 3, 16, .inr (.inr (.inr (.inr g))))) ∧ tr_Wi w L ∧ tr_Fre w sl ∧ bd.isSome = op ∧
  (∀ k, k < 16 → ∃ q, g k = some q ∧ (∀ d, bd ≠ some (q, d)) ∧ tr_Sq (G.2.1 0) (G.2.1 1) (G.2.1 2) (sh_Z bd) w q (sz k) (vs k)) ∧
  ((∀ d, bd ≠ some (e0, d)) ∧ ∃ s r t, tr_So (G.2.1 0) (G.2.1 1) (G.2.1 2) (sh_Z bd) w e0 s r t 0 0 (fun _ => 0)) ∧
  ∀ q d, bd = some (q, d) → ∃ r t o, tr_Df (G.2.1 0) (G.2.1 1) (G.2.1 2) L d (fun _ => True) w q r t o (sz 16) ∧ ∀ i, i < sz 16 → tr_vl w r t (tr_tb o (sz 16)) ((o + i) % 32768) = vs 16 i
def sh_O (w : xw_W) (h sl a : Nat) : Prop := (∃ e, w a = some e ∧ ∀ l, e ≠ .inr (tr_kS, l)) ∧ a ≠ h ∧ a ≠ sl ∧ tr_Fre w a
def sh_F (h sl : Nat) (w w' : xw_W) : Prop := ∀ a, sh_O w h sl a → w' a = w a ∧ sh_O w' h sl a
theorem sh_F.rf {h sl : Nat} {w : xw_W} : sh_F h sl w w := fun _ ha => ⟨rfl, ha⟩
theorem sh_F.tr {h sl : Nat} {w w1 w2 : xw_W} (a : sh_F h sl w w1) (b : sh_F h sl w1 w2) : sh_F h sl w w2 := fun x hx => ⟨(b x (a x hx).2).1.trans (a x hx).1, (b x (a x hx).2).2⟩
theorem sh_O.to {w w' : xw_W} {h sl a : Nat} (hO : sh_O w h sl a) (e : w' a = w a) (hf : tr_Fre w' a) : sh_O w' h sl a := by
  obtain ⟨⟨x, hx, hl⟩, h1, h2, -⟩ := hO
  exact ⟨⟨x, e.trans hx, hl⟩, h1, h2, hf⟩
theorem sh_O.nn {w : xw_W} {h sl a : Nat} (hO : sh_O w h sl a) : w a ≠ none := by
  obtain ⟨⟨x, hx, -⟩, -⟩ := hO
  rw [hx]; exact fun z => by cases z
/-- the shelf with a draft just made -/
theorem sh_draft {G : g_G} {w w1 : xw_W} {h e0 sl L : Nat} {op : Bool} {sz : Nat → Nat} {vs : Nat → Nat → Int64} {bd : Option (Nat × Nat)} {g : Nat → Option Nat} (hI : sh_I G w h e0 sl op sz vs L bd g) (hL : L + 1 < 2 ^ 31) {q qn r t o n : Nat} {s : Int32} {f : Nat → Int64} (hS : tr_So (G.2.1 0) (G.2.1 1) (G.2.1 2) (sh_Z bd) w q s r t o n f) (hn : w qn = none)
    (e : w1 = va_up (va_up w h (some (.inr (4, [.ref e0, .ref sl, va_rf (bd.map (·.1)), .int (nI (L + 1))])))) qn (some (tr_S (nI (L + 1)) r t (nI o) (nI n)))) :
    tr_Df (G.2.1 0) (G.2.1 1) (G.2.1 2) (L + 1) (L + 1) (sh_Z bd) w1 qn r t o n ∧ (∀ i, i < n → tr_vl w1 r t (tr_tb o n) ((o + i) % 32768) = f i) ∧ (∀ a, ¬ tr_Own w1 (L + 1) a) := by
  obtain ⟨hh, hsl, hW, hfr, -, -, -, hbd⟩ := hI
  obtain ⟨a1, s1, b1, W1⟩ := sh_new hW hh hn e
  obtain ⟨hq0, ho, hn3, hR, ht, hA, hv⟩ := hS
  obtain ⟨R1, br1, l1⟩ := tr_okR_all hR s1
  have big : ∀ k m, tr_isN w1 k m → tr_stp w1 m ≠ nI (L + 1) := fun k m hm z => by
    obtain ⟨j, hj, ej⟩ := W1.2.2 k m hm
    rw [ej] at z
    have := (nI_eq (by omega) (by omega)).mp z
    omega
  refine ⟨⟨W1.mono (by omega), Nat.le_refl _, by rw [e]; exact va_up_self _ _ _, ho, hn3, R1, tr_okL_same ht (s1 _ _ ht.1), fun i j hi _ _ hs => absurd hs (big _ _ (R1.br hi).1), fun a b ha _ _ hs => absurd hs (big _ _ (R1.lf ha).1), fun a _ _ hs => absurd hs (big _ _ (tr_isN_eq (s1 _ _ ht.1).1 ht.1)), fun q' d' hq' z => ?_, by rw [(s1 _ _ hR.1).stp]; exact hA.1, fun i hi => by rw [br1 i, (s1 _ _ (hR.br hi).1).stp]; exact hA.2.1 i hi, fun b hb => by rw [l1 b hb, (s1 _ _ (hR.lf hb).1).stp]; exact hA.2.2.1 b hb, by rw [(s1 _ _ ht.1).stp]; exact hA.2.2.2⟩, fun i hi => ?_, fun a ⟨k, m, hm, hs, _⟩ => big k m hm hs⟩
  · obtain ⟨r', t', o', hD, -⟩ := hbd q' d' hq'
    have := (nI_eq (by omega) (by have := hD.2.1; omega)).mp z
    have := hD.2.1
    omega
  · rw [← hv i hi]
    exact tr_vl_same hR (by omega) l1 (fun b hb => s1 _ _ (hR.lf hb).1) (s1 _ _ ht.1)
theorem sh_kept {w w1 w2 : xw_W} {h qn d : Nat} (a1 : ∀ a e, w a = some e → a ≠ h → w1 a = some e) (hn : w qn = none) (ho : ∀ a, ¬ tr_Own w1 d a) (hK : tr_Kp d qn w1 w2) : ∀ a e, w a = some e → a ≠ h → w2 a = some e := fun a e ha hne => hK.1 a e (a1 a e ha hne) (xw_nn ha hn) (ho a)
theorem sh_same {w w2 : xw_W} {h L : Nat} {fs : List Value} (hW : tr_Wi w L) (hh : w h = some (.inr (4, fs))) (a2 : ∀ a e, w a = some e → a ≠ h → w2 a = some e) : ∀ k m, tr_isN w k m → tr_Same w w2 m := fun k m hm => by
  obtain ⟨e1, he1⟩ := hW.1 k m hm
  obtain ⟨s, x, hx⟩ := hm.2
  exact ⟨by rw [hx]; exact a2 _ _ hx (tr_isN_ne hm hh (by decide)), by rw [he1]; exact a2 _ _ he1 (tr_ne_kind he1 hh)⟩
theorem tr_So.ne4 {cJ cL cB : Nat} {Z : Int32 → Prop} {w : tr_W} {q r t o n h : Nat} {s : Int32} {f : Nat → Int64} {fs : List Value} (hS : tr_So cJ cL cB Z w q s r t o n f) (hh : w h = some (.inr (4, fs))) : q ≠ h := xw_ne hS.1 hh (fun z => by injection z with z; injection z with z; exact absurd z (by decide))
theorem tr_So.neA {cJ cL cB : Nat} {Z : Int32 → Prop} {w : tr_W} {q r t o n a : Nat} {s : Int32} {f : Nat → Int64} {e : ClassId × vp_A} (hS : tr_So cJ cL cB Z w q s r t o n f) (ha : w a = some (.inl e)) : q ≠ a := Ne.symm (tr_ne_kind ha hS.1)
/-- a call's draft, edited, put into a slot -/
theorem sh_call {G : g_G} {w w1 w2 w3 : xw_W} {h e0 sl L : Nat} {op : Bool} {sz : Nat → Nat} {vs : Nat → Nat → Int64} {bd : Option (Nat × Nat)} {g : Nat → Option Nat} (hI : sh_I G w h e0 sl op sz vs L bd g) {qn r' t' o' n' slot : Nat} {l : List Value} {f' : Nat → Int64} (hn : w qn = none)
    (e : w1 = va_up (va_up w h (some (.inr (4, [.ref e0, .ref sl, va_rf (bd.map (·.1)), .int (nI (L + 1))])))) qn (some (.inr (tr_kS, l)))) (ho : ∀ a, ¬ tr_Own w1 (L + 1) a) (hK : tr_Kp (L + 1) qn w1 w2)
    (hD : tr_Df (G.2.1 0) (G.2.1 1) (G.2.1 2) (L + 1) (L + 1) (sh_Z bd) w2 qn r' t' o' n') (hv : ∀ i, i < n' → tr_vl w2 r' t' (tr_tb o' n') ((o' + i) % 32768) = f' i) (e3 : w3 = va_up w2 sl (some (.inl (G.2.1 3, 16, .inr (.inr (.inr (.inr (va_up g slot (some qn))))))))) (hs16 : slot < 16) :
    sh_I G w3 h e0 sl op (va_up sz slot n') (va_up vs slot f') (L + 1) bd (va_up g slot (some qn)) ∧ sh_F h sl w w3 := by
  obtain ⟨hh, hsl, hW, hfr, hop, hsq, ⟨hne0, s0, r0, t0, h0⟩, hbd⟩ := hI
  obtain ⟨a1, s1, b1, W1⟩ := sh_new hW hh hn e
  have a2 := sh_kept a1 hn ho hK
  have hsl1 : w1 sl = some (.inl (G.2.1 3, 16, .inr (.inr (.inr (.inr g))))) := a1 _ _ hsl (tr_ne_kind hsl hh)
  have hsl2 : w2 sl = some (.inl (G.2.1 3, 16, .inr (.inr (.inr (.inr g))))) := a2 _ _ hsl (tr_ne_kind hsl hh)
  have hqnh : h ≠ qn := xw_nn hh hn
  have hh1 : w1 h = some (.inr (4, [.ref e0, .ref sl, va_rf (bd.map (·.1)), .int (nI (L + 1))])) := by rw [e, va_up_ne _ _ hqnh]; exact va_up_self _ _ _
  have hh2 := hK.1 _ _ hh1 hqnh (ho h)
  have fr2 : tr_Fre w2 sl := tr_Fre_Kp (tr_Fre_all hfr s1 b1) (by rw [hsl1]; exact fun z => by cases z) hK
  obtain ⟨p3, s3, b3, W3⟩ := sh_putA hD.1 hsl2 fr2 e3
  have s2 := sh_same hW hh a2
  have s13 : ∀ k m, tr_isN w k m → tr_Same w w3 m := fun k m hm => (s2 k m hm).tr (s3 k m (tr_isN_eq (s2 k m hm).1 hm))
  have k13 : ∀ a e, w a = some e → a ≠ h → a ≠ sl → w3 a = w a := fun a e ha h1 h2 => by rw [p3 a h2, a2 a e ha h1, ha]
  have hnb : ∀ d, bd ≠ some (qn, d) := fun d z => by
    obtain ⟨r9, t9, o9, D9, -⟩ := hbd _ _ z
    have := D9.2.2.1
    rw [hn] at this
    cases this
  refine ⟨⟨?_, ?_, W3, tr_Fre_all fr2 s3 b3, hop, fun k hk => ?_, ⟨hne0, s0, r0, t0, tr_So_same h0 (k13 _ _ h0.1 (h0.ne4 hh) (h0.neA hsl)) (fun k m hm _ => s13 k m hm)⟩, fun q d hqd => ?_⟩, fun a hO => ?_⟩
  · rw [p3 h (Ne.symm (tr_ne_kind hsl2 hh2))]; exact hh2
  · rw [e3]; exact va_up_self _ _ _
  · by_cases ek : k = slot
    · subst ek
      rw [va_up_self, va_up_self, va_up_self]
      refine ⟨qn, rfl, hnb, nI (L + 1), r', t', o', tr_So_same (hD.so (fun _ h => h) hv) (p3 _ ?_) (fun k m hm _ => s3 k m hm)⟩
      exact Ne.symm (tr_ne_kind hsl2 hD.2.2.1)
    · rw [va_up_ne _ _ ek, va_up_ne _ _ ek, va_up_ne _ _ ek]
      obtain ⟨q, hg, hb, s9, r9, t9, o9, hS⟩ := hsq k hk
      exact ⟨q, hg, hb, s9, r9, t9, o9, tr_So_same hS (k13 _ _ hS.1 (hS.ne4 hh) (hS.neA hsl)) (fun k m hm _ => s13 k m hm)⟩
  · have h16 : (16 : Nat) ≠ slot := by omega
    rw [va_up_ne _ _ h16, va_up_ne _ _ h16]
    obtain ⟨r9, t9, o9, D9, v9⟩ := hbd q d hqd
    have so := D9.so (Z' := fun _ => True) (fun _ _ => trivial) v9
    obtain ⟨D3, v3⟩ := tr_Df_all D9 W3 (by omega) (k13 _ _ so.1 (so.ne4 hh) (so.neA hsl)) s13
    exact ⟨r9, t9, o9, D3, fun i hi => by rw [v3 _ (by omega)]; exact v9 i hi⟩
  · obtain ⟨⟨x, hx, hl⟩, n1, n2, f1⟩ := id hO
    have e9 := k13 a x hx n1 n2
    have f2 : tr_Fre w2 a := tr_Fre_Kp (tr_Fre_all f1 s1 b1) (by rw [a1 a x hx n1]; exact fun z => by cases z) hK
    exact ⟨e9, hO.to e9 (tr_Fre_all f2 s3 b3)⟩
/-- the builder is made -/
theorem sh_opens {G : g_G} {w w1 w2 : xw_W} {h e0 sl L : Nat} {sz : Nat → Nat} {vs : Nat → Nat → Int64} {g : Nat → Option Nat} (hI : sh_I G w h e0 sl false sz vs L none g) (hL : L + 1 < 2 ^ 31) {q qn r t o n : Nat} {s : Int32} {f : Nat → Int64} (hS : tr_So (G.2.1 0) (G.2.1 1) (G.2.1 2) (sh_Z none) w q s r t o n f) (hn : w qn = none)
    (e : w1 = va_up (va_up w h (some (.inr (4, [.ref e0, .ref sl, .null, .int (nI (L + 1))])))) qn (some (tr_S (nI (L + 1)) r t (nI o) (nI n)))) (e2 : w2 = va_up w1 h (some (.inr (4, [.ref e0, .ref sl, .ref qn, .int (nI (L + 1))])))) :
    sh_I G w2 h e0 sl true (va_up sz 16 n) (va_up vs 16 f) (L + 1) (some (qn, L + 1)) g ∧ sh_F h sl w w2 := by
  obtain ⟨D1, v1, o1⟩ := sh_draft hI hL hS hn e
  obtain ⟨hh, hsl, hW, hfr, hop, hsq, ⟨hne0, s0, r0, t0, h0⟩, hbd⟩ := hI
  obtain ⟨a1, s1, b1, W1⟩ := sh_new hW hh hn e
  have hqnh : h ≠ qn := xw_nn hh hn
  have hh1 : w1 h = some (.inr (4, [.ref e0, .ref sl, .null, .int (nI (L + 1))])) := by rw [e, va_up_ne _ _ hqnh]; exact va_up_self _ _ _
  obtain ⟨p2, s2, b2, W2⟩ := sh_put4 W1 hh1 e2
  have s12 : ∀ k m, tr_isN w k m → tr_Same w w2 m := fun k m hm => (s1 k m hm).tr (s2 k m (tr_isN_eq (s1 k m hm).1 hm))
  have b12 : ∀ k m, tr_isN w2 k m → tr_isN w k m := fun k m hm => b1 _ _ (b2 _ _ hm)
  have k12 : ∀ a e, w a = some e → a ≠ h → w2 a = w a := fun a e ha h1 => by rw [p2 a h1, a1 a e ha h1, ha]
  have big : ∀ k m, tr_isN w2 k m → sh_Z none (tr_stp w2 m) → sh_Z (some (qn, L + 1)) (tr_stp w2 m) := fun k m hm _ q' d' hq' z => by
    obtain ⟨j, hj, ej⟩ := W2.2.2 k m hm
    cases hq'
    rw [ej] at z
    have := (nI_eq (by omega) (by omega)).mp z
    omega
  have lift : ∀ {q s r t o n f}, tr_So (G.2.1 0) (G.2.1 1) (G.2.1 2) (sh_Z none) w q s r t o n f → tr_So (G.2.1 0) (G.2.1 1) (G.2.1 2) (sh_Z (some (qn, L + 1))) w2 q s r t o n f := fun hS => tr_So_Z (tr_So_same hS (k12 _ _ hS.1 (hS.ne4 hh)) (fun k m hm _ => s12 k m hm)) big
  refine ⟨⟨by rw [e2]; exact va_up_self _ _ _, ?_, W2.mono (by omega), tr_Fre_all hfr s12 b12, rfl, fun k hk => ?_, ⟨fun d z => ?_, s0, r0, t0, lift h0⟩, fun q9 d9 hqd => ?_⟩, fun a hO => ?_⟩
  · rw [k12 _ _ hsl (tr_ne_kind hsl hh)]; exact hsl
  · have h16 : k ≠ 16 := by omega
    rw [va_up_ne _ _ h16, va_up_ne _ _ h16]
    obtain ⟨q, hg, hb, s9, r9, t9, o9, hS⟩ := hsq k hk
    refine ⟨q, hg, fun d z => ?_, s9, r9, t9, o9, lift hS⟩
    cases z
    exact xw_nn hS.1 hn rfl
  · cases z
    exact xw_nn h0.1 hn rfl
  · cases hqd
    rw [va_up_self, va_up_self]
    obtain ⟨D2, v2⟩ := tr_Df_all D1 (W2.mono (by omega)) (Nat.le_refl _) (p2 _ (Ne.symm hqnh)) s2
    obtain ⟨hW9, hd9, hq9, ho9, hn9, hR9, ht9, hU9, hl9, hut9, -, -⟩ := D2
    exact ⟨r, t, o, ⟨hW9, hd9, hq9, ho9, hn9, hR9, ht9, hU9, hl9, hut9, trivial, trivial, fun _ _ => trivial, fun _ _ => trivial, trivial⟩, fun i hi => by rw [v2 _ (by omega)]; exact v1 i hi⟩
  · obtain ⟨⟨x, hx, hl⟩, n1, n2, f1⟩ := id hO
    have e9 := k12 a x hx n1
    exact ⟨e9, hO.to e9 (tr_Fre_all f1 s12 b12)⟩
/-- the builder is edited -/
theorem sh_edit {G : g_G} {w w2 : xw_W} {h e0 sl L qb d : Nat} {op : Bool} {sz : Nat → Nat} {vs : Nat → Nat → Int64} {g : Nat → Option Nat} (hI : sh_I G w h e0 sl op sz vs L (some (qb, d)) g) {r' t' o' n' : Nat} {f' : Nat → Int64} (hK : tr_Kp d qb w w2)
    (hD : tr_Df (G.2.1 0) (G.2.1 1) (G.2.1 2) L d (fun _ => True) w2 qb r' t' o' n') (hv : ∀ i, i < n' → tr_vl w2 r' t' (tr_tb o' n') ((o' + i) % 32768) = f' i) :
    sh_I G w2 h e0 sl op (va_up sz 16 n') (va_up vs 16 f') L (some (qb, d)) g ∧ sh_F h sl w w2 := by
  obtain ⟨hh, hsl, hW, hfr, hop, hsq, ⟨hne0, s0, r0, t0, h0⟩, hbd⟩ := hI
  obtain ⟨r9, t9, o9, D9, v9⟩ := hbd _ _ rfl
  have hqb := D9.2.2.1
  have own : ∀ a, tr_Fre w a → ¬ tr_Own w d a := fun a hf ⟨k, n, hn, _, hx⟩ => hf k n hn hx.symm
  have ownR : ∀ a c l, w a = some (.inr (c, l)) → ¬ tr_Own w d a := fun a c l ha ⟨k, n, hn, _, hx⟩ => by
    obtain ⟨e9, he9⟩ := hW.1 k n hn
    rw [← hx, ha] at he9
    cases he9
  have sm : ∀ k m, tr_isN w k m → sh_Z (some (qb, d)) (tr_stp w m) → tr_Same w w2 m := fun k m hm hz => tr_node_kept hW hK hqb hm (hz _ _ rfl)
  have hnhq : h ≠ qb := xw_ne hh hqb (fun z => by injection z with z; injection z with z; exact absurd z (by decide))
  have lift : ∀ {q s r t o n f}, q ≠ qb → tr_So (G.2.1 0) (G.2.1 1) (G.2.1 2) (sh_Z (some (qb, d))) w q s r t o n f → tr_So (G.2.1 0) (G.2.1 1) (G.2.1 2) (sh_Z (some (qb, d))) w2 q s r t o n f := fun hne hS => tr_So_same hS (by rw [hS.1]; exact hK.1 _ _ hS.1 hne (ownR _ _ _ hS.1)) sm
  have hsl2 := hK.1 _ _ hsl (tr_ne_kind hsl hqb) (own _ hfr)
  refine ⟨⟨hK.1 _ _ hh hnhq (ownR _ _ _ hh), hsl2, hD.1, tr_Fre_Kp hfr (by rw [hsl]; exact fun z => by cases z) hK, hop, fun k hk => ?_, ⟨hne0, s0, r0, t0, lift (fun z => hne0 d (by rw [z])) h0⟩, fun q9 d9 hqd => ?_⟩, fun a hO => ?_⟩
  · have h16 : k ≠ 16 := by omega
    rw [va_up_ne _ _ h16, va_up_ne _ _ h16]
    obtain ⟨q, hg, hb, s9, r9, t9, o9, hS⟩ := hsq k hk
    exact ⟨q, hg, hb, s9, r9, t9, o9, lift (fun z => hb d (by rw [z])) hS⟩
  · cases hqd
    rw [va_up_self, va_up_self]
    exact ⟨r', t', o', hD, hv⟩
  · obtain ⟨⟨x, hx, hl⟩, n1, n2, f1⟩ := id hO
    have e9 : w2 a = w a := by
      rw [hx]
      refine hK.1 a x hx (fun z => ?_) (own a f1)
      rw [z, hqb] at hx
      exact hl _ (Option.some.inj hx).symm
    exact ⟨e9, hO.to e9 (tr_Fre_Kp f1 hO.nn hK)⟩
/-- the builder goes into a slot -/
theorem sh_freezes {G : g_G} {w w1 w2 : xw_W} {h e0 sl L qb d slot : Nat} {op : Bool} {sz : Nat → Nat} {vs : Nat → Nat → Int64} {g : Nat → Option Nat} (hI : sh_I G w h e0 sl op sz vs L (some (qb, d)) g) (hs16 : slot < 16)
    (e1 : w1 = va_up w sl (some (.inl (G.2.1 3, 16, .inr (.inr (.inr (.inr (va_up g slot (some qb))))))))) (e2 : w2 = va_up w1 h (some (.inr (4, [.ref e0, .ref sl, .null, .int (nI L)])))) :
    sh_I G w2 h e0 sl false (va_up sz slot (sz 16)) (va_up vs slot (vs 16)) L none (va_up g slot (some qb)) ∧ sh_F h sl w w2 := by
  obtain ⟨hh, hsl, hW, hfr, hop, hsq, ⟨hne0, s0, r0, t0, h0⟩, hbd⟩ := hI
  obtain ⟨r9, t9, o9, D9, v9⟩ := hbd _ _ rfl
  obtain ⟨p1, s1, b1, W1⟩ := sh_putA hW hsl hfr e1
  have hne : h ≠ sl := Ne.symm (tr_ne_kind hsl hh)
  obtain ⟨p2, s2, b2, W2⟩ := sh_put4 W1 ((p1 h hne).trans hh) e2
  have s12 : ∀ k m, tr_isN w k m → tr_Same w w2 m := fun k m hm => (s1 k m hm).tr (s2 k m (tr_isN_eq (s1 k m hm).1 hm))
  have b12 : ∀ k m, tr_isN w2 k m → tr_isN w k m := fun k m hm => b1 _ _ (b2 _ _ hm)
  have k12 : ∀ a, a ≠ h → a ≠ sl → w2 a = w a := fun a h1 h2 => by rw [p2 a h1, p1 a h2]
  have lift : ∀ {Z : Int32 → Prop} {q s r t o n f}, tr_So (G.2.1 0) (G.2.1 1) (G.2.1 2) Z w q s r t o n f → tr_So (G.2.1 0) (G.2.1 1) (G.2.1 2) (sh_Z none) w2 q s r t o n f := fun hS => tr_So_Z (tr_So_same hS (k12 _ (hS.ne4 hh) (hS.neA hsl)) (fun k m hm _ => s12 k m hm)) (fun _ _ _ _ _ _ z => by cases z)
  refine ⟨⟨by rw [e2]; exact va_up_self _ _ _, ?_, W2, tr_Fre_all hfr s12 b12, rfl, fun k hk => ?_, ⟨fun d z => (by cases z), s0, r0, t0, lift h0⟩, fun q9 d9 hqd => by cases hqd⟩, fun a hO => ?_⟩
  · rw [p2 _ (Ne.symm hne), e1]; exact va_up_self _ _ _
  · by_cases ek : k = slot
    · subst ek
      rw [va_up_self, va_up_self, va_up_self]
      exact ⟨qb, rfl, fun d z => (by cases z), _, _, _, _, lift (D9.so (Z' := fun _ => True) (fun _ _ => trivial) v9)⟩
    · rw [va_up_ne _ _ ek, va_up_ne _ _ ek, va_up_ne _ _ ek]
      obtain ⟨q, hg, hb, s9, r9, t9, o9, hS⟩ := hsq k hk
      exact ⟨q, hg, fun d z => (by cases z), s9, r9, t9, o9, lift hS⟩
  · obtain ⟨⟨x, hx, hl⟩, n1, n2, f1⟩ := id hO
    exact ⟨k12 a n1 n2, hO.to (k12 a n1 n2) (tr_Fre_all f1 s12 b12)⟩
/-- cells that are none of the shelf's are written: the shelf stays -/
theorem sh_stays {G : g_G} {w w2 : xw_W} {h e0 sl L : Nat} {op : Bool} {sz : Nat → Nat} {vs : Nat → Nat → Int64} {bd : Option (Nat × Nat)} {g : Nat → Option Nat} (hI : sh_I G w h e0 sl op sz vs L bd g) (hk : ∀ a, w2 a ≠ w a → sh_O w h sl a ∧ ∀ k, ¬ tr_isN w k a) (hb : ∀ k m, tr_isN w2 k m → w2 m = w m) :
    sh_I G w2 h e0 sl op sz vs L bd g ∧ ∀ a, sh_O w h sl a → (∃ e, w2 a = some e ∧ ∀ l, e ≠ .inr (tr_kS, l)) → sh_O w2 h sl a := by
  obtain ⟨hh, hsl, hW, hfr, hop, hsq, ⟨hne0, s0, r0, t0, h0⟩, hbd⟩ := hI
  have eq : ∀ a, ¬ (sh_O w h sl a ∧ ∀ k, ¬ tr_isN w k a) → w2 a = w a := fun a ha => Classical.byContradiction (fun z => ha (hk a z))
  have nodes : ∀ k m, tr_isN w k m → tr_Same w w2 m := fun k m hm => ⟨eq _ (fun z => z.2 k hm), eq _ (fun z => z.1.2.2.2 k m hm rfl)⟩
  have back : ∀ k m, tr_isN w2 k m → tr_isN w k m := fun k m hm => tr_isN_eq (hb k m hm).symm hm
  have seq : ∀ q l, w q = some (.inr (tr_kS, l)) → w2 q = w q := fun q l hq => eq _ (fun z => by obtain ⟨⟨x, hx, hl⟩, -⟩ := z.1; rw [hq] at hx; exact hl _ (Option.some.inj hx).symm)
  have eh : w2 h = w h := eq _ (fun z => z.1.2.1 rfl)
  have es : w2 sl = w sl := eq _ (fun z => z.1.2.2.1 rfl)
  have W2 := tr_Wi_all hW nodes back
  refine ⟨⟨eh.trans hh, es.trans hsl, W2, tr_Fre_all hfr nodes back, hop, fun k hk => ?_, ⟨hne0, s0, r0, t0, tr_So_same h0 (seq _ _ h0.1) (fun k m hm _ => nodes k m hm)⟩, fun q d hqd => ?_⟩, fun a hO hx => ⟨hx, hO.2.1, hO.2.2.1, tr_Fre_all hO.2.2.2 nodes back⟩⟩
  · obtain ⟨q, hg, hb, s9, r9, t9, o9, hS⟩ := hsq k hk
    exact ⟨q, hg, hb, s9, r9, t9, o9, tr_So_same hS (seq _ _ hS.1) (fun k m hm _ => nodes k m hm)⟩
  · obtain ⟨r9, t9, o9, D9, v9⟩ := hbd q d hqd
    obtain ⟨D3, v3⟩ := tr_Df_all D9 W2 (Nat.le_refl _) (seq _ _ D9.2.2.1) nodes
    exact ⟨r9, t9, o9, D3, fun i hi => by rw [v3 _ (by omega)]; exact v9 i hi⟩
theorem sh_I.le {G : g_G} {w : xw_W} {h e0 sl L : Nat} {op : Bool} {sz : Nat → Nat} {vs : Nat → Nat → Int64} {bd : Option (Nat × Nat)} {g : Nat → Option Nat} (hI : sh_I G w h e0 sl op sz vs L bd g) {k : Nat} (hk : k < 16) : sz k ≤ 3000 := by
  obtain ⟨-, -, -, -, -, hsq, -⟩ := hI
  obtain ⟨q, hg, hb, s9, r9, t9, o9, hS⟩ := hsq k hk
  exact hS.2.2.1
/-- the shelf after at most K drafts -/
def sh_St (G : g_G) (w : xw_W) (h e0 sl : Nat) (op : Bool) (sz : Nat → Nat) (vs : Nat → Nat → Int64) (K : Nat) : Prop := ∃ L bd g, L ≤ K ∧ sh_I G w h e0 sl op sz vs L bd g
