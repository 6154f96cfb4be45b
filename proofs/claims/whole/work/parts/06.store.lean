abbrev tr_kB : Nat := 0
abbrev tr_kL : Nat := 1
abbrev tr_kR : Nat := 2
abbrev tr_kS : Nat := 3
/-! The store in pure words: nodes, their arrays, what a step of an edit leaves. -/
abbrev tr_W : Type := Nat → Option va_E
abbrev tr_N (k : Nat) (s : Int32) (x : Nat) : va_E := .inr (k, [.int s, .ref x])
abbrev tr_V (c : Nat) (f : Nat → Int64) : va_E := .inl (c, 32, .inr (.inl f))
abbrev tr_Q (c : Nat) (f : Nat → Option Nat) : va_E := .inl (c, 32, .inr (.inr (.inr (.inr f))))
abbrev tr_S (s : Int32) (r t : Nat) (o n : Int32) : va_E := .inr (tr_kS, [.int s, .ref r, .ref t, .int o, .int n])
def tr_stp (w : tr_W) (a : Nat) : Int32 := match w a with
  | some (.inr (_, .int s :: _)) => s
  | _ => 0
def tr_arr (w : tr_W) (a : Nat) : Nat := match w a with
  | some (.inr (_, _ :: .ref x :: _)) => x
  | _ => 0
def tr_chd (w : tr_W) (x i : Nat) : Nat := match w x with
  | some (.inl (_, _, .inr (.inr (.inr (.inr f))))) => (f i).getD 0
  | _ => 0
def tr_val (w : tr_W) (x i : Nat) : Int64 := match w x with
  | some (.inl (_, _, .inr (.inl f))) => f i
  | _ => 0
theorem tr_stp_of {w : tr_W} {a k x : Nat} {s : Int32} (h : w a = some (tr_N k s x)) : tr_stp w a = s := by simp [tr_stp, h]
theorem tr_arr_of {w : tr_W} {a k x : Nat} {s : Int32} (h : w a = some (tr_N k s x)) : tr_arr w a = x := by simp [tr_arr, h]
theorem tr_chd_of {w : tr_W} {x c : Nat} {f : Nat → Option Nat} (h : w x = some (tr_Q c f)) (i : Nat) : tr_chd w x i = (f i).getD 0 := by simp [tr_chd, h]
theorem tr_val_of {w : tr_W} {x c : Nat} {f : Nat → Int64} (h : w x = some (tr_V c f)) (i : Nat) : tr_val w x i = f i := by simp [tr_val, h]
theorem tr_stp_eq {w w' : tr_W} {a : Nat} (h : w' a = w a) : tr_stp w' a = tr_stp w a := by simp [tr_stp, h]
theorem tr_arr_eq {w w' : tr_W} {a : Nat} (h : w' a = w a) : tr_arr w' a = tr_arr w a := by simp [tr_arr, h]
theorem tr_chd_eq {w w' : tr_W} {a : Nat} (h : w' a = w a) (i : Nat) : tr_chd w' a i = tr_chd w a i := by simp [tr_chd, h]
theorem tr_val_eq {w w' : tr_W} {a : Nat} (h : w' a = w a) (i : Nat) : tr_val w' a i = tr_val w a i := by simp [tr_val, h]
def tr_isN (w : tr_W) (k n : Nat) : Prop := (k = tr_kL ∨ k = tr_kB ∨ k = tr_kR) ∧ ∃ (s : Int32) (x : Nat), w n = some (tr_N k s x)
/-- a leaf, a branch, a root, with all that lies below -/
def tr_okL (cJ : Nat) (w : tr_W) (z : Nat) : Prop := tr_isN w tr_kL z ∧ ∃ f, w (tr_arr w z) = some (tr_V cJ f)
def tr_okA (c : Nat) (w : tr_W) (x : Nat) : Prop := ∃ f, w x = some (tr_Q c f) ∧ ∀ j, j < 32 → f j = some (tr_chd w x j)
def tr_okB (cJ cL : Nat) (w : tr_W) (y : Nat) : Prop := tr_isN w tr_kB y ∧ tr_okA cL w (tr_arr w y) ∧ ∀ j, j < 32 → tr_okL cJ w (tr_chd w (tr_arr w y) j)
def tr_okR (cJ cL cB : Nat) (w : tr_W) (r : Nat) : Prop := tr_isN w tr_kR r ∧ tr_okA cB w (tr_arr w r) ∧ ∀ i, i < 32 → tr_okB cJ cL w (tr_chd w (tr_arr w r) i)
def tr_brn (w : tr_W) (r i : Nat) : Nat := tr_chd w (tr_arr w r) i
def tr_lfb (w : tr_W) (r b : Nat) : Nat := tr_chd w (tr_arr w (tr_brn w r (b / 32))) (b % 32)
/-- the nodes of a world: each array is an array, belongs to one node, the stamps are bounded -/
def tr_Wi (w : tr_W) (M : Nat) : Prop := (∀ k n, tr_isN w k n → ∃ e, w (tr_arr w n) = some (.inl e)) ∧ (∀ k n k' n', tr_isN w k n → tr_isN w k' n' → tr_arr w n = tr_arr w n' → n = n') ∧ ∀ k n, tr_isN w k n → ∃ m, m ≤ M ∧ tr_stp w n = nI m
def tr_Own (w : tr_W) (d a : Nat) : Prop := ∃ k n, tr_isN w k n ∧ tr_stp w n = nI d ∧ a = tr_arr w n
/-- an edit with the stamp d of the sequence q: what it keeps -/
def tr_Kp (d q : Nat) (w w' : tr_W) : Prop := (∀ a e, w a = some e → a ≠ q → ¬ tr_Own w d a → w' a = some e) ∧ (∀ k n, tr_isN w' k n → w' n = w n ∨ (w n = none ∧ w (tr_arr w' n) = none)) ∧ (∀ k n, tr_isN w k n → w' n = w n) ∧ ∀ a, w a ≠ none → w' a ≠ none
def tr_Same (w w' : tr_W) (n : Nat) : Prop := w' n = w n ∧ w' (tr_arr w n) = w (tr_arr w n)
theorem tr_isN_eq {w w' : tr_W} {k n : Nat} (h : w' n = w n) (hn : tr_isN w k n) : tr_isN w' k n := by
  obtain ⟨hk, s, x, hx⟩ := hn
  exact ⟨hk, s, x, by rw [h]; exact hx⟩
theorem tr_isN_up {w : tr_W} {k n : Nat} (hn : tr_isN w k n) : ∃ s x, w n = some (tr_N k s x) := hn.2
theorem tr_Same.arr {w w' : tr_W} {n : Nat} (h : tr_Same w w' n) : tr_arr w' n = tr_arr w n := tr_arr_eq h.1
theorem tr_Same.stp {w w' : tr_W} {n : Nat} (h : tr_Same w w' n) : tr_stp w' n = tr_stp w n := tr_stp_eq h.1
theorem tr_Same.chd {w w' : tr_W} {n : Nat} (h : tr_Same w w' n) (i : Nat) : tr_chd w' (tr_arr w' n) i = tr_chd w (tr_arr w n) i := by rw [h.arr]; exact tr_chd_eq h.2 i
theorem tr_Same.val {w w' : tr_W} {n : Nat} (h : tr_Same w w' n) (i : Nat) : tr_val w' (tr_arr w' n) i = tr_val w (tr_arr w n) i := by rw [h.arr]; exact tr_val_eq h.2 i
theorem tr_Same.rf {w : tr_W} {n : Nat} : tr_Same w w n := ⟨rfl, rfl⟩
theorem tr_Same.tr {w w1 w2 : tr_W} {n : Nat} (h1 : tr_Same w w1 n) (h2 : tr_Same w1 w2 n) : tr_Same w w2 n := by
  refine ⟨h2.1.trans h1.1, ?_⟩
  have e := h2.2
  rw [h1.arr] at e
  exact e.trans h1.2
theorem tr_okL_same {cJ : Nat} {w w' : tr_W} {z : Nat} (h : tr_okL cJ w z) (hs : tr_Same w w' z) : tr_okL cJ w' z := by
  obtain ⟨hn, f, hf⟩ := h
  exact ⟨tr_isN_eq hs.1 hn, f, by rw [hs.arr, hs.2]; exact hf⟩
theorem tr_okA_same {c : Nat} {w w' : tr_W} {n : Nat} (h : tr_okA c w (tr_arr w n)) (hs : tr_Same w w' n) : tr_okA c w' (tr_arr w' n) := by
  obtain ⟨f, hf, hj⟩ := h
  exact ⟨f, by rw [hs.arr, hs.2]; exact hf, fun j h => by rw [hs.chd j]; exact hj j h⟩
theorem tr_okB_same {cJ cL : Nat} {w w' : tr_W} {y : Nat} (h : tr_okB cJ cL w y) (hs : tr_Same w w' y) (hz : ∀ j, j < 32 → tr_Same w w' (tr_chd w (tr_arr w y) j)) : tr_okB cJ cL w' y :=
  ⟨tr_isN_eq hs.1 h.1, tr_okA_same h.2.1 hs, fun j hj => by rw [hs.chd j]; exact tr_okL_same (h.2.2 j hj) (hz j hj)⟩
theorem tr_lfb_at {w : tr_W} {r i j : Nat} (hj : j < 32) : tr_lfb w r (32 * i + j) = tr_chd w (tr_arr w (tr_brn w r i)) j := by
  unfold tr_lfb
  rw [show (32 * i + j) / 32 = i by omega, show (32 * i + j) % 32 = j by omega]
theorem tr_okR.br {cJ cL cB : Nat} {w : tr_W} {r i : Nat} (h : tr_okR cJ cL cB w r) (hi : i < 32) : tr_okB cJ cL w (tr_brn w r i) := h.2.2 i hi
theorem tr_okR.lf {cJ cL cB : Nat} {w : tr_W} {r b : Nat} (h : tr_okR cJ cL cB w r) (hb : b < 1024) : tr_okL cJ w (tr_lfb w r b) := (h.br (show b / 32 < 32 by omega)).2.2 (b % 32) (by omega)
theorem tr_okR_same {cJ cL cB : Nat} {w w' : tr_W} {r : Nat} (h : tr_okR cJ cL cB w r) (hs : tr_Same w w' r) (hy : ∀ i, i < 32 → tr_Same w w' (tr_brn w r i)) (hz : ∀ b, b < 1024 → tr_Same w w' (tr_lfb w r b)) :
    tr_okR cJ cL cB w' r ∧ (∀ i, tr_brn w' r i = tr_brn w r i) ∧ ∀ b, b < 1024 → tr_lfb w' r b = tr_lfb w r b := by
  have hb : ∀ i, tr_brn w' r i = tr_brn w r i := fun i => hs.chd i
  refine ⟨⟨tr_isN_eq hs.1 h.1, tr_okA_same h.2.1 hs, fun i hi => ?_⟩, hb, fun b hb' => ?_⟩
  · rw [hs.chd i]
    refine tr_okB_same (h.2.2 i hi) (hy i hi) (fun j hj => ?_)
    have := hz (32 * i + j) (by omega)
    rwa [tr_lfb_at hj] at this
  · unfold tr_lfb
    rw [hb]
    exact (hy (b / 32) (by omega)).chd _
/-! the primitive steps -/
def tr_Ow (k d : Nat) (w w1 : tr_W) (n n1 : Nat) : Prop := (tr_stp w n = nI d ∧ n1 = n ∧ w1 = w) ∨ (tr_stp w n ≠ nI d ∧ ∃ x e, w n1 = none ∧ w x = none ∧ n1 ≠ x ∧ w (tr_arr w n) = some (.inl e) ∧ w1 = va_up (va_up w x (some (.inl e))) n1 (some (tr_N k (nI d) x)))
theorem tr_up_ne {w : tr_W} {x a : Nat} {e : Option va_E} (h : a ≠ x) : va_up w x e a = w a := va_up_ne w e h
theorem tr_up_self {w : tr_W} {x : Nat} {e : Option va_E} : va_up w x e x = e := va_up_self w x e
theorem tr_ne_none {w : tr_W} {a b : Nat} {e : va_E} (ha : w a = some e) (hb : w b = none) : a ≠ b := by
  intro h
  rw [h, hb] at ha
  cases ha
theorem tr_ne_kind {w : tr_W} {a b k : Nat} {e : ClassId × vp_A} {l : List Value} (ha : w a = some (.inl e)) (hb : w b = some (.inr (k, l))) : a ≠ b := by
  intro h
  rw [h, hb] at ha
  cases ha
theorem tr_notSeq {w : tr_W} {k n q : Nat} {l : List Value} (hn : tr_isN w k n) (hq : w q = some (.inr (tr_kS, l))) : n ≠ q := by
  intro h
  obtain ⟨hk, s, x, hx⟩ := hn
  rw [h, hq] at hx
  injection hx with hx
  injection hx with hx
  injection hx with h1 h2
  rcases hk with hk | hk | hk <;> (rw [← h1] at hk; exact absurd hk (by decide))
theorem tr_arr_notSeq {w : tr_W} {M k n q : Nat} {l : List Value} (hW : tr_Wi w M) (hn : tr_isN w k n) (hq : w q = some (.inr (tr_kS, l))) : tr_arr w n ≠ q := by
  obtain ⟨e, he⟩ := hW.1 k n hn
  exact tr_ne_kind he hq
theorem tr_node_kept {w w' : tr_W} {M d q k n : Nat} {l : List Value} (hW : tr_Wi w M) (hK : tr_Kp d q w w') (hq : w q = some (.inr (tr_kS, l))) (hn : tr_isN w k n) (hs : tr_stp w n ≠ nI d) : tr_Same w w' n := by
  refine ⟨hK.2.2.1 k n hn, ?_⟩
  obtain ⟨e, he⟩ := hW.1 k n hn
  rw [he]
  refine hK.1 _ _ he (tr_arr_notSeq hW hn hq) ?_
  rintro ⟨k', n', hn', hs', ha⟩
  have := hW.2.1 _ _ _ _ hn hn' ha
  subst this
  exact hs hs'
theorem tr_Kp.rf {d q : Nat} {w : tr_W} : tr_Kp d q w w := ⟨fun _ _ h _ _ => h, fun _ _ _ => Or.inl rfl, fun _ _ _ => rfl, fun _ h => h⟩
theorem tr_Kp.tr {d q : Nat} {w w1 w2 : tr_W} (h1 : tr_Kp d q w w1) (h2 : tr_Kp d q w1 w2) : tr_Kp d q w w2 := by
  refine ⟨fun a e ha hq ho => ?_, fun k n hn => ?_, fun k n hn => ?_, fun a ha => h2.2.2.2 a (h1.2.2.2 a ha)⟩
  · refine h2.1 a e (h1.1 a e ha hq ho) hq ?_
    rintro ⟨k, n, hn, hs, hx⟩
    rcases h1.2.1 k n hn with h | ⟨hz, hz2⟩
    · exact ho ⟨k, n, tr_isN_eq h.symm hn, by rw [← tr_stp_eq h]; exact hs, by rw [← tr_arr_eq h]; exact hx⟩
    · rw [← hx, ha] at hz2
      cases hz2
  · rcases h2.2.1 k n hn with h | ⟨hz, hz2⟩
    · have hn1 := tr_isN_eq h.symm hn
      rcases h1.2.1 k n hn1 with h' | ⟨hy, hy2⟩
      · exact Or.inl (h.trans h')
      · exact Or.inr ⟨hy, by rw [tr_arr_eq h]; exact hy2⟩
    · refine Or.inr ⟨?_, ?_⟩
      · cases hw : w n with
        | none => rfl
        | some e => exact absurd hz (h1.2.2.2 n (by rw [hw]; exact fun h => by cases h))
      · cases hw : w (tr_arr w2 n) with
        | none => rfl
        | some e => exact absurd hz2 (h1.2.2.2 _ (by rw [hw]; exact fun h => by cases h))
  · have e1 := h1.2.2.1 k n hn
    exact (h2.2.2.1 k n (tr_isN_eq e1 hn)).trans e1
/-- a new node with its new array -/
theorem tr_new_same {w : tr_W} {n1 x : Nat} {e1 e2 : va_E} {a : Nat} {e : va_E} (h1 : w n1 = none) (h2 : w x = none) (ha : w a = some e) : va_up (va_up w x (some e2)) n1 (some e1) a = some e := by
  rw [tr_up_ne (tr_ne_none ha h1), tr_up_ne (tr_ne_none ha h2)]
  exact ha
theorem tr_new_node {w : tr_W} {n1 x k k' n : Nat} {s : Int32} {e : ClassId × vp_A} (h1 : w n1 = none) (h2 : w x = none) (hne : n1 ≠ x) (hn : tr_isN (va_up (va_up w x (some (.inl e))) n1 (some (tr_N k s x))) k' n) : (n = n1 ∧ k' = k) ∨ (n ≠ n1 ∧ n ≠ x ∧ tr_isN w k' n ∧ va_up (va_up w x (some (.inl e))) n1 (some (tr_N k s x)) n = w n) := by
  by_cases h : n = n1
  · refine Or.inl ⟨h, ?_⟩
    obtain ⟨-, s', x', hx⟩ := hn
    rw [h, tr_up_self] at hx
    injection hx with hx
    injection hx with hx
    injection hx with h1 h2
    exact h1.symm
  · by_cases h' : n = x
    · obtain ⟨-, s', x', hx⟩ := hn
      rw [h', tr_up_ne (fun z => hne z.symm), tr_up_self] at hx
      cases hx
    · have e1 : va_up (va_up w x (some (.inl e))) n1 (some (tr_N k s x)) n = w n := by rw [tr_up_ne h, tr_up_ne h']
      exact Or.inr ⟨h, h', tr_isN_eq e1.symm hn, e1⟩
theorem tr_new_Kp {w : tr_W} {n1 x k d q : Nat} {s : Int32} {e : ClassId × vp_A} (h1 : w n1 = none) (h2 : w x = none) (hne : n1 ≠ x) : tr_Kp d q w (va_up (va_up w x (some (.inl e))) n1 (some (tr_N k s x))) := by
  refine ⟨fun a e ha _ _ => tr_new_same h1 h2 ha, fun k' n hn => ?_, fun k' n hn => ?_, fun a ha => ?_⟩
  · rcases tr_new_node h1 h2 hne hn with ⟨rfl, -⟩ | ⟨-, -, -, h⟩
    · refine Or.inr ⟨h1, ?_⟩
      rw [tr_arr_of (tr_up_self)]
      exact h2
    · exact Or.inl h
  · obtain ⟨-, s', x', hx⟩ := hn
    rw [hx]
    exact tr_new_same h1 h2 hx
  · cases hw : w a with
    | none => exact absurd hw ha
    | some e => rw [tr_new_same h1 h2 hw]; exact fun h => by cases h
theorem tr_new_Wi {w : tr_W} {n1 x k d M : Nat} {e : ClassId × vp_A} (hW : tr_Wi w M) (hd : d ≤ M) (h1 : w n1 = none) (h2 : w x = none) (hne : n1 ≠ x) : tr_Wi (va_up (va_up w x (some (.inl e))) n1 (some (tr_N k (nI d) x))) M := by
  have hx : (va_up (va_up w x (some (.inl e))) n1 (some (tr_N k (nI d) x))) x = some (.inl e) := by rw [tr_up_ne (fun z => hne z.symm), tr_up_self]
  have old : ∀ k' n, tr_isN w k' n → ∀ (h : va_up (va_up w x (some (.inl e))) n1 (some (tr_N k (nI d) x)) n = w n), tr_arr w n ≠ x := by
    intro k' n hn h
    obtain ⟨e', he'⟩ := hW.1 k' n hn
    exact tr_ne_none he' h2
  refine ⟨fun k' n hn => ?_, fun k1 a k2 b ha hb hab => ?_, fun k' n hn => ?_⟩
  · rcases tr_new_node h1 h2 hne hn with ⟨rfl, -⟩ | ⟨-, -, hn', h⟩
    · exact ⟨e, by rw [tr_arr_of tr_up_self]; exact hx⟩
    · obtain ⟨e', he'⟩ := hW.1 k' n hn'
      exact ⟨e', by rw [tr_arr_eq h]; exact tr_new_same h1 h2 he'⟩
  · rcases tr_new_node h1 h2 hne ha with ⟨rfl, -⟩ | ⟨-, -, ha', h⟩
    · rcases tr_new_node h1 h2 hne hb with ⟨rfl, -⟩ | ⟨-, -, hb', h'⟩
      · rfl
      · rw [tr_arr_of tr_up_self, tr_arr_eq h'] at hab
        exact absurd hab.symm (old _ _ hb' h')
    · rcases tr_new_node h1 h2 hne hb with ⟨rfl, -⟩ | ⟨-, -, hb', h'⟩
      · rw [tr_arr_of (a := b) tr_up_self, tr_arr_eq h] at hab
        exact absurd hab (old _ _ ha' h)
      · rw [tr_arr_eq h, tr_arr_eq h'] at hab
        exact hW.2.1 _ _ _ _ ha' hb' hab
  · rcases tr_new_node h1 h2 hne hn with ⟨rfl, -⟩ | ⟨-, -, hn', h⟩
    · exact ⟨d, hd, tr_stp_of tr_up_self⟩
    · obtain ⟨m, hm, he⟩ := hW.2.2 k' n hn'
      exact ⟨m, hm, by rw [tr_stp_eq h]; exact he⟩
