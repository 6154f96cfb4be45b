/-! The reference in pure words. -/
def mo_b (b : Bool) : Int32 := if b then 1 else 0
/-- the reference at m: its rows rr k hold f k, its sizes sz -/
def mo_J (G : g_G) (w : xw_W) (m ra sa : Nat) (rr : Nat → Nat) (op : Bool) (sz : Nat → Nat) (f : Nat → Nat → Int64) (cd : Int32) : Prop :=
  w m = some (.inr (5, [.ref ra, .ref sa, .int (mo_b op), .int cd])) ∧ (∃ g, w ra = some (.inl (G.2.1 5, 17, .inr (.inr (.inr (.inr g))))) ∧ ∀ k, k < 17 → g k = some (rr k)) ∧ (∃ fs, w sa = some (.inl (G.2.1 4, 17, .inl fs)) ∧ ∀ k, k < 17 → fs k = nI (sz k)) ∧
  (∀ k, k < 17 → sz k ≤ 3000 ∧ w (rr k) = some (.inl (G.2.1 0, 3000, .inr (.inl (f k))))) ∧ ∀ k k', k < 17 → k' < 17 → rr k = rr k' → k = k'
def mo_F (m sa : Nat) (rr : Nat → Nat) (w w' : xw_W) : Prop := ∀ a, a ≠ m → a ≠ sa → (∀ k, k < 17 → a ≠ rr k) → w' a = w a
def mo_I (G : g_G) (w : xw_W) (m ra sa : Nat) (rr : Nat → Nat) (S : sp_S) (cd : Int32) : Prop := ∃ f, mo_J G w m ra sa rr S.1 S.2.1 f cd ∧ ∀ k, k < 17 → ∀ z, z < S.2.1 k → f k z = S.2.2 k z
def mo_Post (G : g_G) (w : xw_W) (m ra sa : Nat) (rr : Nat → Nat) (R : sp_R) (x : Int64) (w' : xw_W) : Prop := mo_I G w' m ra sa rr R.2.2 (nI R.1) ∧ x = R.2.1 ∧ mo_F m sa rr w w'
theorem mo_F.rf {m sa : Nat} {rr : Nat → Nat} {w : xw_W} : mo_F m sa rr w w := fun _ _ _ _ => rfl
theorem mo_F.tr {m sa : Nat} {rr : Nat → Nat} {w w1 w2 : xw_W} (a : mo_F m sa rr w w1) (b : mo_F m sa rr w1 w2) : mo_F m sa rr w w2 := fun x h1 h2 h3 => (b x h1 h2 h3).trans (a x h1 h2 h3)
section MOL
variable {G : g_G} {w w' : xw_W} {m ra sa : Nat} {rr : Nat → Nat} {op op' : Bool} {sz : Nat → Nat} {f : Nat → Nat → Int64} {cd cd' : Int32} {k n : Nat}
theorem mo_ne1 {a b : Nat} {c c' n n' : Nat} {x : Nat → Int32} {y : Nat → Int64} (ha : w a = some (.inl (c, n, .inl x))) (hb : w b = some (.inl (c', n', .inr (.inl y)))) : a ≠ b := xw_ne ha hb (fun z => by injection z with z; injection z with z1 z2; injection z2 with z3 z4; cases z4)
theorem mo_ne2 {a b : Nat} {c c' n n' : Nat} {x : Nat → Int32} {y : Nat → Option Nat} (ha : w a = some (.inl (c, n, .inl x))) (hb : w b = some (.inl (c', n', .inr (.inr (.inr (.inr y)))))) : a ≠ b := xw_ne ha hb (fun z => by injection z with z; injection z with z1 z2; injection z2 with z3 z4; cases z4)
theorem mo_ne3 {a b : Nat} {c c' n n' : Nat} {x : Nat → Int64} {y : Nat → Option Nat} (ha : w a = some (.inl (c, n, .inr (.inl x)))) (hb : w b = some (.inl (c', n', .inr (.inr (.inr (.inr y)))))) : a ≠ b := xw_ne ha hb (fun z => by injection z with z; injection z with z1 z2; injection z2 with z3 z4; injection z4 with z5; cases z5)
theorem mo_row {h : Nat → Int64} (hJ : mo_J G w m ra sa rr op sz f cd) (hk : k < 17) (e : w' = va_up w (rr k) (some (.inl (G.2.1 0, 3000, .inr (.inl h))))) : mo_J G w' m ra sa rr op sz (va_up f k h) cd ∧ mo_F m sa rr w w' := by
  obtain ⟨hm, ⟨g, hra, hg⟩, ⟨fs, hsa, hfs⟩, hrow, hinj⟩ := hJ
  have hr := (hrow k hk).2
  refine ⟨⟨?_, ⟨g, ?_, hg⟩, ⟨fs, ?_, hfs⟩, fun k' hk' => ⟨(hrow k' hk').1, ?_⟩, hinj⟩, fun a h1 h2 h3 => by rw [e, va_up_ne _ _ (h3 k hk)]⟩
  · rw [e, va_up_ne _ _ (Ne.symm (tr_ne_kind hr hm))]; exact hm
  · rw [e, va_up_ne _ _ (Ne.symm (mo_ne3 hr hra))]; exact hra
  · rw [e, va_up_ne _ _ (mo_ne1 hsa hr)]; exact hsa
  · by_cases ek : k' = k
    · rw [ek, va_up_self, e, va_up_self]
    · rw [va_up_ne _ _ ek, e, va_up_ne _ _ (fun z => ek (hinj k' k hk' hk z))]; exact (hrow k' hk').2
theorem mo_siz {fs : Nat → Int32} (hJ : mo_J G w m ra sa rr op sz f cd) (hk : k < 17) (hn : n ≤ 3000) (hs : w sa = some (.inl (G.2.1 4, 17, .inl fs))) (e : w' = va_up w sa (some (.inl (G.2.1 4, 17, .inl (upd fs k (nI n)))))) : mo_J G w' m ra sa rr op (va_up sz k n) f cd ∧ mo_F m sa rr w w' := by
  obtain ⟨hm, ⟨g, hra, hg⟩, ⟨fs', hsa, hfs⟩, hrow, hinj⟩ := hJ
  have ef : fs' = fs := by
    rw [hs] at hsa
    injection hsa with z
    injection z with z
    injection z with z1 z2
    injection z2 with z3 z4
    injection z4 with z5
    exact z5.symm
  subst ef
  refine ⟨⟨?_, ⟨g, ?_, hg⟩, ⟨upd fs' k (nI n), by rw [e, va_up_self], fun k' hk' => ?_⟩, fun k' hk' => ⟨?_, ?_⟩, hinj⟩, fun a h1 h2 h3 => by rw [e, va_up_ne _ _ h2]⟩
  · rw [e, va_up_ne _ _ (Ne.symm (tr_ne_kind hsa hm))]; exact hm
  · rw [e, va_up_ne _ _ (Ne.symm (mo_ne2 hsa hra))]; exact hra
  · by_cases ek : k' = k
    · rw [ek, va_up_self]; exact if_pos rfl
    · rw [va_up_ne _ _ ek]; exact (if_neg ek).trans (hfs k' hk')
  · by_cases ek : k' = k
    · rw [ek, va_up_self]; exact hn
    · rw [va_up_ne _ _ ek]; exact (hrow k' hk').1
  · rw [e, va_up_ne _ _ (Ne.symm (mo_ne1 hsa (hrow k' hk').2))]; exact (hrow k' hk').2
theorem mo_cod (hJ : mo_J G w m ra sa rr op sz f cd) (e : w' = va_up w m (some (.inr (5, [.ref ra, .ref sa, .int (mo_b op'), .int cd'])))) : mo_J G w' m ra sa rr op' sz f cd' ∧ mo_F m sa rr w w' := by
  obtain ⟨hm, ⟨g, hra, hg⟩, ⟨fs, hsa, hfs⟩, hrow, hinj⟩ := hJ
  refine ⟨⟨by rw [e]; exact va_up_self _ _ _, ⟨g, ?_, hg⟩, ⟨fs, ?_, hfs⟩, fun k' hk' => ⟨(hrow k' hk').1, ?_⟩, hinj⟩, fun a h1 h2 h3 => by rw [e, va_up_ne _ _ h1]⟩
  · rw [e, va_up_ne _ _ (tr_ne_kind hra hm)]; exact hra
  · rw [e, va_up_ne _ _ (tr_ne_kind hsa hm)]; exact hsa
  · rw [e, va_up_ne _ _ (tr_ne_kind (hrow k' hk').2 hm)]; exact (hrow k' hk').2
theorem mo_fin {vs : Nat → Nat → Int64} {i : Nat} {h u : Nat → Int64} (hv : ∀ k, k < 17 → ∀ z, z < sz k → f k z = vs k z) (hh : ∀ z, z < n → h z = u z) : ∀ k, k < 17 → ∀ z, z < va_up sz i n k → va_up f i h k z = va_up vs i u k z := by
  intro k hk z hz
  by_cases ek : k = i
  · rw [ek, va_up_self] at hz
    rw [ek, va_up_self, va_up_self]
    exact hh z hz
  · rw [va_up_ne _ _ ek] at hz
    rw [va_up_ne _ _ ek, va_up_ne _ _ ek]
    exact hv k hk z hz
theorem mo_upd {h u : Nat → Int64} {x n : Nat} {v : Int64} (hh : ∀ z, z < n → z ≠ x → h z = u z) : ∀ z, z < n → vp_updL h x v z = va_up u x v z := by
  intro z hz
  by_cases e : z = x
  · rw [e, va_up_self]; exact pk_uLs
  · rw [va_up_ne _ _ e, pk_uLn e]
    exact hh z hz e
end MOL
theorem sp_lt16 {a : Int32} : a < 16 ↔ a ≤ 15 := by
  rw [Int32.lt_iff_toInt_lt, Int32.le_iff_toInt_le, show (16 : Int32).toInt = 16 by decide, show (15 : Int32).toInt = 15 by decide]
  omega
