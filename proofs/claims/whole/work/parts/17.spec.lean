/-! What each call answers and leaves, on sizes and values (16: the builder's). -/
abbrev sp_S : Type := Bool × (Nat → Nat) × (Nat → Nat → Int64)
abbrev sp_R : Type := Nat × Int64 × sp_S
def sp_sl (a : Int32) : Bool := decide (0 ≤ a) && decide (a ≤ 15)
abbrev sp_ix (a : Int32) : Nat := a.toNatClampNeg
def sp_add (S : sp_S) (a b : Int32) (v : Int64) : sp_R := if sp_sl a && sp_sl b then (if S.2.1 (sp_ix b) < 3000 then (0, (nI (S.2.1 (sp_ix b) + 1)).toInt64, S.1, va_up S.2.1 (sp_ix a) (S.2.1 (sp_ix b) + 1), va_up S.2.2 (sp_ix a) (va_up (S.2.2 (sp_ix b)) (S.2.1 (sp_ix b)) v)) else (2, 0, S)) else (1, 0, S)
def sp_ps (f : Nat → Int64) (v : Int64) : Nat → Int64 := fun i => if i = 0 then v else f (i - 1)
def sp_push (S : sp_S) (a b : Int32) (v : Int64) : sp_R := if sp_sl a && sp_sl b then (if S.2.1 (sp_ix b) < 3000 then (0, (nI (S.2.1 (sp_ix b) + 1)).toInt64, S.1, va_up S.2.1 (sp_ix a) (S.2.1 (sp_ix b) + 1), va_up S.2.2 (sp_ix a) (sp_ps (S.2.2 (sp_ix b)) v)) else (2, 0, S)) else (1, 0, S)
def sp_set (S : sp_S) (a b i : Int32) (v : Int64) : sp_R := if sp_sl a && sp_sl b then (if 0 ≤ i ∧ i < nI (S.2.1 (sp_ix b)) then (0, S.2.2 (sp_ix b) (sp_ix i), S.1, va_up S.2.1 (sp_ix a) (S.2.1 (sp_ix b)), va_up S.2.2 (sp_ix a) (va_up (S.2.2 (sp_ix b)) (sp_ix i) v)) else (2, 0, S)) else (1, 0, S)
def sp_at (S : sp_S) (a i : Int32) : sp_R := if sp_sl a then (if 0 ≤ i ∧ i < nI (S.2.1 (sp_ix a)) then (0, S.2.2 (sp_ix a) (sp_ix i), S) else (2, 0, S)) else (1, 0, S)
def sp_cut (S : sp_S) (a b f k : Int32) : sp_R := if (sp_sl a && sp_sl b) && (decide (0 ≤ f) && decide (0 ≤ k)) then (if sp_ix f + sp_ix k ≤ S.2.1 (sp_ix b) then (0, (nI (S.2.1 (sp_ix b) - (sp_ix f + sp_ix k))).toInt64, S.1, va_up S.2.1 (sp_ix a) (S.2.1 (sp_ix b) - (sp_ix f + sp_ix k)), va_up S.2.2 (sp_ix a) (fun i => S.2.2 (sp_ix b) (sp_ix f + i))) else (2, 0, S)) else (1, 0, S)
def sp_fill (S : sp_S) (a : Int32) (x st : Int64) (n : Int32) : sp_R := if sp_sl a && (decide (0 ≤ n) && decide (n ≤ 2000)) then (0, n.toInt64, S.1, va_up S.2.1 (sp_ix a) (sp_ix n), va_up S.2.2 (sp_ix a) (fun i => x + lN i * st)) else (1, 0, S)
def sp_size (S : sp_S) (a : Int32) : sp_R := if sp_sl a then (0, (nI (S.2.1 (sp_ix a))).toInt64, S) else (1, 0, S)
def sp_hs (f : Nat → Int64) : Nat → Int64
  | 0 => 1
  | n + 1 => 31 * sp_hs f n + f n
def sp_hash (S : sp_S) (a : Int32) : sp_R := if sp_sl a then (0, sp_hs (S.2.2 (sp_ix a)) (S.2.1 (sp_ix a)), S) else (1, 0, S)
def sp_opn (S : sp_S) (a : Int32) : sp_R := if sp_sl a then (if S.1 = false then (0, 0, true, va_up S.2.1 16 (S.2.1 (sp_ix a)), va_up S.2.2 16 (S.2.2 (sp_ix a))) else (2, 0, S)) else (1, 0, S)
def sp_build (S : sp_S) (k i : Int32) (v : Int64) : sp_R := if 0 ≤ k ∧ k ≤ 2 then (if S.1 = true then
    (if k = 0 then (if S.2.1 16 < 3000 then (0, (nI (S.2.1 16 + 1)).toInt64, S.1, va_up S.2.1 16 (S.2.1 16 + 1), va_up S.2.2 16 (va_up (S.2.2 16) (S.2.1 16) v)) else (4, 0, S))
     else if k = 1 then (if 0 ≤ i ∧ i < nI (S.2.1 16) then (0, (nI (S.2.1 16)).toInt64, S.1, va_up S.2.1 16 (S.2.1 16), va_up S.2.2 16 (va_up (S.2.2 16) (sp_ix i) v)) else (3, 0, S))
     else (if 0 < S.2.1 16 then (0, (nI (S.2.1 16 - 1)).toInt64, S.1, va_up S.2.1 16 (S.2.1 16 - 1), va_up S.2.2 16 (S.2.2 16)) else (3, 0, S))) else (2, 0, S)) else (1, 0, S)
def sp_freeze (S : sp_S) (a : Int32) : sp_R := if sp_sl a then (if S.1 = true then (0, (nI (S.2.1 16)).toInt64, false, va_up S.2.1 (sp_ix a) (S.2.1 16), va_up S.2.2 (sp_ix a) (S.2.2 16)) else (2, 0, S)) else (1, 0, S)
theorem sp_sl_of {a : Int32} (h : 0 ≤ a ∧ a ≤ 15) : ∃ i : Nat, i < 16 ∧ a = nI i := by
  obtain ⟨j, hj, e⟩ := nI_of2 (n := 15) (by decide) (Int32.not_lt.mpr h.1) h.2
  exact ⟨j, by omega, e⟩
theorem sp_sl_t {i : Nat} (h : i < 16) : sp_sl (nI i) = true := by
  have h1 : 0 ≤ nI i := nI_pos' (by omega)
  have h2 : nI i ≤ 15 := nI_le (b := 15) (by omega) (by omega)
  simp [sp_sl, h1, h2]
theorem sp_sl_f {a : Int32} (h : ¬ (0 ≤ a ∧ a ≤ 15)) : sp_sl a = false := by
  cases e : sp_sl a with
  | false => rfl
  | true => simp [sp_sl] at e; exact absurd e h
theorem sp_ixn {i : Nat} (h : i < 2 ^ 31) : sp_ix (nI i) = i := nI_clamp h
/-- the shelf between calls, at most K drafts made -/
def sh_S (G : g_G) (w : xw_W) (h e0 sl : Nat) (S : sp_S) (K : Nat) : Prop := ∃ L bd g, L ≤ K ∧ sh_I G w h e0 sl S.1 S.2.1 S.2.2 L bd g
theorem sh_app {f : Nat → Int64} {w w' : tr_W} {r t r1 t1 o n : Nat} {v : Int64} (hn : n ≤ 3000) (V : ∀ x, x < 32768 → tr_vl w' r1 t1 (tr_tb o (n + 1)) x = if x = (o + n) % 32768 then v else tr_vl w r t (tr_tb o n) x) (v0 : ∀ i, i < n → tr_vl w r t (tr_tb o n) ((o + i) % 32768) = f i) : ∀ i, i < n + 1 → tr_vl w' r1 t1 (tr_tb o (n + 1)) ((o + i) % 32768) = va_up f n v i := by
  intro i hi
  rw [V _ (by omega)]
  by_cases e : i = n
  · rw [if_pos (by rw [e]), e, va_up_self]
  · rw [if_neg (by omega), va_up_ne _ _ e]
    exact v0 i (by omega)
theorem sh_pre {f : Nat → Int64} {w w' : tr_W} {r t r1 t1 o n : Nat} {v : Int64} (hn : n < 3000) (V : ∀ x, x < 32768 → tr_vl w' r1 t1 (tr_tb ((o + 32767) % 32768) (n + 1)) x = if x = (o + 32767) % 32768 then v else tr_vl w r t (tr_tb o n) x) (v0 : ∀ i, i < n → tr_vl w r t (tr_tb o n) ((o + i) % 32768) = f i) : ∀ i, i < n + 1 → tr_vl w' r1 t1 (tr_tb ((o + 32767) % 32768) (n + 1)) (((o + 32767) % 32768 + i) % 32768) = sp_ps f v i := by
  intro i hi
  rw [V _ (by omega)]
  unfold sp_ps
  by_cases e : i = 0
  · rw [if_pos (by omega), if_pos e]
  · rw [if_neg (by omega), if_neg e, ← v0 (i - 1) (by omega), show ((o + 32767) % 32768 + i) % 32768 = (o + (i - 1)) % 32768 by omega]
theorem sh_rep {f : Nat → Int64} {w w' : tr_W} {r t r1 t1 o n j : Nat} {v : Int64} (hn : n ≤ 3000) (hj : j < n) (V : ∀ x, x < 32768 → tr_vl w' r1 t1 (tr_tb o n) x = if x = (o + j) % 32768 then v else tr_vl w r t (tr_tb o n) x) (v0 : ∀ i, i < n → tr_vl w r t (tr_tb o n) ((o + i) % 32768) = f i) : ∀ i, i < n → tr_vl w' r1 t1 (tr_tb o n) ((o + i) % 32768) = va_up f j v i := by
  intro i hi
  rw [V _ (by omega)]
  by_cases e : i = j
  · rw [if_pos (by rw [e]), e, va_up_self]
  · rw [if_neg (by omega), va_up_ne _ _ e]
    exact v0 i hi
section SPL
variable {op : Bool} {sz : Nat → Nat} {vs : Nat → Nat → Int64} {i j : Nat} {a b : Int32} {v : Int64}
theorem sp_add_1 (h : ¬ (0 ≤ a ∧ a ≤ 15) ∨ ¬ (0 ≤ b ∧ b ≤ 15)) : sp_add (op, sz, vs) a b v = (1, 0, op, sz, vs) := by
  rcases h with h | h <;> simp [sp_add, sp_sl_f h]
theorem sp_add_2 (hi : i < 16) (hj : j < 16) (h : ¬ sz j < 3000) : sp_add (op, sz, vs) (nI i) (nI j) v = (2, 0, op, sz, vs) := by
  simp only [sp_add, sp_sl_t hi, sp_sl_t hj, Bool.and_self, if_true, sp_ixn (show i < 2 ^ 31 by omega), sp_ixn (show j < 2 ^ 31 by omega), if_neg h]
theorem sp_add_0 (hi : i < 16) (hj : j < 16) (h : sz j < 3000) : sp_add (op, sz, vs) (nI i) (nI j) v = (0, (nI (sz j + 1)).toInt64, op, va_up sz i (sz j + 1), va_up vs i (va_up (vs j) (sz j) v)) := by
  simp only [sp_add, sp_sl_t hi, sp_sl_t hj, Bool.and_self, if_true, sp_ixn (show i < 2 ^ 31 by omega), sp_ixn (show j < 2 ^ 31 by omega), if_pos h]
theorem sp_push_1 (h : ¬ (0 ≤ a ∧ a ≤ 15) ∨ ¬ (0 ≤ b ∧ b ≤ 15)) : sp_push (op, sz, vs) a b v = (1, 0, op, sz, vs) := by
  rcases h with h | h <;> simp [sp_push, sp_sl_f h]
theorem sp_push_2 (hi : i < 16) (hj : j < 16) (h : ¬ sz j < 3000) : sp_push (op, sz, vs) (nI i) (nI j) v = (2, 0, op, sz, vs) := by
  simp only [sp_push, sp_sl_t hi, sp_sl_t hj, Bool.and_self, if_true, sp_ixn (show i < 2 ^ 31 by omega), sp_ixn (show j < 2 ^ 31 by omega), if_neg h]
theorem sp_push_0 (hi : i < 16) (hj : j < 16) (h : sz j < 3000) : sp_push (op, sz, vs) (nI i) (nI j) v = (0, (nI (sz j + 1)).toInt64, op, va_up sz i (sz j + 1), va_up vs i (sp_ps (vs j) v)) := by
  simp only [sp_push, sp_sl_t hi, sp_sl_t hj, Bool.and_self, if_true, sp_ixn (show i < 2 ^ 31 by omega), sp_ixn (show j < 2 ^ 31 by omega), if_pos h]
variable {k : Int32} {x : Nat}
theorem sp_set_1 (h : ¬ (0 ≤ a ∧ a ≤ 15) ∨ ¬ (0 ≤ b ∧ b ≤ 15)) : sp_set (op, sz, vs) a b k v = (1, 0, op, sz, vs) := by
  rcases h with h | h <;> simp [sp_set, sp_sl_f h]
theorem sp_set_2 (hi : i < 16) (hj : j < 16) (h : ¬ (0 ≤ k ∧ k < nI (sz j))) : sp_set (op, sz, vs) (nI i) (nI j) k v = (2, 0, op, sz, vs) := by
  simp only [sp_set, sp_sl_t hi, sp_sl_t hj, Bool.and_self, if_true, sp_ixn (show i < 2 ^ 31 by omega), sp_ixn (show j < 2 ^ 31 by omega), if_neg h]
theorem sp_el {n x : Nat} (hn : n ≤ 3000) (h : x < n) : 0 ≤ nI x ∧ nI x < nI n := ⟨nI_pos' (by omega), nI_lt h (by omega)⟩
theorem sp_elo {n : Nat} {k : Int32} (hn : n ≤ 3000) (h : 0 ≤ k ∧ k < nI n) : ∃ x, x < n ∧ k = nI x := by
  obtain ⟨x, hx, e⟩ := nI_of (Int32.not_lt.mpr h.1)
  subst e
  exact ⟨x, (nI_ltI hx (by omega)).mp h.2, rfl⟩
theorem sp_set_0 (hi : i < 16) (hj : j < 16) (hn : sz j ≤ 3000) (h : x < sz j) : sp_set (op, sz, vs) (nI i) (nI j) (nI x) v = (0, vs j x, op, va_up sz i (sz j), va_up vs i (va_up (vs j) x v)) := by
  simp only [sp_set, sp_sl_t hi, sp_sl_t hj, Bool.and_self, if_true, sp_ixn (show i < 2 ^ 31 by omega), sp_ixn (show j < 2 ^ 31 by omega), if_pos (sp_el hn h), sp_ixn (show x < 2 ^ 31 by omega)]
theorem sp_at_1 (h : ¬ (0 ≤ a ∧ a ≤ 15)) : sp_at (op, sz, vs) a k = (1, 0, op, sz, vs) := by simp [sp_at, sp_sl_f h]
theorem sp_at_2 (hi : i < 16) (h : ¬ (0 ≤ k ∧ k < nI (sz i))) : sp_at (op, sz, vs) (nI i) k = (2, 0, op, sz, vs) := by
  simp only [sp_at, sp_sl_t hi, if_true, sp_ixn (show i < 2 ^ 31 by omega), if_neg h]
theorem sp_at_0 (hi : i < 16) (hn : sz i ≤ 3000) (h : x < sz i) : sp_at (op, sz, vs) (nI i) (nI x) = (0, vs i x, op, sz, vs) := by
  simp only [sp_at, sp_sl_t hi, if_true, sp_ixn (show i < 2 ^ 31 by omega), if_pos (sp_el hn h), sp_ixn (show x < 2 ^ 31 by omega)]
variable {f g : Int32} {y : Nat}
theorem sp_cut_1 (h : ¬ (0 ≤ a ∧ a ≤ 15) ∨ ¬ (0 ≤ b ∧ b ≤ 15) ∨ ¬ 0 ≤ f ∨ ¬ 0 ≤ g) : sp_cut (op, sz, vs) a b f g = (1, 0, op, sz, vs) := by
  rcases h with h | h | h | h
  · simp [sp_cut, sp_sl_f h]
  · simp [sp_cut, sp_sl_f h]
  · simp [sp_cut, h]
  · simp [sp_cut, h]
theorem sp_cut_2 (hi : i < 16) (hj : j < 16) (hx : x < 2 ^ 31) (hy : y < 2 ^ 31) (h : ¬ x + y ≤ sz j) : sp_cut (op, sz, vs) (nI i) (nI j) (nI x) (nI y) = (2, 0, op, sz, vs) := by
  simp only [sp_cut, sp_sl_t hi, sp_sl_t hj, Bool.and_self, if_true, sp_ixn (show i < 2 ^ 31 by omega), sp_ixn (show j < 2 ^ 31 by omega), sp_ixn hx, sp_ixn hy, decide_eq_true (nI_pos' hx), decide_eq_true (nI_pos' hy), if_neg h]
theorem sp_cut_0 (hi : i < 16) (hj : j < 16) (hx : x < 2 ^ 31) (hy : y < 2 ^ 31) (h : x + y ≤ sz j) : sp_cut (op, sz, vs) (nI i) (nI j) (nI x) (nI y) = (0, (nI (sz j - (x + y))).toInt64, op, va_up sz i (sz j - (x + y)), va_up vs i (fun z => vs j (x + z))) := by
  simp only [sp_cut, sp_sl_t hi, sp_sl_t hj, Bool.and_self, if_true, sp_ixn (show i < 2 ^ 31 by omega), sp_ixn (show j < 2 ^ 31 by omega), sp_ixn hx, sp_ixn hy, decide_eq_true (nI_pos' hx), decide_eq_true (nI_pos' hy), if_pos h]
variable {p q : Int64} {n : Int32}
theorem sp_fill_1 (h : ¬ (0 ≤ a ∧ a ≤ 15) ∨ ¬ (0 ≤ n ∧ n ≤ 2000)) : sp_fill (op, sz, vs) a p q n = (1, 0, op, sz, vs) := by
  rcases h with h | h
  · simp [sp_fill, sp_sl_f h]
  · have e : (decide (0 ≤ n) && decide (n ≤ 2000)) = false := by
      cases e : (decide (0 ≤ n) && decide (n ≤ 2000)) with
      | false => rfl
      | true => simp at e; exact absurd e h
    simp [sp_fill, e]
theorem sp_fill_0 (hi : i < 16) (hx : x ≤ 2000) : sp_fill (op, sz, vs) (nI i) p q (nI x) = (0, (nI x).toInt64, op, va_up sz i x, va_up vs i (fun z => p + lN z * q)) := by
  simp only [sp_fill, sp_sl_t hi, Bool.and_self, if_true, sp_ixn (show i < 2 ^ 31 by omega), sp_ixn (show x < 2 ^ 31 by omega), decide_eq_true (nI_pos' (show x < 2 ^ 31 by omega)), decide_eq_true (show nI x ≤ 2000 from nI_le (b := 2000) hx (by omega))]
theorem sp_size_1 (h : ¬ (0 ≤ a ∧ a ≤ 15)) : sp_size (op, sz, vs) a = (1, 0, op, sz, vs) := by simp [sp_size, sp_sl_f h]
theorem sp_size_0 (hi : i < 16) : sp_size (op, sz, vs) (nI i) = (0, (nI (sz i)).toInt64, op, sz, vs) := by simp only [sp_size, sp_sl_t hi, if_true, sp_ixn (show i < 2 ^ 31 by omega)]
theorem sp_hash_1 (h : ¬ (0 ≤ a ∧ a ≤ 15)) : sp_hash (op, sz, vs) a = (1, 0, op, sz, vs) := by simp [sp_hash, sp_sl_f h]
theorem sp_hash_0 (hi : i < 16) : sp_hash (op, sz, vs) (nI i) = (0, sp_hs (vs i) (sz i), op, sz, vs) := by simp only [sp_hash, sp_sl_t hi, if_true, sp_ixn (show i < 2 ^ 31 by omega)]
theorem sp_opn_1 (h : ¬ (0 ≤ a ∧ a ≤ 15)) : sp_opn (op, sz, vs) a = (1, 0, op, sz, vs) := by simp [sp_opn, sp_sl_f h]
theorem sp_opn_2 (hi : i < 16) : sp_opn (true, sz, vs) (nI i) = (2, 0, true, sz, vs) := by simp [sp_opn, sp_sl_t hi]
theorem sp_opn_0 (hi : i < 16) : sp_opn (false, sz, vs) (nI i) = (0, 0, true, va_up sz 16 (sz i), va_up vs 16 (vs i)) := by simp only [sp_opn, sp_sl_t hi, if_true, sp_ixn (show i < 2 ^ 31 by omega)]
theorem sp_freeze_1 (h : ¬ (0 ≤ a ∧ a ≤ 15)) : sp_freeze (op, sz, vs) a = (1, 0, op, sz, vs) := by simp [sp_freeze, sp_sl_f h]
theorem sp_freeze_2 (hi : i < 16) : sp_freeze (false, sz, vs) (nI i) = (2, 0, false, sz, vs) := by simp [sp_freeze, sp_sl_t hi]
theorem sp_freeze_0 (hi : i < 16) : sp_freeze (true, sz, vs) (nI i) = (0, (nI (sz 16)).toInt64, false, va_up sz i (sz 16), va_up vs i (vs 16)) := by simp only [sp_freeze, sp_sl_t hi, if_true, sp_ixn (show i < 2 ^ 31 by omega)]
theorem sp_build_1 (h : ¬ (0 ≤ k ∧ k ≤ 2)) : sp_build (op, sz, vs) k a v = (1, 0, op, sz, vs) := by simp only [sp_build, if_neg h]
theorem sp_build_2 (h : 0 ≤ k ∧ k ≤ 2) : sp_build (false, sz, vs) k a v = (2, 0, false, sz, vs) := by simp [sp_build, h]
theorem sp_build_4 (h : ¬ sz 16 < 3000) : sp_build (true, sz, vs) 0 a v = (4, 0, true, sz, vs) := by simp [sp_build, h]
theorem sp_build_00 (h : sz 16 < 3000) : sp_build (true, sz, vs) 0 a v = (0, (nI (sz 16 + 1)).toInt64, true, va_up sz 16 (sz 16 + 1), va_up vs 16 (va_up (vs 16) (sz 16) v)) := by simp [sp_build, h]
theorem sp_build_31 (h : ¬ (0 ≤ a ∧ a < nI (sz 16))) : sp_build (true, sz, vs) 1 a v = (3, 0, true, sz, vs) := by
  simp only [sp_build]
  rw [if_pos (by decide), if_pos trivial, if_neg (by decide), if_pos trivial, if_neg h]
theorem sp_build_01 (hn : sz 16 ≤ 3000) (h : x < sz 16) : sp_build (true, sz, vs) 1 (nI x) v = (0, (nI (sz 16)).toInt64, true, va_up sz 16 (sz 16), va_up vs 16 (va_up (vs 16) x v)) := by
  simp only [sp_build]
  rw [if_pos (by decide), if_pos trivial, if_neg (by decide), if_pos trivial, if_pos (sp_el hn h), sp_ixn (show x < 2 ^ 31 by omega)]
theorem sp_k2 (h : 0 ≤ k ∧ k ≤ 2) (h0 : ¬ k = 0) (h1 : ¬ k = 1) : k = 2 := by
  obtain ⟨z, hz, e⟩ := nI_of2 (n := 2) (by decide) (Int32.not_lt.mpr h.1) h.2
  subst e
  rcases (show z = 0 ∨ z = 1 ∨ z = 2 by omega) with rfl | rfl | rfl
  · exact absurd rfl h0
  · exact absurd rfl h1
  · rfl
theorem sp_build_32 (h : ¬ 0 < sz 16) : sp_build (true, sz, vs) 2 a v = (3, 0, true, sz, vs) := by
  simp only [sp_build]
  rw [if_pos (by decide), if_pos trivial, if_neg (by decide), if_neg (by decide), if_neg h]
theorem sp_build_02 (h : 0 < sz 16) : sp_build (true, sz, vs) 2 a v = (0, (nI (sz 16 - 1)).toInt64, true, va_up sz 16 (sz 16 - 1), va_up vs 16 (vs 16)) := by
  simp only [sp_build]
  rw [if_pos (by decide), if_pos trivial, if_neg (by decide), if_neg (by decide), if_pos h]
end SPL
