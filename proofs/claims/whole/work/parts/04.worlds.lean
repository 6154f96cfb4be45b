/-! Worlds as maps from addresses to cells: one row an instruction over them, out of the kit's rows over lists. All cells of a world lie at b or above; nothing below b is ever written. -/
abbrev xw_A (b : Nat) : Nat → Prop := fun q => b ≤ q
abbrev xw_W : Type := Nat → Option va_E
def xw_P (D : va_G) (cl : List vw_C) (b : Nat) (w : xw_W) (H : Heap) : Prop := b ≤ H.size ∧ ∃ ws : va_W, va_P D cl ws H ∧ va_D (xw_A b) ws ∧ ∀ (a : Nat) (e : va_E), w a = some e ↔ ∃ k : Nat, ws[k]? = some (a, e)
theorem xw_set {A : Nat → Prop} {w : xw_W} {ws : va_W} {a k : Nat} {e0 e1 : va_E} (hD : va_D A ws) (hk : ws[k]? = some (a, e0)) (hw : ∀ (a : Nat) (e : va_E), w a = some e ↔ ∃ k : Nat, ws[k]? = some (a, e)) : ∀ (a' : Nat) (e' : va_E), va_up w a (some e1) a' = some e' ↔ ∃ k' : Nat, (ws.set k (a, e1))[k']? = some (a', e') := by
  intro a' e'
  have hl : k < ws.length := (List.getElem?_eq_some_iff.mp hk).1
  by_cases h : a' = a
  · subst h
    rw [va_up_self]
    constructor
    · intro he
      cases he
      exact ⟨k, by rw [List.getElem?_set_self hl]⟩
    · rintro ⟨k', hk'⟩
      by_cases hkk : k' = k
      · subst hkk
        rw [List.getElem?_set_self hl] at hk'
        cases hk'
        rfl
      · rw [List.getElem?_set_ne (fun z => hkk z.symm)] at hk'
        exact absurd (hD.1 k' k _ _ hk' hk rfl) hkk
  · rw [va_up_ne _ _ h, hw a' e']
    constructor
    · rintro ⟨k', hk'⟩
      have hkk : k' ≠ k := by
        intro z
        subst z
        rw [hk] at hk'
        cases hk'
        exact h rfl
      exact ⟨k', by rw [List.getElem?_set_ne (fun z => hkk z.symm)]; exact hk'⟩
    · rintro ⟨k', hk'⟩
      by_cases hkk : k' = k
      · subst hkk
        rw [List.getElem?_set_self hl] at hk'
        cases hk'
        exact absurd rfl h
      · rw [List.getElem?_set_ne (fun z => hkk z.symm)] at hk'
        exact ⟨k', hk'⟩
theorem xw_fresh {A : Nat → Prop} {w : xw_W} {ws : va_W} {q : Nat} {e : va_E} (hD : va_D A (ws ++ [(q, e)])) (hw : ∀ (a : Nat) (e : va_E), w a = some e ↔ ∃ k : Nat, ws[k]? = some (a, e)) : w q = none := by
  cases h : w q with
  | none => rfl
  | some e0 =>
    obtain ⟨k, hk⟩ := (hw q e0).mp h
    have hl : k < ws.length := (List.getElem?_eq_some_iff.mp hk).1
    have h1 : (ws ++ [(q, e)])[k]? = some (q, e0) := by rw [List.getElem?_append_left hl]; exact hk
    have h2 : (ws ++ [(q, e)])[ws.length]? = some (q, e) := by rw [List.getElem?_append_right (Nat.le_refl _), Nat.sub_self]; rfl
    have := hD.1 k ws.length _ _ h1 h2 rfl
    omega
theorem xw_push {A : Nat → Prop} {w : xw_W} {ws : va_W} {q : Nat} {e : va_E} (hD : va_D A (ws ++ [(q, e)])) (hw : ∀ (a : Nat) (e : va_E), w a = some e ↔ ∃ k : Nat, ws[k]? = some (a, e)) : ∀ (a' : Nat) (e' : va_E), va_up w q (some e) a' = some e' ↔ ∃ k' : Nat, (ws ++ [(q, e)])[k']? = some (a', e') := by
  intro a' e'
  have hq := xw_fresh hD hw
  have h2 : (ws ++ [(q, e)])[ws.length]? = some (q, e) := by rw [List.getElem?_append_right (Nat.le_refl _), Nat.sub_self]; rfl
  by_cases h : a' = q
  · subst h
    rw [va_up_self]
    constructor
    · intro he
      cases he
      exact ⟨ws.length, h2⟩
    · rintro ⟨k', hk'⟩
      have := hD.1 k' ws.length _ _ hk' h2 rfl
      subst this
      rw [h2] at hk'
      cases hk'
      rfl
  · rw [va_up_ne _ _ h, hw a' e']
    constructor
    · rintro ⟨k', hk'⟩
      have hl : k' < ws.length := (List.getElem?_eq_some_iff.mp hk').1
      exact ⟨k', by rw [List.getElem?_append_left hl]; exact hk'⟩
    · rintro ⟨k', hk'⟩
      by_cases hl : k' < ws.length
      · rw [List.getElem?_append_left hl] at hk'
        exact ⟨k', hk'⟩
      · have hl2 : k' < (ws ++ [(q, e)]).length := (List.getElem?_eq_some_iff.mp hk').1
        simp at hl2
        have : k' = ws.length := by omega
        subst this
        rw [h2] at hk'
        cases hk'
        exact absurd rfl h
theorem xw_P.at {D : va_G} {cl : List vw_C} {b : Nat} {w : xw_W} {H : Heap} {a : Nat} {e : va_E} (h : xw_P D cl b w H) (ha : w a = some e) : va_at D cl (a, e) H := by
  obtain ⟨-, ws, hP, -, hw⟩ := h
  obtain ⟨k, hk⟩ := (hw a e).mp ha
  exact hP k _ hk
theorem xw_P.one {D : va_G} {cl : List vw_C} {b : Nat} {w : xw_W} {H : Heap} {a : Nat} {e : va_E} (h : xw_P D cl b w H) (ha : w a = some e) : va_P D cl [(a, e)] H := by
  intro k q hk
  have hz : k < 1 := (List.getElem?_eq_some_iff.mp hk).1
  rw [show k = 0 by omega] at hk
  cases hk
  exact h.at ha
theorem xw_P.base {D : va_G} {cl : List vw_C} {b : Nat} {w : xw_W} {H : Heap} {a : Nat} {e : va_E} (h : xw_P D cl b w H) (ha : w a = some e) : b ≤ a := by
  obtain ⟨-, ws, -, hD, hw⟩ := h
  obtain ⟨k, hk⟩ := (hw a e).mp ha
  exact hD.2 k _ hk
theorem xw_P.lt {D : va_G} {cl : List vw_C} {b : Nat} {w : xw_W} {H : Heap} {a : Nat} {e : va_E} (h : xw_P D cl b w H) (ha : w a = some e) : a < H.size := (h.at ha).lt
theorem xw_P.none {D : va_G} {cl : List vw_C} {b : Nat} {H : Heap} (hb : b ≤ H.size) : xw_P D cl b (fun _ => none) H := by
  refine ⟨hb, [], fun k q hk => by simp at hk, ⟨fun i j p q hi => by simp at hi, fun k q hk => by simp at hk⟩, fun a e => ?_⟩
  constructor
  · intro h; cases h
  · rintro ⟨k, hk⟩; simp at hk
/-- cells made elsewhere: the world stays -/
theorem xw_P.grow {D : va_G} {cl : List vw_C} {b : Nat} {w : xw_W} {H H1 : Heap} (h : xw_P D cl b w H) (hz : H.size ≤ H1.size) (hk : ∀ q : Nat, q < H.size → H1[q]? = H[q]?) : xw_P D cl b w H1 := by
  obtain ⟨hb, ws, hP, hD, hw⟩ := h
  exact ⟨Nat.le_trans hb hz, ws, fun k q hq => (hP k q hq).kept (hk q.1 (hP k q hq).lt), hD, hw⟩
section XWR
variable {p : Program} {l : Launch} {e : Env} {R : Room} {s : State} {m : MethodId} {args : Array Value} {below : List Frame} {meth : Method} {c : Code} {H : Heap} {locs : List Loc} {cells slots : Nat} {Q : State → Prop}
variable {cc : ByteArray} {pc : Nat} {ls : Array Slot} {rest : List Value} {D : va_G} {cl : List vw_C} {a b : Nat} {tys : List (ClassId × FieldType)} {w : xw_W} {H0 : Heap}
theorem xw_get (hexec : p.tables.exec = Jvm.exec) (hb : c.code = cc) {own ref C : String} {T : u_T} {N ci index : Nat} {Ts : List Cond} (hts : ∀ w ∈ Ts, w.before args s = true) (hin : ∀ w ∈ u_ws C T N, w ∈ Ts) (hown : s.vm.findClass own = some m.cls) (hK : va_K D cl tys s) (hW : xw_P D cl b w H) {fs : List Value} (he : w a = some (.inr (ci, fs))) (hc : cl[ci]? = some (C, T, N)) (k : Nat) (hk : k < N) (hlink : (Cond.fieldLink own index ref (T k).2.1 (T k).2.2.1).before args s = true) (hsame : ∀ x, s.fieldFound? (T k).1 (T k).2.1 (T k).2.2.1 = some x → s.fieldFound? ref (T k).2.1 (T k).2.2.1 = some x) {v : Value} (hv : fs[k]? = some v) (hdg : decode cc pc = .ok (.getfield index, 3))
    (kk : W p l e R s m args below meth c H locs cells slots Q (F0 m (pc + 3) ls (v :: rest))) : W p l e R s m args below meth c H locs cells slots Q (F0 m pc ls (.ref a :: rest)) :=
  va_get hexec hb hts hin hown hK (hW.one he) 0 rfl hc k hk hlink hsame hv hdg kk
theorem xw_put (hexec : p.tables.exec = Jvm.exec) (hb : c.code = cc) {own ref C : String} {T : u_T} {N ci index : Nat} {Ts : List Cond} (hts : ∀ w ∈ Ts, w.before args s = true) (hin : ∀ w ∈ u_ws C T N, w ∈ Ts) (ty0 : Nat → FieldType) (hty : ∀ k, k < N → parseFieldDescriptor (T k).2.2.1 = some (ty0 k)) (hnm : ∀ a, a < N → ∀ b, b < N → a ≠ b → (T a).2.1 ≠ (T b).2.1) (hown : s.vm.findClass own = some m.cls) (hK : va_K D cl tys s) (hB : b ≤ H0.size) (hW : xw_P D cl b w H) (hS : va_S (xw_A b) H0 H locs) {fs : List Value} (he : w a = some (.inr (ci, fs))) (hc : cl[ci]? = some (C, T, N)) (k : Nat) (hk : k < N) (hlink : (Cond.fieldLink own index ref (T k).2.1 (T k).2.2.1).before args s = true) (hsame : ∀ x, s.fieldFound? (T k).1 (T k).2.1 (T k).2.2.1 = some x → s.fieldFound? ref (T k).2.1 (T k).2.2.1 = some x) (hfin : (T k).2.2.2 = false) {ty : FieldType} {v : Value} (hd : parseFieldDescriptor (T k).2.2.1 = some ty) (hn : narrow ty v = v) (hfit : fits ty v = true) (hl : k < fs.length)
    (hdg : decode cc pc = .ok (.putfield index, 3)) (kk : ∀ (H1 : Heap) (locs1 : List Loc), xw_P D cl b (va_up w a (some (.inr (ci, fs.set k v)))) H1 → va_S (xw_A b) H0 H1 locs1 → W p l e R s m args below meth c H1 locs1 cells slots Q (F0 m (pc + 3) ls rest)) : W p l e R s m args below meth c H locs cells slots Q (F0 m pc ls (v :: .ref a :: rest)) := by
  obtain ⟨-, ws, hP, hD, hw⟩ := hW
  obtain ⟨k0, hk0⟩ := (hw a _).mp he
  exact va_put hexec hb hts hin ty0 hty hnm hown hK hP hD hS k0 hk0 hc k hk hlink hsame hfin hd hn hfit hl hdg (fun H1 locs1 hP1 hD1 hS1 => kk H1 locs1 ⟨Nat.le_trans hB hS1.1, _, hP1, hD1, xw_set hD hk0 hw⟩ hS1)
theorem xw_putF (hexec : p.tables.exec = Jvm.exec) (hb : c.code = cc) {own ref C : String} {T : u_T} {N ci index : Nat} {Ts : List Cond} (hts : ∀ w ∈ Ts, w.before args s = true) (hin : ∀ w ∈ u_ws C T N, w ∈ Ts) (ty0 : Nat → FieldType) (hty : ∀ k, k < N → parseFieldDescriptor (T k).2.2.1 = some (ty0 k)) (hnm : ∀ a, a < N → ∀ b, b < N → a ≠ b → (T a).2.1 ≠ (T b).2.1) (hown : s.vm.findClass own = some m.cls) (hK : va_K D cl tys s) (hB : b ≤ H0.size) (hW : xw_P D cl b w H) (hS : va_S (xw_A b) H0 H locs) {fs : List Value} (he : w a = some (.inr (ci, fs))) (hc : cl[ci]? = some (C, T, N)) (k : Nat) (hk : k < N) (hlink : (Cond.fieldLink own index ref (T k).2.1 (T k).2.2.1).before args s = true) (hsame : ∀ x, s.fieldFound? (T k).1 (T k).2.1 (T k).2.2.1 = some x → s.fieldFound? ref (T k).2.1 (T k).2.2.1 = some x) (hfin : (T k).2.2.2 = true) (hin2 : meth.name = "<init>") (hdecl : (T k).1 = own) {ty : FieldType} {v : Value} (hd : parseFieldDescriptor (T k).2.2.1 = some ty) (hn : narrow ty v = v) (hfit : fits ty v = true) (hl : k < fs.length)
    (hdg : decode cc pc = .ok (.putfield index, 3)) (kk : ∀ (H1 : Heap) (locs1 : List Loc), xw_P D cl b (va_up w a (some (.inr (ci, fs.set k v)))) H1 → va_S (xw_A b) H0 H1 locs1 → W p l e R s m args below meth c H1 locs1 cells slots Q (F0 m (pc + 3) ls rest)) : W p l e R s m args below meth c H locs cells slots Q (F0 m pc ls (v :: .ref a :: rest)) := by
  obtain ⟨-, ws, hP, hD, hw⟩ := hW
  obtain ⟨k0, hk0⟩ := (hw a _).mp he
  exact va_putF hexec hb hts hin ty0 hty hnm hown hK hP hD hS k0 hk0 hc k hk hlink hsame hfin hin2 hdecl hd hn hfit hl hdg (fun H1 locs1 hP1 hD1 hS1 => kk H1 locs1 ⟨Nat.le_trans hB hS1.1, _, hP1, hD1, xw_set hD hk0 hw⟩ hS1)
theorem xw_new (hexec : p.tables.exec = Jvm.exec) (hb : c.code = cc) {own C : String} {T : u_T} {N ci index : Nat} {Ts : List Cond} (hts : ∀ w ∈ Ts, w.before args s = true) (hin : ∀ w ∈ u_ws C T N, w ∈ Ts) (ty : Nat → FieldType) (hty : ∀ k, k < N → parseFieldDescriptor (T k).2.2.1 = some (ty k)) (hown : s.vm.findClass own = some m.cls) (hcl : (Cond.classLink own index C).before args s = true) (hinst : (Cond.instantiable C N).before args s = true) (hini : (Cond.initialized C).before args s = true)
    (hK : va_K D cl tys s) (hB : b ≤ H0.size) (hW : xw_P D cl b w H) (hS : va_S (xw_A b) H0 H locs) (hc : cl[ci]? = some (C, T, N)) {fs : List Value} (hfs : ∀ j, j < N → defaultValue (ty j) = vp_V fs j) (hcells : cells + 1 ≤ R.cells) (hslots : slots + N ≤ R.slots) (hdg : decode cc pc = .ok (.new index, 3))
    (kk : ∀ (q : Nat) (H1 : Heap), w q = none → xw_P D cl b (va_up w q (some (.inr (ci, fs)))) H1 → va_S (xw_A b) H0 H1 locs →
      W p l e R s m args below meth c H1 locs (cells + 1) (slots + N) Q (F0 m (pc + 3) ls (.ref q :: rest))) : W p l e R s m args below meth c H locs cells slots Q (F0 m pc ls rest) := by
  obtain ⟨-, ws, hP, hD, hw⟩ := hW
  exact va_new hexec hb hts hin ty hty hown hcl hinst hini hK hP hD hS (fun q hq => Nat.le_trans hB hq) hc hfs hcells hslots hdg (fun q H1 hP1 hD1 hS1 => kk q H1 (xw_fresh hD1 hw) ⟨Nat.le_trans hB hS1.1, _, hP1, hD1, xw_push hD1 hw⟩ hS1)
theorem xw_iald (hexec : p.tables.exec = Jvm.exec) (hb : c.code = cc) (hK : va_K D cl tys s) (hW : xw_P D cl b w H) (t0 : Nat) {cA : ClassId} {n : Nat} {f : Nat → Int32} (ha : w a = some (.inl (cA, n, .inl f))) (ht : tys[t0]? = some (cA, .int)) {i : Int32} (hin : vp_in i n) (hdg : decode cc pc = .ok (.iaload, 1))
    (kk : W p l e R s m args below meth c H locs cells slots Q (F0 m (pc + 1) ls (.int (f i.toNatClampNeg) :: rest))) : W p l e R s m args below meth c H locs cells slots Q (F0 m pc ls (.int i :: .ref a :: rest)) :=
  va_iald hexec hb hK (hW.one ha) 0 t0 rfl ht hin hdg kk
theorem xw_lald (hexec : p.tables.exec = Jvm.exec) (hb : c.code = cc) (hK : va_K D cl tys s) (hW : xw_P D cl b w H) (t0 : Nat) {cA : ClassId} {n : Nat} {f : Nat → Int64} (ha : w a = some (.inl (cA, n, .inr (.inl f)))) (ht : tys[t0]? = some (cA, .long)) {i : Int32} (hin : vp_in i n) (hdg : decode cc pc = .ok (.laload, 1))
    (kk : W p l e R s m args below meth c H locs cells slots Q (F0 m (pc + 1) ls (.long (f i.toNatClampNeg) :: rest))) : W p l e R s m args below meth c H locs cells slots Q (F0 m pc ls (.int i :: .ref a :: rest)) :=
  va_lald hexec hb hK (hW.one ha) 0 t0 rfl ht hin hdg kk
theorem xw_aald (hexec : p.tables.exec = Jvm.exec) (hb : c.code = cc) (hK : va_K D cl tys s) (hW : xw_P D cl b w H) (t0 : Nat) {cA : ClassId} {C : String} {n : Nat} {f : Nat → Option Nat} (ha : w a = some (.inl (cA, n, .inr (.inr (.inr (.inr f)))))) (ht : tys[t0]? = some (cA, .object C)) {i : Int32} {y : Nat} (hin : vp_in i n) (hy : f i.toNatClampNeg = some y) (hdg : decode cc pc = .ok (.aaload, 1))
    (kk : W p l e R s m args below meth c H locs cells slots Q (F0 m (pc + 1) ls (.ref y :: rest))) : W p l e R s m args below meth c H locs cells slots Q (F0 m pc ls (.int i :: .ref a :: rest)) := by
  refine va_aldq hexec hb hK (hW.one ha) 0 t0 rfl ht hin hdg ?_
  rw [hy]
  exact kk
/-- .. out of an array of arrays -/
theorem xw_aaldA (hexec : p.tables.exec = Jvm.exec) (hb : c.code = cc) (hK : va_K D cl tys s) (hW : xw_P D cl b w H) (t0 : Nat) {cA : ClassId} {ty : FieldType} {n : Nat} {f : Nat → Option Nat} (ha : w a = some (.inl (cA, n, .inr (.inr (.inr (.inr f)))))) (ht : tys[t0]? = some (cA, .array ty)) {i : Int32} {y : Nat} (hin : vp_in i n) (hy : f i.toNatClampNeg = some y) (hdg : decode cc pc = .ok (.aaload, 1))
    (kk : W p l e R s m args below meth c H locs cells slots Q (F0 m (pc + 1) ls (.ref y :: rest))) : W p l e R s m args below meth c H locs cells slots Q (F0 m pc ls (.int i :: .ref a :: rest)) := by
  have hlt : i.toNatClampNeg < n := Nat.not_le.mp fun q => hin (Or.inr q)
  refine W.aald (v := va_rf (f i.toNatClampNeg)) (ty := .array ty) hexec hb (hW.at ha) ((hK.2 t0 _ ht).1 n (fun j => va_rf (f j))) rfl (fun q => by cases q) (by show ¬ (i < 0 ∨ (arrV _ _ _).slots.size ≤ _); rw [arrV_size]; exact hin) (by show (arrV _ _ _).slots[_]? = _; rw [arrV_read _ _ hlt]) rfl rfl hdg ?_
  rw [hy]
  exact kk
theorem xw_iast (hexec : p.tables.exec = Jvm.exec) (hb : c.code = cc) (hK : va_K D cl tys s) (hB : b ≤ H0.size) (hW : xw_P D cl b w H) (hS : va_S (xw_A b) H0 H locs) (t0 : Nat) {cA : ClassId} {n : Nat} {f : Nat → Int32} (ha : w a = some (.inl (cA, n, .inl f))) (ht : tys[t0]? = some (cA, .int)) {i x : Int32} (hin : vp_in i n) (hdg : decode cc pc = .ok (.iastore, 1))
    (kk : ∀ (H1 : Heap) (locs1 : List Loc), xw_P D cl b (va_up w a (some (.inl (cA, n, .inl (upd f i.toNatClampNeg x))))) H1 → va_S (xw_A b) H0 H1 locs1 → W p l e R s m args below meth c H1 locs1 cells slots Q (F0 m (pc + 1) ls rest)) : W p l e R s m args below meth c H locs cells slots Q (F0 m pc ls (.int x :: .int i :: .ref a :: rest)) := by
  obtain ⟨-, ws, hP, hD, hw⟩ := hW
  obtain ⟨k0, hk0⟩ := (hw a _).mp ha
  exact va_iast hexec hb hK hP hD hS k0 t0 hk0 ht hin hdg (fun H1 locs1 hP1 hD1 hS1 => kk H1 locs1 ⟨Nat.le_trans hB hS1.1, _, hP1, hD1, xw_set hD hk0 hw⟩ hS1)
theorem xw_last (hexec : p.tables.exec = Jvm.exec) (hb : c.code = cc) (hK : va_K D cl tys s) (hB : b ≤ H0.size) (hW : xw_P D cl b w H) (hS : va_S (xw_A b) H0 H locs) (t0 : Nat) {cA : ClassId} {n : Nat} {f : Nat → Int64} (ha : w a = some (.inl (cA, n, .inr (.inl f)))) (ht : tys[t0]? = some (cA, .long)) {i : Int32} {x : Int64} (hin : vp_in i n) (hdg : decode cc pc = .ok (.lastore, 1))
    (kk : ∀ (H1 : Heap) (locs1 : List Loc), xw_P D cl b (va_up w a (some (.inl (cA, n, .inr (.inl (vp_updL f i.toNatClampNeg x)))))) H1 → va_S (xw_A b) H0 H1 locs1 → W p l e R s m args below meth c H1 locs1 cells slots Q (F0 m (pc + 1) ls rest)) : W p l e R s m args below meth c H locs cells slots Q (F0 m pc ls (.long x :: .int i :: .ref a :: rest)) := by
  obtain ⟨-, ws, hP, hD, hw⟩ := hW
  obtain ⟨k0, hk0⟩ := (hw a _).mp ha
  exact va_last hexec hb hK hP hD hS k0 t0 hk0 ht hin hdg (fun H1 locs1 hP1 hD1 hS1 => kk H1 locs1 ⟨Nat.le_trans hB hS1.1, _, hP1, hD1, xw_set hD hk0 hw⟩ hS1)
theorem xw_aast (hexec : p.tables.exec = Jvm.exec) (hb : c.code = cc) (hK : va_K D cl tys s) (hB : b ≤ H0.size) (hW : xw_P D cl b w H) (hS : va_S (xw_A b) H0 H locs) (t0 ci : Nat) {cA : ClassId} {r : vw_C} {n v : Nat} {vs : List Value} {f : Nat → Option Nat} (ha : w a = some (.inl (cA, n, .inr (.inr (.inr (.inr f)))))) (ht : tys[t0]? = some (cA, .object r.1)) (hv : w v = some (.inr (ci, vs))) (hc : cl[ci]? = some r) {i : Int32} (hin : vp_in i n) (hdg : decode cc pc = .ok (.aastore, 1))
    (kk : ∀ (H1 : Heap) (locs1 : List Loc), xw_P D cl b (va_up w a (some (.inl (cA, n, .inr (.inr (.inr (.inr (va_up f i.toNatClampNeg (some v))))))))) H1 → va_S (xw_A b) H0 H1 locs1 → W p l e R s m args below meth c H1 locs1 cells slots Q (F0 m (pc + 1) ls rest)) : W p l e R s m args below meth c H locs cells slots Q (F0 m pc ls (.ref v :: .int i :: .ref a :: rest)) := by
  obtain ⟨-, ws, hP, hD, hw⟩ := hW
  obtain ⟨k0, hk0⟩ := (hw a _).mp ha
  obtain ⟨k1, hk1⟩ := (hw v _).mp hv
  exact va_astq hexec hb hK hP hD hS k0 t0 k1 ci hk0 ht hk1 hc hin hdg (fun H1 locs1 hP1 hD1 hS1 => kk H1 locs1 ⟨Nat.le_trans hB hS1.1, _, hP1, hD1, xw_set hD hk0 hw⟩ hS1)
theorem xw_alen (hexec : p.tables.exec = Jvm.exec) (hb : c.code = cc) (hK : va_K D cl tys s) (hW : xw_P D cl b w H) (t0 : Nat) {cA : ClassId} {x : vp_A} (ha : w a = some (.inl (cA, x))) {ty : FieldType} (ht : tys[t0]? = some (cA, ty)) {v : Int32} (hv : Int32.ofNat x.1 = v) (hdg : decode cc pc = .ok (.arraylength, 1))
    (kk : W p l e R s m args below meth c H locs cells slots Q (F0 m (pc + 1) ls (.int v :: rest))) : W p l e R s m args below meth c H locs cells slots Q (F0 m pc ls (.ref a :: rest)) :=
  va_alen hexec hb hK (hW.one ha) 0 t0 rfl ht hv hdg kk
theorem xw_K_last {t1 : List (ClassId × FieldType)} {x : ClassId × FieldType} (h : va_K D cl (t1 ++ [x]) s) : va_RA s x.1 x.2 := (h.2 t1.length x (by rw [List.getElem?_append_right (Nat.le_refl _), Nat.sub_self]; rfl)).2
/-- an array class by its name -/
theorem xw_RA_nm {cA : ClassId} {ty : FieldType} (h : va_RA s cA ty) : s.vm.findClass ("[" ++ ty.toString) = some cA := by
  cases ty with
  | object C => obtain ⟨kA, comp, -, -, -, h4⟩ := h; exact h4
  | _ => exact h
theorem xw_RA_eq {cA cA' : ClassId} {ty : FieldType} (h : va_RA s cA ty) (h' : va_RA s cA' ty) : cA = cA' := Option.some.inj ((xw_RA_nm h).symm.trans (xw_RA_nm h'))
theorem xw_newa (hexec : p.tables.exec = Jvm.exec) (hb : c.code = cc) {atype : ArrayType} (harr : (Cond.arrayClass (newarray.typeOf atype)).before args s = true) {ty : FieldType} (hty : newarray.typeOf atype = ty) (hK : va_K D cl tys s) (hB : b ≤ H0.size) (hW : xw_P D cl b w H) (hS : va_S (xw_A b) H0 H locs) (t0 : Nat) {cA : ClassId} (ht : tys[t0]? = some (cA, ty))
    {n : Int32} {N' : Nat} {a0 : vp_A} (ha : ∀ cA : ClassId, vp_cell cA a0 = arrV cA N' (fun _ => defaultValue ty)) (hn : ¬ n < 0) (hN : n.toNatClampNeg = N') (hbytes : N' * componentBytes ty ≤ 536870912) (hcells : cells + 1 ≤ R.cells) (hslots : slots + N' ≤ R.slots) (hdg : decode cc pc = .ok (.newarray atype, 2))
    (kk : ∀ (q : Nat) (H1 : Heap), w q = none → xw_P D cl b (va_up w q (some (.inl (cA, a0)))) H1 → va_S (xw_A b) H0 H1 locs →
      W p l e R s m args below meth c H1 locs (cells + 1) (slots + N') Q (F0 m (pc + 2) ls (.ref q :: rest))) : W p l e R s m args below meth c H locs cells slots Q (F0 m pc ls (.int n :: rest)) := by
  obtain ⟨-, ws, hP, hD, hw⟩ := hW
  refine va_newa hexec hb harr hty hK hP hD hS (fun q hq => Nat.le_trans hB hq) ha hn hN hbytes hcells hslots hdg (fun q cA' H1 hK1 hP1 hD1 hS1 => ?_)
  have e1 : cA' = cA := xw_RA_eq (xw_K_last hK1) (hK.2 t0 _ ht).2
  subst e1
  exact kk q H1 (xw_fresh hD1 hw) ⟨Nat.le_trans hB hS1.1, _, hP1, hD1, xw_push hD1 hw⟩ hS1
theorem xw_newq (hexec : p.tables.exec = Jvm.exec) (hb : c.code = cc) {own C : String} {index : Nat} (hown : s.vm.findClass own = some m.cls) (hclink : (Cond.classLink own index C).before args s = true) (hover : va_AO C s) (hK : va_K D cl tys s) (hB : b ≤ H0.size) (hW : xw_P D cl b w H) (hS : va_S (xw_A b) H0 H locs) (t0 : Nat) {cA : ClassId} (ht : tys[t0]? = some (cA, .object C))
    {n : Int32} {N' : Nat} (hn : ¬ n < 0) (hN : n.toNatClampNeg = N') (hbytes : N' * 4 ≤ 536870912) (hcells : cells + 1 ≤ R.cells) (hslots : slots + N' ≤ R.slots) (hdg : decode cc pc = .ok (.anewarray index, 3))
    (kk : ∀ (q : Nat) (H1 : Heap), w q = none → xw_P D cl b (va_up w q (some (.inl (cA, N', .inr (.inr (.inr (.inr (fun _ => none)))))))) H1 → va_S (xw_A b) H0 H1 locs →
      W p l e R s m args below meth c H1 locs (cells + 1) (slots + N') Q (F0 m (pc + 3) ls (.ref q :: rest))) : W p l e R s m args below meth c H locs cells slots Q (F0 m pc ls (.int n :: rest)) := by
  obtain ⟨-, ws, hP, hD, hw⟩ := hW
  refine va_newq hexec hb hown hclink hover hK hP hD hS (fun q hq => Nat.le_trans hB hq) hn hN hbytes hcells hslots hdg (fun q cA' H1 hK1 hP1 hD1 hS1 => ?_)
  have e1 : cA' = cA := xw_RA_eq (xw_K_last hK1) (hK.2 t0 _ ht).2
  subst e1
  exact kk q H1 (xw_fresh hD1 hw) ⟨Nat.le_trans hB hS1.1, _, hP1, hD1, xw_push hD1 hw⟩ hS1
theorem xw_clone (hexec : p.tables.exec = Jvm.exec) (hb : c.code = cc) (hml : c.maxLocals = ls.size) {own ad : String} {index : Nat} (hown : s.vm.findClass own = some m.cls)
    (hlink : (Cond.methodLink own index ⟨ad, "clone", "()Ljava/lang/Object;"⟩).before args s = true) (hsame : (Cond.sameMethod ad "java/lang/Object" "clone" "()Ljava/lang/Object;").before args s = true)
    (hnat : (Cond.native ⟨"java/lang/Object", "clone", "()Ljava/lang/Object;"⟩).before args s = true) (hinst : (Cond.instanceMethod ⟨"java/lang/Object", "clone", "()Ljava/lang/Object;"⟩).before args s = true)
    (hsel : (Cond.selects ad ⟨ad, "clone", "()Ljava/lang/Object;"⟩ ⟨"java/lang/Object", "clone", "()Ljava/lang/Object;"⟩).before args s = true) (hcl : va_Nw (.castable ad "java/lang/Cloneable") s)
    (hK : va_K D cl tys s) (hB : b ≤ H0.size) (hW : xw_P D cl b w H) (hS : va_S (xw_A b) H0 H locs) (t0 : Nat) {cA : ClassId} {x : vp_A} {ty : FieldType} (ha : w a = some (.inl (cA, x))) (ht : tys[t0]? = some (cA, ty))
    (hnm : "[" ++ ty.toString = ad) (hfit : ∀ (i : Nat) (v : Value), (vp_cell cA x).slots[i]? = some v → fits ty v = true)
    (hframes : 1 ≤ R.frames) (hlocals : (rest.map fun v => v.category).sum + 14 ≤ R.locals) (hcells : cells + 1 ≤ R.cells) (hslots : slots + x.1 ≤ R.slots) (hdg : decode cc pc = .ok (.invokevirtual index, 3))
    (kk : ∀ (q : Nat) (H1 : Heap), w q = none → xw_P D cl b (va_up w q (some (.inl (cA, x)))) H1 → va_S (xw_A b) H0 H1 locs →
      W p l e R s m args below meth c H1 locs (cells + 1) (slots + x.1) Q (F0 m (pc + 3) ls (.ref q :: rest))) : W p l e R s m args below meth c H locs cells slots Q (F0 m pc ls (.ref a :: rest)) := by
  have hnm' : s.vm.findClass ad = some cA := by rw [← hnm]; exact xw_RA_nm (hK.2 t0 _ ht).2
  obtain ⟨-, ws, hP, hD, hw⟩ := hW
  obtain ⟨k0, hk0⟩ := (hw a _).mp ha
  exact va_clone hexec hb hml hown hlink hsame hnat hinst hsel hcl hK hP hD hS (fun q hq => Nat.le_trans hB hq) k0 t0 hk0 ht hnm' hfit hframes hlocals hcells hslots hdg (fun q H1 _ hP1 hD1 hS1 => kk q H1 (xw_fresh hD1 hw) ⟨Nat.le_trans hB hS1.1, _, hP1, hD1, xw_push hD1 hw⟩ hS1)
theorem xw_castA (hexec : p.tables.exec = Jvm.exec) (hb : c.code = cc) {own nm : String} {index : Nat} (hown : s.vm.findClass own = some m.cls) (hlink : (Cond.classLink own index nm).before args s = true) (hK : va_K D cl tys s) (hW : xw_P D cl b w H) (t0 : Nat) {cA : ClassId} {x : vp_A} {ty : FieldType} (ha : w a = some (.inl (cA, x))) (ht : tys[t0]? = some (cA, ty)) (hnm : "[" ++ ty.toString = nm) (hdg : decode cc pc = .ok (.checkcast index, 3))
    (k : W p l e R s m args below meth c H locs cells slots Q (F0 m (pc + 3) ls (.ref a :: rest))) : W p l e R s m args below meth c H locs cells slots Q (F0 m pc ls (.ref a :: rest)) :=
  va_castA hexec hb hown hlink (hW.one ha) 0 rfl (by rw [← hnm]; exact xw_RA_nm (hK.2 t0 _ ht).2) hdg k
end XWR
