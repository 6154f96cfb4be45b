/-! What a contract starts from and ends with: G holds the numbers of the tables (objects' fields, array kinds), the lowest address b of the world, the addresses of the String constants. -/
abbrev g_G : Type := va_G × (Nat → ClassId) × Nat × (Nat → Nat)
abbrev g_b (G : g_G) : Nat := G.2.2.1
def g_ty (G : g_G) : List (ClassId × FieldType) := [(G.2.1 0, .long), (G.2.1 1, .object "RadixShelf$Leaf"), (G.2.1 2, .object "RadixShelf$Branch"), (G.2.1 3, .object "RadixShelf$Sequence"), (G.2.1 4, .int), (G.2.1 5, .array .long)]
def g_str (i : Nat) : Nat × String := match i with
  | 0 => (110, "a number is out of range")
  | 1 => (119, "the sequence is full")
  | 2 => (115, "there is no such element")
  | 3 => (113, "a number is less than 0")
  | 4 => (69, "fewer elements than are to be cut")
  | 5 => (86, "the builder is there already")
  | _ => (92, "the builder is not there")
abbrev g_IAE : String := "java/lang/IllegalArgumentException"
abbrev g_ISE : String := "java/lang/IllegalStateException"
abbrev g_IOB : String := "java/lang/IndexOutOfBoundsException"
abbrev g_NSE : String := "java/util/NoSuchElementException"
def g_cast : List (String × String) := [("[J", "java/lang/Cloneable"), ("[LRadixShelf$Leaf;", "java/lang/Cloneable"), ("[LRadixShelf$Branch;", "java/lang/Cloneable"), (g_IAE, g_IAE), (g_ISE, g_ISE), (g_IOB, g_IOB), (g_NSE, g_NSE)]
def g_not : List (String × String) := [(g_IOB, g_IAE), (g_NSE, g_IAE), (g_ISE, g_IAE), (g_NSE, g_ISE), (g_IOB, g_ISE), (g_IOB, g_NSE)]
def g_decl : List MethodName := [Bundle.initS "java/lang/RuntimeException", Bundle.initS "java/lang/Exception", Bundle.initS Bundle.tN]
/-- arrays of long[] are there -/
def g_AL (U : State) : Prop := (Cond.arrayOver (.array .long)).before #[] U = true
theorem g_AL.spec {U : State} (h : g_AL U) : ∃ comp c k, U.vm.findClass (FieldType.array .long).toString = some comp ∧ (U.vm.classes.findIdx? fun (x : Class) => match x.kind with | .array component _ => component == comp | _ => false) = some c ∧ U.vm.classes[c]? = some k ∧ k.kind = .array comp (.array .long) ∧ U.vm.findClass ("[" ++ (FieldType.array .long).toString) = some c := by
  unfold g_AL Cond.before at h
  simp only [Cond.holds, Cond.value, beq_iff_eq] at h
  cases hc : U.vm.findClass (FieldType.array .long).toString with
  | none => simp [hc] at h
  | some comp =>
    simp only [hc, Option.bind_some, Option.bind_eq_some_iff, Option.map_eq_some_iff] at h
    obtain ⟨c, hi, k, hk, hb⟩ := h
    obtain ⟨hlt, hp, -⟩ := Array.findIdx?_eq_some_iff_getElem.mp hi
    have hkk : U.vm.classes[c] = k := (Array.getElem?_eq_some_iff.mp hk).2
    rw [hkk] at hp
    cases hkind : k.kind with
    | array component ty =>
      rw [hkind] at hb hp
      simp at hb hp
      exact ⟨comp, c, k, rfl, hi, hk, by rw [hkind, hp, hb.1], hb.2⟩
    | _ => rw [hkind] at hb; simp at hb
theorem g_AL.moved {u U : State} (hvm : u.vm.Alike U.vm) (h : g_AL u) : g_AL U := by
  obtain ⟨comp, c, k, h1, h2, h3, h4, h5⟩ := g_AL.spec h
  obtain ⟨k', hk', he⟩ := hvm.2.2 _ _ h3
  have hi : (U.vm.classes.findIdx? fun (x : Class) => match x.kind with | .array component _ => component == comp | _ => false) = some c := by
    refine (va_idx_bare U.vm comp).symm.trans ?_
    first | rw [hvm.bare_eq] | rw [← hvm.bare_eq]
    exact (va_idx_bare u.vm comp).trans h2
  have hkind : k'.kind = .array comp (.array .long) := by rw [he]; exact h4
  have f1 : U.vm.findClass (FieldType.array .long).toString = some comp := by rw [hvm.findClass]; exact h1
  have f2 : U.vm.findClass ("[" ++ (FieldType.array .long).toString) = some c := by rw [hvm.findClass]; exact h5
  unfold g_AL Cond.before Cond.holds
  simp only [Cond.value]
  rw [f1, Option.bind_some]
  refine (congrArg (fun o : Option Nat => (o.bind (fun c => (U.vm.classes[c]?).map fun (k : Class) => match k.kind with | .array _ ty => decide (ty = FieldType.array .long) && decide (U.vm.findClass ("[" ++ (FieldType.array .long).toString) = some c) | _ => false) == some true)) hi).trans ?_
  simp [hk', hkind, f2]
def g_E (G : g_G) (U : State) : Prop :=
  (va_AO "RadixShelf$Leaf" U ∧ va_AO "RadixShelf$Branch" U ∧ va_AO "RadixShelf$Sequence" U ∧ g_AL U) ∧ (∀ q ∈ g_cast, va_Nw (.castable q.1 q.2) U) ∧ (∀ q ∈ g_not, va_Nc q.1 q.2 U) ∧
  (∀ i, i < 7 → vk_R "RadixShelf" (g_str i).1 (g_str i).2 (G.2.2.2 i) U) ∧ vx_Zq Bundle.tN "UNASSIGNED_STACK" Bundle.steD (xw_A (g_b G)) U U.heap ∧ vx_Zq Bundle.tN "SUPPRESSED_SENTINEL" Bundle.listD (xw_A (g_b G)) U U.heap ∧ ∀ x ∈ g_decl, va_Nw (.declares x) U
theorem g_E.moved {G : g_G} {s U : State} (hW : s.WarmedH U.vm) (hz : ∀ q : Nat, q < s.heap.size → ¬ xw_A (g_b G) q → U.heap[q]? = s.heap[q]?) (h : g_E G s) : g_E G U := by
  obtain ⟨⟨a1, a2, a3, a4⟩, hc, hn, hs, hu, hv, hd⟩ := h
  exact ⟨⟨va_AO.moved hW.alike a1, va_AO.moved hW.alike a2, va_AO.moved hW.alike a3, g_AL.moved hW.alike a4⟩, fun q hq => va_Nw.warmC hW (hc q hq), fun q hq => va_Nc.moved hW.alike (hn q hq), fun i hi => vk_R.warm hW (hs i hi), (vx_Zq.moved hW.alike hu).kept hz, (vx_Zq.moved hW.alike hv).kept hz, fun x hx => va_Nw.warmD hW (hd x hx)⟩
def g_K (G : g_G) (U : State) : Prop := va_K G.1 n_cl (g_ty G) U ∧ g_E G U
abbrev g_P (G : g_G) (w : xw_W) (H : Heap) : Prop := xw_P G.1 n_cl (g_b G) w H
def g_B (G : g_G) (w : xw_W) (U : State) : Prop := g_P G w U.heap ∧ g_K G U
abbrev g_S (G : g_G) (H0 H : Heap) (locs : List Loc) : Prop := va_S (xw_A (g_b G)) H0 H locs
theorem g_K.moved {G : g_G} {s U : State} {H : Heap} {locs : List Loc} (hW : s.WarmedH U.vm) (hS : g_S G s.heap H locs) (hU : U.heap = H) (h : g_K G s) : g_K G U := ⟨va_K.moved hW.alike h.1, g_E.moved hW (fun q h1 h2 => by rw [hU]; exact hS.2.1 q h1 h2) h.2⟩
abbrev g_Pc (G : g_G) (w : xw_W) (av : List Value) : Array Value → State → Prop := va_Pc av (g_B G w)
theorem g_blind {G : g_G} {w : xw_W} {av : List Value} : FrameBlind (g_Pc G w av) := fun a U g mk q => ⟨q.1, q.2.1, g_K.moved (U := U.calling g mk a) (H := U.heap) (State.WarmedH.refl U) va_S.rf rfl q.2.2⟩
theorem g_preS {G : g_G} {w : xw_W} {s : State} {H : Heap} {locs : List Loc} (hK : g_K G s) (hW : g_P G w H) (hS : g_S G s.heap H locs) (av : List Value) : PreS s H (g_Pc G w av) av := ⟨g_blind, fun U hU hA => ⟨rfl, by rw [hU]; exact hW, g_K.moved hA hS hU hK⟩⟩
theorem g_preV {G : g_G} {w : xw_W} {s : State} {H : Heap} {locs : List Loc} {o ci : Nat} {q : vw_C} {fs : List Value} (hK : g_K G s) (hW : g_P G w H) (hS : g_S G s.heap H locs) (hc : n_cl[ci]? = some q) (he : w o = some (.inr (ci, fs))) (av : List Value) : PreV s H q.1 o (g_Pc G w (.ref o :: av)) av := ⟨g_blind, va_recv (q0 := 0) hK.1 (hW.one he) hc rfl, fun U hU hA => ⟨rfl, by rw [hU]; exact hW, g_K.moved hA hS hU hK⟩⟩
def g_W (G : g_G) (w : xw_W) (U : State) : Prop := g_P G w U.heap
abbrev g_Qi (G : g_G) (post : Int32 → xw_W → Prop) : Array Value → State → Outcome → State → Prop := va_Qi post (g_W G) (xw_A (g_b G))
abbrev g_Ql (G : g_G) (post : Int64 → xw_W → Prop) : Array Value → State → Outcome → State → Prop := va_Ql post (g_W G) (xw_A (g_b G))
abbrev g_Qv (G : g_G) (post : xw_W → Prop) : Array Value → State → Outcome → State → Prop := va_Qv post (g_W G) (xw_A (g_b G))
/-- an answer that is a reference: its address and the world together -/
abbrev g_Qr (G : g_G) (post : Nat → xw_W → Prop) : Array Value → State → Outcome → State → Prop := va_Qr (fun _ : xw_W => True) (fun w' r t => post r w' ∧ g_W G w' t) (xw_A (g_b G))
/-- thrown: of which kinds, with what world -/
abbrev g_X (G : g_G) (thr : String → xw_W → Prop) : String → State → State → Prop := vx_X (fun _ : xw_W => True) (fun E w' t => thr E w' ∧ g_W G w' t) (xw_A (g_b G))
section XWC
variable {p : Program} {l : Launch} {e : Env} {R : Room} {s : State} {m : MethodId} {args : Array Value} {below : List Frame} {meth : Method} {c : Code} {H : Heap} {locs : List Loc} {cells slots : Nat} {Q : State → Prop}
variable {pc : Nat} {ls : Array Slot} {rest st0 : List Value} {a : Array Value} {G : g_G} {H0 : Heap} {mc ms : Nat}
theorem g_calli {post : Int32 → xw_W → Prop} (hr : va_Run p l e R s m args below meth c H locs cells slots mc ms (F0 m pc ls st0) rest (g_Qi G post a) (xw_A (g_b G))) (hS : g_S G H0 H locs)
    (kk : ∀ (r : Int32) (w' : xw_W) (H1 : Heap) (locs1 : List Loc), post r w' → g_P G w' H1 → g_S G H0 H1 locs1 → W p l e R s m args below meth c H1 locs1 (cells + mc) (slots + ms) Q (F0 m (pc + 3) ls (.int r :: rest))) : W p l e R s m args below meth c H locs cells slots Q (F0 m pc ls st0) :=
  va_calli hr hS (fun _ _ h => h) (fun _ h => h) (fun r u t H1 locs1 ht _ hp hB _ _ hS1 => kk r u H1 locs1 hp (by rw [← ht]; exact hB) hS1)
theorem g_calll {post : Int64 → xw_W → Prop} (hr : va_Run p l e R s m args below meth c H locs cells slots mc ms (F0 m pc ls st0) rest (g_Ql G post a) (xw_A (g_b G))) (hS : g_S G H0 H locs)
    (kk : ∀ (r : Int64) (w' : xw_W) (H1 : Heap) (locs1 : List Loc), post r w' → g_P G w' H1 → g_S G H0 H1 locs1 → W p l e R s m args below meth c H1 locs1 (cells + mc) (slots + ms) Q (F0 m (pc + 3) ls (.long r :: rest))) : W p l e R s m args below meth c H locs cells slots Q (F0 m pc ls st0) :=
  va_calll hr hS (fun _ _ h => h) (fun _ h => h) (fun r u t H1 locs1 ht _ hp hB _ _ hS1 => kk r u H1 locs1 hp (by rw [← ht]; exact hB) hS1)
theorem g_callv {post : xw_W → Prop} (hr : va_Run p l e R s m args below meth c H locs cells slots mc ms (F0 m pc ls st0) rest (g_Qv G post a) (xw_A (g_b G))) (hS : g_S G H0 H locs)
    (kk : ∀ (w' : xw_W) (H1 : Heap) (locs1 : List Loc), post w' → g_P G w' H1 → g_S G H0 H1 locs1 → W p l e R s m args below meth c H1 locs1 (cells + mc) (slots + ms) Q (F0 m (pc + 3) ls rest)) : W p l e R s m args below meth c H locs cells slots Q (F0 m pc ls st0) :=
  va_callv hr hS (fun _ _ h => h) (fun _ h => h) (fun u t H1 locs1 ht _ hp hB _ _ hS1 => kk u H1 locs1 hp (by rw [← ht]; exact hB) hS1)
theorem g_callr {post : Nat → xw_W → Prop} (hr : va_Run p l e R s m args below meth c H locs cells slots mc ms (F0 m pc ls st0) rest (g_Qr G post a) (xw_A (g_b G))) (hS : g_S G H0 H locs)
    (kk : ∀ (r : Nat) (w' : xw_W) (H1 : Heap) (locs1 : List Loc), post r w' → g_P G w' H1 → g_S G H0 H1 locs1 → W p l e R s m args below meth c H1 locs1 (cells + mc) (slots + ms) Q (F0 m (pc + 3) ls (.ref r :: rest))) : W p l e R s m args below meth c H locs cells slots Q (F0 m pc ls st0) :=
  va_callr hr hS (fun _ _ h => h) (fun _ h => h) (fun u ra t H1 locs1 ht _ _ hB _ _ hS1 => kk ra u H1 locs1 hB.1 (by rw [← ht]; exact hB.2) hS1)
/-- a call that may throw: the thrown road, the returned road -/
theorem g_xcalli {post : Int32 → xw_W → Prop} {thr : String → xw_W → Prop} (hr : vx_Run p l e R s m args below meth c H locs cells slots mc ms (F0 m pc ls st0) rest (g_Qi G post a) (g_X G thr) (xw_A (g_b G))) (hS : g_S G H0 H locs)
    (kx : ∀ (E : String) (ce : Cell) (q9 : Addr) (w' : xw_W) (H1 : Heap) (locs1 : List Loc), thr E w' → g_P G w' H1 → g_S G H0 H1 locs1 → H1[q9]? = some ce → ce.vm = .none → s.vm.findClass E = some ce.cls → vx_W p l e R s m args below meth c H1 locs1 (cells + mc) (slots + ms) Q (F0 m pc ls rest) q9)
    (kk : ∀ (r : Int32) (w' : xw_W) (H1 : Heap) (locs1 : List Loc), post r w' → g_P G w' H1 → g_S G H0 H1 locs1 → W p l e R s m args below meth c H1 locs1 (cells + mc) (slots + ms) Q (F0 m (pc + 3) ls (.int r :: rest))) : W p l e R s m args below meth c H locs cells slots Q (F0 m pc ls st0) :=
  vx_calli hr hS (fun _ _ h => h) (fun _ h => h) (fun _ _ h => h) (fun E ce q9 u t H1 locs1 ht _ _ hB _ _ hS1 h1 h2 h3 => kx E ce q9 u H1 locs1 hB.1 (by rw [← ht]; exact hB.2) hS1 h1 h2 h3) (fun r u t H1 locs1 ht _ hp hB _ _ hS1 => kk r u H1 locs1 hp (by rw [← ht]; exact hB) hS1)
theorem g_xcalll {post : Int64 → xw_W → Prop} {thr : String → xw_W → Prop} (hr : vx_Run p l e R s m args below meth c H locs cells slots mc ms (F0 m pc ls st0) rest (g_Ql G post a) (g_X G thr) (xw_A (g_b G))) (hS : g_S G H0 H locs)
    (kx : ∀ (E : String) (ce : Cell) (q9 : Addr) (w' : xw_W) (H1 : Heap) (locs1 : List Loc), thr E w' → g_P G w' H1 → g_S G H0 H1 locs1 → H1[q9]? = some ce → ce.vm = .none → s.vm.findClass E = some ce.cls → vx_W p l e R s m args below meth c H1 locs1 (cells + mc) (slots + ms) Q (F0 m pc ls rest) q9)
    (kk : ∀ (r : Int64) (w' : xw_W) (H1 : Heap) (locs1 : List Loc), post r w' → g_P G w' H1 → g_S G H0 H1 locs1 → W p l e R s m args below meth c H1 locs1 (cells + mc) (slots + ms) Q (F0 m (pc + 3) ls (.long r :: rest))) : W p l e R s m args below meth c H locs cells slots Q (F0 m pc ls st0) :=
  vx_calll hr hS (fun _ _ h => h) (fun _ h => h) (fun _ _ h => h) (fun E ce q9 u t H1 locs1 ht _ _ hB _ _ hS1 h1 h2 h3 => kx E ce q9 u H1 locs1 hB.1 (by rw [← ht]; exact hB.2) hS1 h1 h2 h3) (fun r u t H1 locs1 ht _ hp hB _ _ hS1 => kk r u H1 locs1 hp (by rw [← ht]; exact hB) hS1)
theorem g_xcallv {post : xw_W → Prop} {thr : String → xw_W → Prop} (hr : vx_Run p l e R s m args below meth c H locs cells slots mc ms (F0 m pc ls st0) rest (g_Qv G post a) (g_X G thr) (xw_A (g_b G))) (hS : g_S G H0 H locs)
    (kx : ∀ (E : String) (ce : Cell) (q9 : Addr) (w' : xw_W) (H1 : Heap) (locs1 : List Loc), thr E w' → g_P G w' H1 → g_S G H0 H1 locs1 → H1[q9]? = some ce → ce.vm = .none → s.vm.findClass E = some ce.cls → vx_W p l e R s m args below meth c H1 locs1 (cells + mc) (slots + ms) Q (F0 m pc ls rest) q9)
    (kk : ∀ (w' : xw_W) (H1 : Heap) (locs1 : List Loc), post w' → g_P G w' H1 → g_S G H0 H1 locs1 → W p l e R s m args below meth c H1 locs1 (cells + mc) (slots + ms) Q (F0 m (pc + 3) ls rest)) : W p l e R s m args below meth c H locs cells slots Q (F0 m pc ls st0) :=
  vx_callv hr hS (fun _ _ h => h) (fun _ h => h) (fun _ _ h => h) (fun E ce q9 u t H1 locs1 ht _ _ hB _ _ hS1 h1 h2 h3 => kx E ce q9 u H1 locs1 hB.1 (by rw [← ht]; exact hB.2) hS1 h1 h2 h3) (fun u t H1 locs1 ht _ hp hB _ _ hS1 => kk u H1 locs1 hp (by rw [← ht]; exact hB) hS1)
theorem g_xcallr {post : Nat → xw_W → Prop} {thr : String → xw_W → Prop} (hr : vx_Run p l e R s m args below meth c H locs cells slots mc ms (F0 m pc ls st0) rest (g_Qr G post a) (g_X G thr) (xw_A (g_b G))) (hS : g_S G H0 H locs)
    (kx : ∀ (E : String) (ce : Cell) (q9 : Addr) (w' : xw_W) (H1 : Heap) (locs1 : List Loc), thr E w' → g_P G w' H1 → g_S G H0 H1 locs1 → H1[q9]? = some ce → ce.vm = .none → s.vm.findClass E = some ce.cls → vx_W p l e R s m args below meth c H1 locs1 (cells + mc) (slots + ms) Q (F0 m pc ls rest) q9)
    (kk : ∀ (r : Nat) (w' : xw_W) (H1 : Heap) (locs1 : List Loc), post r w' → g_P G w' H1 → g_S G H0 H1 locs1 → W p l e R s m args below meth c H1 locs1 (cells + mc) (slots + ms) Q (F0 m (pc + 3) ls (.ref r :: rest))) : W p l e R s m args below meth c H locs cells slots Q (F0 m pc ls st0) := by
  intro T hT X
  rcases hr T hT X with ⟨v, st₀, t, T', L, h0, X', hL, e1, e2, ⟨⟨u, ra, hv, -, hp, hB⟩, hF⟩, st⟩ | ⟨q, st₀, t, T', L, E, ce, h0, X', hL, e1, e2, ⟨u, -, ⟨hp, hB⟩, hF⟩, hce, hcv, hcl, st⟩
  · cases hv
    obtain ⟨-, -, k3⟩ := vx_keep h0 e1 hS (fun _ _ h => h) (fun _ h => h) hL hF
    obtain ⟨t2, a1, b1⟩ := kk ra u T'.heap (locs ++ L) hp (by rw [e1]; exact hB) k3 T' rfl X'
    exact ⟨t2, st t2 a1, b1⟩
  · obtain ⟨-, -, k3⟩ := vx_keep h0 e1 hS (fun _ _ h => h) (fun _ h => h) hL hF
    obtain ⟨t2, a1, b1⟩ := kx E ce q u T'.heap (locs ++ L) hp (by rw [e1]; exact hB) k3 (by rw [e1]; exact hce) hcv hcl T' rfl X'
    exact ⟨t2, st.trans a1, b1⟩
end XWC
/-- the head of a contract -/
theorem g_met {l : Launch} {y : MethodName} {ws' : List Cond} {rm : Room} {G : g_G} {w : xw_W} {av : List Value} {Qc : Array Value → State → Outcome → State → Prop} {mc ms : Nat} {cc : ByteArray} {maxL : Nat} {ret : Option FieldType} {lv : List (Nat × Value)}
    (hy : plainName y.cls = true) (hlen : (lg_sl av).length ≤ maxL) (hlv : lv_args 0 av = lv)
    (body : ∀ (p : Program) (e : Env) (s : State) (m : MethodId) (below : List Frame) (meth : Method) (c : Code) (ls : Array Slot), p.tables.exec = Jvm.exec → c.code = cc → meth.sig.returnType = ret → (∀ w ∈ Cond.code y cc maxL ret :: ws', w.before av.toArray s = true) → s.vm.findClass y.cls = some m.cls → meth.locks = false → meth.name = y.name → c.maxLocals = maxL → lv_has ls maxL lv →
      g_K G s → g_b G ≤ s.heap.size → g_P G w s.heap → g_S G s.heap s.heap [] → W p l e rm s m av.toArray below meth c s.heap [] 0 0 (MQ below Qc av.toArray s mc ms (xw_A (g_b G))) (F0 m 0 ls [])) :
    Met l y (Cond.code y cc maxL ret :: ws') rm (g_Pc G w av) Qc mc ms (xw_A (g_b G)) := by
  refine Met.ofW (cc := cc) (maxL := maxL) (ret := ret) hy rfl ?_
  intro p e s m args below meth c s₁ B hml hv
  obtain ⟨rfl, hW, hK⟩ := hv
  have hl := lv_entry av (n := maxL) hlen
  rw [lg_entry_eq]
  generalize (lg_sl av ++ List.replicate (maxL - (lg_sl av).length) Slot.unset).toArray = ls at hl ⊢
  rw [hlv] at hl
  exact body p e s m below meth c ls B.exec B.bytes B.returns (atoms_spec (ws := _) B.pre) (findClass_of_methodNamed B.named) B.notSynchronized (name_of_methodNamed B.named B.method).1 hml hl hK hW.1 hW va_S.rf
/-- .. of one that may throw -/
theorem g_xmet {l : Launch} {y : MethodName} {ws' : List Cond} {rm : Room} {G : g_G} {w : xw_W} {av : List Value} {Qc : Array Value → State → Outcome → State → Prop} {XC : String → State → State → Prop} {mc ms : Nat} {cc : ByteArray} {maxL : Nat} {ret : Option FieldType} {lv : List (Nat × Value)}
    (hy : plainName y.cls = true) (hlen : (lg_sl av).length ≤ maxL) (hlv : lv_args 0 av = lv)
    (body : ∀ (p : Program) (e : Env) (s : State) (m : MethodId) (below : List Frame) (meth : Method) (c : Code) (ls : Array Slot), p.tables.exec = Jvm.exec → c.code = cc → meth.sig.returnType = ret → (∀ w ∈ Cond.code y cc maxL ret :: ws', w.before av.toArray s = true) → s.vm.findClass y.cls = some m.cls → meth.locks = false → (∀ x ∈ c.exceptionTable.toList, False) → c.maxLocals = maxL → lv_has ls maxL lv →
      g_K G s → g_b G ≤ s.heap.size → g_P G w s.heap → g_S G s.heap s.heap [] → W p l e rm s m av.toArray below meth c s.heap [] 0 0 (vx_MQ below Qc XC av.toArray s mc ms (xw_A (g_b G))) (F0 m 0 ls [])) :
    vx_Met l y (Cond.code y cc maxL ret :: ws') rm (g_Pc G w av) Qc XC mc ms (xw_A (g_b G)) := by
  refine vx_ofW (cc := cc) (maxL := maxL) (ret := ret) hy rfl ?_
  intro p e s m args below meth c s₁ B hml hne hv
  obtain ⟨rfl, hW, hK⟩ := hv
  have hl := lv_entry av (n := maxL) hlen
  rw [lg_entry_eq]
  generalize (lg_sl av ++ List.replicate (maxL - (lg_sl av).length) Slot.unset).toArray = ls at hl ⊢
  rw [hlv] at hl
  exact body p e s m below meth c ls B.exec B.bytes B.returns (atoms_spec (ws := _) B.pre) (findClass_of_methodNamed B.named) B.notSynchronized hne hml hl hK hW.1 hW va_S.rf
section XWE
variable {p : Program} {l : Launch} {e : Env} {R : Room} {s : State} {m : MethodId} {args : Array Value} {below : List Frame} {meth : Method} {c : Code} {H : Heap} {locs : List Loc} {cells slots : Nat}
variable {cc : ByteArray} {pc : Nat} {ls : Array Slot} {G : g_G} {w : xw_W}
theorem g_iret {post : Int32 → xw_W → Prop} {v : Int32} {mc ms : Nat} (hx : p.tables.exec = Jvm.exec) (hb : c.code = cc) (hr : meth.sig.returnType = some .int) (hlocks : meth.locks = false) (hW : g_P G w H) (hS : g_S G s.heap H locs) (hp : post v w) (hc : cells ≤ mc) (hs : slots ≤ ms) (hdg : decode cc pc = .ok (.ireturn, 1)) :
    W p l e R s m args below meth c H locs cells slots (MQ below (g_Qi G post) args s mc ms (xw_A (g_b G))) (F0 m pc ls [.int v]) :=
  W.widen (k := mc) (n := ms) hc hs (W.iret hx hb hr (fun t ht hA => ⟨⟨v, w, rfl, hp, show g_P G w t.heap by rw [ht]; exact hW⟩, hS.F ht⟩) hS.2.2 hdg hlocks)
theorem g_zret {post : Int32 → xw_W → Prop} {v : Int32} {mc ms : Nat} (hx : p.tables.exec = Jvm.exec) (hb : c.code = cc) (hr : meth.sig.returnType = some .boolean) (hn : narrow .boolean (.int v) = .int v) (hlocks : meth.locks = false) (hW : g_P G w H) (hS : g_S G s.heap H locs) (hp : post v w) (hc : cells ≤ mc) (hs : slots ≤ ms) (hdg : decode cc pc = .ok (.ireturn, 1)) :
    W p l e R s m args below meth c H locs cells slots (MQ below (g_Qi G post) args s mc ms (xw_A (g_b G))) (F0 m pc ls [.int v]) :=
  W.widen (k := mc) (n := ms) hc hs (W.zret hx hb hr hn (fun t ht hA => ⟨⟨v, w, rfl, hp, show g_P G w t.heap by rw [ht]; exact hW⟩, hS.F ht⟩) hS.2.2 hdg hlocks)
theorem g_lret {post : Int64 → xw_W → Prop} {v : Int64} {mc ms : Nat} (hx : p.tables.exec = Jvm.exec) (hb : c.code = cc) (hr : meth.sig.returnType = some .long) (hlocks : meth.locks = false) (hW : g_P G w H) (hS : g_S G s.heap H locs) (hp : post v w) (hc : cells ≤ mc) (hs : slots ≤ ms) (hdg : decode cc pc = .ok (.lreturn, 1)) :
    W p l e R s m args below meth c H locs cells slots (MQ below (g_Ql G post) args s mc ms (xw_A (g_b G))) (F0 m pc ls [.long v]) :=
  W.widen (k := mc) (n := ms) hc hs (W.lret hx hb hr (fun t ht hA => ⟨⟨v, w, rfl, hp, show g_P G w t.heap by rw [ht]; exact hW⟩, hS.F ht⟩) hS.2.2 hdg hlocks)
theorem g_vret {post : xw_W → Prop} {mc ms : Nat} (hx : p.tables.exec = Jvm.exec) (hb : c.code = cc) (hr : meth.sig.returnType = none) (hlocks : meth.locks = false) (hW : g_P G w H) (hS : g_S G s.heap H locs) (hp : post w) (hc : cells ≤ mc) (hs : slots ≤ ms) (hdg : decode cc pc = .ok (.return_, 1)) :
    W p l e R s m args below meth c H locs cells slots (MQ below (g_Qv G post) args s mc ms (xw_A (g_b G))) (F0 m pc ls []) :=
  W.widen (k := mc) (n := ms) hc hs (W.vret hx hb hr (fun t ht hA => ⟨⟨w, rfl, hp, show g_P G w t.heap by rw [ht]; exact hW⟩, hS.F ht⟩) hS.2.2 hdg hlocks)
theorem g_aret {post : Nat → xw_W → Prop} {v : Nat} {mc ms : Nat} {C : String} (hx : p.tables.exec = Jvm.exec) (hb : c.code = cc) (hr : meth.sig.returnType = some (.object C)) (hlocks : meth.locks = false) (hW : g_P G w H) (hS : g_S G s.heap H locs) (hp : post v w) (hc : cells ≤ mc) (hs : slots ≤ ms) (hdg : decode cc pc = .ok (.areturn, 1)) :
    W p l e R s m args below meth c H locs cells slots (MQ below (g_Qr G post) args s mc ms (xw_A (g_b G))) (F0 m pc ls [.ref v]) :=
  W.widen (k := mc) (n := ms) hc hs (W.aret hx hb hr (Or.inl ⟨C, rfl⟩) (Or.inr ⟨v, rfl⟩) (fun t ht hA => ⟨⟨w, v, rfl, trivial, hp, show g_P G w t.heap by rw [ht]; exact hW⟩, hS.F ht⟩) hS.2.2 hdg hlocks)
/-- it goes on to the caller -/
theorem g_out {Qc : Array Value → State → Outcome → State → Prop} {thr : String → xw_W → Prop} {E : String} {ce : Cell} {q : Addr} {mc ms : Nat} {rest : List Value} (hne : ∀ x ∈ c.exceptionTable.toList, False) (hlocks : meth.locks = false) (hW : g_P G w H) (hS : g_S G s.heap H locs) (hcell : H[q]? = some ce) (hv : ce.vm = .none) (hcl : s.vm.findClass E = some ce.cls) (hp : thr E w) (hc : cells ≤ mc) (hs : slots ≤ ms) :
    vx_W p l e R s m args below meth c H locs cells slots (vx_MQ below Qc (g_X G thr) args s mc ms (xw_A (g_b G))) (F0 m pc ls rest) q := by
  intro T hT X
  obtain ⟨st1, hrun, hend, hA, hsm⟩ := X.leaveThrown q (g := F0 m pc ls rest) rfl rfl rfl (fun x hx => (hne x hx).elim) hlocks
  have hh : (T.setFrames (.throwing q :: below)).heap = H := hT
  exact ⟨_, st1, .threw q, hrun, hend, Or.inr ⟨q, rfl, E, ce, locs, ⟨w, trivial, ⟨hp, show g_P G w _ by rw [hh]; exact hW⟩, hS.F hh⟩, by rw [hh]; exact hcell, hv, hcl, hA, hsm.mono hc hs, hS.2.2⟩⟩
end XWE
theorem xw_ne {w : xw_W} {a b : Nat} {e e' : va_E} (ha : w a = some e) (hb : w b = some e') (h : e ≠ e') : a ≠ b := fun z => h (by rw [z, hb] at ha; exact (Option.some.inj ha).symm)
theorem xw_nn {w : xw_W} {a b : Nat} {e : va_E} (ha : w a = some e) (hb : w b = none) : a ≠ b := fun z => by rw [z, hb] at ha; cases ha
