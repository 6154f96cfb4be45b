/-! rows of rows: the instruction's own step, out of the machine's words -/
section MZ
variable {E : CtlPost} {e : Env} {d : Bool} {acts : List Action} {U : State}
/-- a new array whose values are v -/
theorem mz_na {c comp : ClassId} {k : Class} {ty : FieldType} {len : Nat} {v : Value} (hk : U.vm.classes[c]? = some k) (hkd : k.kind = .array comp ty) (h1 : len ≤ e.platform.arrayLengthLimit) (h2 : len * componentBytes ty ≤ e.platform.maxHeapBytes) (hf : fits ty v = true) (h3 : U.heap.size < e.platform.maxCells) (h4 : U.slotsUsed + len ≤ e.platform.maxSlots)
    {Q : Addr → Pre} (hq : ∀ acts', Q U.heap.size d acts' (U.pushCell (arrV c len (fun _ => v)))) : wp (Jvm.newArray c len v) Q E e d acts U := by
  have n1 : ¬ len > e.platform.arrayLengthLimit := by omega
  have n2 : ¬ len * componentBytes ty > e.platform.maxHeapBytes := by omega
  have n3 : ¬ len > e.platform.maxSlots := by omega
  have hcell := arrV_new c len v
  simp only [Jvm.newArray, Jvm.arrayFits, wp_bind', W.ask, W.ite, n1, n2, n3, if_false, wp_pure', W.theClass, hk, hkd, Option.some.injEq, exists_eq_left', W.alloc, Array.size_replicate, hcell]
  refine ⟨h3, h4, fun i x hx => ?_, hq _⟩
  have hx' : x = v := by
    rw [Array.getElem?_replicate] at hx
    by_cases hi : i < len
    · rw [if_pos hi] at hx; exact (Option.some.inj hx).symm
    · rw [if_neg hi] at hx; cases hx
  subst hx'
  simp [State.fitsSlot, State.slotType?, hk, hkd, hf]
end MZ
/-- one instruction, its end known by what holds there -/
theorem mz_instr {tb : Tables} [Ours tb] {e : Env} {below : List Frame} {s : State} {f : JFrame} {c : Code} {P : State → Prop} {i : Instr} {len : Nat} (h : At s f.method c below) (hd : decode c.code f.pc = .ok (i, len))
    (hw : wpRun (tb.exec i) (fun _ s₁ _ => ∀ acts, ∃ t, Steps tb e below (afterInstr e len (.ok () s₁ acts)).1 t ∧ P t) (fun _ _ _ => False) e (s.setTop f)) : ∃ t, Steps tb e below (s.setTop f) t ∧ P t := by
  have hw' := (wpRun_iff_run _ _ _ _ _).mp hw
  cases hr : (tb.exec i).run e (s.setTop f) with
  | ok a s₁ acts =>
    rw [hr] at hw'
    obtain ⟨t, h1, h2⟩ := hw' acts
    refine ⟨t, Steps.head ⟨h.running, by rw [State.curStatus?_setTop]; exact h.runnable, by rw [State.alone_setTop]; exact h.alone⟩ (h.within f) ?_, h2⟩
    rw [stepThread_java (State.frames_setTop' f h.top) h.plain h.code hd, hr]
    exact h1
  | ctl x s₁ acts =>
    rw [hr] at hw'
    cases x <;> exact (hw' : False).elim
/-- behind i rows: who stands where -/
def mz_I (p : Program) (l : Launch) (e : Env) (R : Room) (s : State) (m : MethodId) (args : Array Value) (below : List Frame) (meth : Method) (c : Code) (v1 : Vm) (H : Heap) (locs : List Loc) (cells slots : Nat) (cA cB : ClassId) (N M i : Nat) (V : State) : Prop :=
  Stand p l e R s m args below meth c V locs (cells + (1 + i)) (slots + (N + i * M)) ∧ V.vm = v1 ∧ V.heap.size = H.size + 1 + i ∧ V.heap[H.size]? = some (arrV cA N (fun j => va_rf (if j < i then some (H.size + 1 + j) else none))) ∧ (∀ j, j < i → V.heap[H.size + 1 + j]? = some (arrV cB M (fun _ => .long 0))) ∧ ∀ q : Nat, q < H.size → V.heap[q]? = H[q]?
section MZI
variable {p : Program} {l : Launch} {e : Env} {R : Room} {s : State} {m : MethodId} {args : Array Value} {below : List Frame} {meth : Method} {c : Code} {v1 : Vm} {H : Heap} {locs : List Loc} {cells slots : Nat} {cA cB : ClassId} {N M i : Nat} {V : State}
theorem mz_0 (X : Stand p l e R s m args below meth c V locs cells slots) (hv : V.vm = v1) (hH : V.heap = H) : mz_I p l e R s m args below meth c v1 H locs cells slots cA cB N M 0 (V.pushCell (arrV cA N (fun _ => .null))) := by
  have h := X.pushed (arrV cA N (fun _ => .null))
  rw [arrV_size] at h
  refine ⟨by simpa using h, hv, by simp [hH], ?_, fun j hj => absurd hj (by omega), fun q hq => ?_⟩
  · rw [← hH]
    show (V.heap.push _)[V.heap.size]? = _
    rw [Array.getElem?_push_size]
    rfl
  · show (V.heap.push _)[q]? = _
    rw [hH, Array.getElem?_push, if_neg (Nat.ne_of_lt hq)]
theorem mz_1 (h : mz_I p l e R s m args below meth c v1 H locs cells slots cA cB N M i V) (hs : s.heap.size ≤ H.size) :
    mz_I p l e R s m args below meth c v1 H locs cells slots cA cB N M (i + 1) ((V.pushCell (arrV cB M (fun _ => .long 0))).setCell H.size ((arrV cA N (fun j => va_rf (if j < i then some (H.size + 1 + j) else none))).setSlot i (.ref (H.size + 1 + i)))) := by
  obtain ⟨X, hv, hz, ho, hi, hq⟩ := h
  have push : ∀ q : Nat, q < V.heap.size → (V.pushCell (arrV cB M (fun _ => .long 0))).heap[q]? = V.heap[q]? := fun q h9 => by
    show (V.heap.push _)[q]? = _
    rw [Array.getElem?_push, if_neg (Nat.ne_of_lt h9)]
  have last : (V.pushCell (arrV cB M (fun _ => .long 0))).heap[V.heap.size]? = some (arrV cB M (fun _ => .long 0)) := by
    show (V.heap.push _)[V.heap.size]? = _
    rw [Array.getElem?_push_size]
  have ho' : (V.pushCell (arrV cB M (fun _ => .long 0))).heap[H.size]? = some (arrV cA N (fun j => va_rf (if j < i then some (H.size + 1 + j) else none))) := by rw [push _ (by omega)]; exact ho
  have X2 := (X.pushed (arrV cB M (fun _ => .long 0))).stored ho' i (.ref (H.size + 1 + i))
  rw [arrV_size] at X2
  have X3 := X2.dropFresh (fun x hx => by rw [List.mem_singleton.mp hx]; exact hs)
  have other : ∀ (q : Nat) (c9 : Cell), q ≠ H.size → ((V.pushCell (arrV cB M (fun _ => .long 0))).setCell H.size c9).heap[q]? = (V.pushCell (arrV cB M (fun _ => .long 0))).heap[q]? := fun q c9 h9 => by
    rw [State.heap_setCell, Array.getElem?_setIfInBounds, if_neg (Ne.symm h9)]
  have hlt : H.size < (V.pushCell (arrV cB M (fun _ => .long 0))).heap.size := by
    show H.size < (V.heap.push (arrV cB M (fun _ => .long 0))).size
    rw [Array.size_push, hz]
    omega
  refine ⟨?_, hv, ?_, ?_, fun j hj => ?_, fun q h9 => ?_⟩
  · rw [show cells + (1 + (i + 1)) = cells + (1 + i) + 1 by omega, show slots + (N + (i + 1) * M) = slots + (N + i * M) + M by rw [Nat.succ_mul]; omega]
    exact X3
  · rw [State.heap_setCell, Array.size_setIfInBounds]
    show (V.heap.push _).size = _
    rw [Array.size_push, hz]
    omega
  · rw [State.heap_setCell, Array.getElem?_setIfInBounds, if_pos rfl, if_pos hlt, arrV_store]
    congr 2
    funext j
    unfold updV
    by_cases e9 : j = i
    · rw [if_pos e9, if_pos (by omega), e9]; rfl
    · rw [if_neg e9]
      show va_rf (if j < i then some (H.size + 1 + j) else none) = _
      by_cases e8 : j < i
      · rw [if_pos e8, if_pos (by omega)]
      · rw [if_neg e8, if_neg (by omega)]
  · rw [other _ _ (by omega)]
    by_cases e9 : j = i
    · rw [e9, ← hz]; exact last
    · rw [push _ (by omega)]; exact hi j (by omega)
  · rw [other _ _ (by omega), push _ (by omega)]; exact hq q h9
end MZI
section MZR
variable {p : Program} {l : Launch} {e : Env} {R : Room} {s : State} {m : MethodId} {args : Array Value} {below : List Frame} {meth : Method} {c : Code} {H : Heap} {locs : List Loc} {cells slots : Nat}
/-- the loop over the outer array: each turn makes a row and stores it -/
theorem mz_loop {E : CtlPost} {d : Bool} {acts : List Action} {v1 : Vm} {g : JFrame} {cA cB pB : ClassId} {kA kB : Class} {N M : Nat} {k : Int32} {V : State} (hkA : v1.classes[cA]? = some kA) (hdA : kA.kind = .array cB (.array .long)) (hkB : v1.classes[cB]? = some kB) (hdB : kB.kind = .array pB .long) (hk : ¬ k < 0) (eM : k.toNatClampNeg = M) (h1 : M ≤ e.platform.arrayLengthLimit) (h2 : M * 8 ≤ e.platform.maxHeapBytes) (hs : s.heap.size ≤ H.size) (hc : cells + (1 + N) ≤ R.cells) (hsl : slots + (N + N * M) ≤ R.slots)
    (h0 : mz_I p l e R s m args below meth c v1 H locs cells slots cA cB N M 0 V) {Q : PUnit → Pre} (hq : ∀ (V' : State) (d' : Bool) (acts' : List Action), mz_I p l e R s m args below meth c v1 H locs cells slots cA cB N M N V' → Q PUnit.unit d' acts' (V'.setTop g)) :
    wp (forIn (List.range' 0 N 1) PUnit.unit (fun i _ => do
      let a ← multianewarray.make cB [k]
      Jvm.writeLoc H.size i (.ref a)
      Pure.pure (ForInStep.yield PUnit.unit))) Q E e d acts (V.setTop g) := by
  refine wp_forIn_inv (fun todo V' => ∃ (i : Nat) (V9 : State), i ≤ N ∧ todo = List.range' i (N - i) 1 ∧ V' = V9.setTop g ∧ mz_I p l e R s m args below meth c v1 H locs cells slots cA cB N M i V9) _ _ ⟨0, V, Nat.zero_le _, rfl, rfl, h0⟩ ?_ ?_
  · rintro x todo V' d' acts' Q' ⟨i, V9, hi, htodo, rfl, hI⟩ next
    have hlt : i < N := by
      rcases Nat.lt_or_ge i N with h | h
      · exact h
      · rw [show N - i = 0 by omega] at htodo
        cases htodo
    rw [show N - i = (N - (i + 1)) + 1 by omega, List.range'_succ] at htodo
    injection htodo with e1 e2
    subst e1
    have hI2 := mz_1 hI hs
    obtain ⟨X, hv, hz, ho, -, -⟩ := hI
    obtain ⟨r1, r2⟩ := X.roomAbove (a := 1) (b := M) (by omega) (by
      have h9 := Nat.mul_le_mul_right M (show x + 1 ≤ N from hlt)
      rw [Nat.succ_mul] at h9
      omega)
    have ho' : (V9.pushCell (arrV cB M (fun _ => .long 0))).heap[H.size]? = some (arrV cA N (fun j => va_rf (if j < x then some (H.size + 1 + j) else none))) := by
      show (V9.heap.push _)[H.size]? = _
      rw [Array.getElem?_push, if_neg (by omega)]
      exact ho
    simp only [wp_bind']
    rw [multianewarray.make]
    simp only [wp_bind', W.ite, hk, if_false, wp_pure', W.theClass, State.vm_setTop, hv, hkB, hdB, Option.some.injEq, exists_eq_left', eM]
    refine mz_na (k := kB) (comp := pB) (ty := .long) (by rw [State.vm_setTop, hv]; exact hkB) hdB h1 h2 rfl (by rw [State.heap_setTop]; omega) (by rw [State.slotsUsed_setTop]; omega) (fun acts9 => ?_)
    simp only [State.pushCell_setTop, W.writeLoc, State.heap_setTop]
    refine ⟨_, ho', by simp [arrV], by rw [arrV_size]; exact hlt, ?_, ?_⟩
    · simp [State.fitsSlot, State.slotType?, arrV, State.vm_setTop, hv, hkA, hdA, fits]
    · rw [State.setCell_setTop, hz]
      exact next _ _ _ ⟨x + 1, _, hlt, e2, rfl, hI2⟩
  · rintro V' d' acts' ⟨i, V9, hi, htodo, rfl, hI⟩
    have hiN : i = N := by
      rcases Nat.lt_or_ge i N with h | h
      · rw [show N - i = (N - (i + 1)) + 1 by omega, List.range'_succ] at htodo
        cases htodo
      · omega
    subst hiN
    exact hq V9 d' acts' hI
end MZR
section XWM
variable {p : Program} {l : Launch} {e : Env} {R : Room} {s : State} {m : MethodId} {args : Array Value} {below : List Frame} {meth : Method} {c : Code} {H : Heap} {locs : List Loc} {cells slots : Nat} {Q : State → Prop}
variable {cc : ByteArray} {pc : Nat} {ls : Array Slot} {rest : List Value} {G : g_G} {w : xw_W} {H0 : Heap}
set_option maxHeartbeats 2000000 in
/-- two dimensions: the machine comes behind the instruction, with the rows that were made -/
theorem mz_row (hx : p.tables.exec = Jvm.exec) (hb : c.code = cc) {own : String} {index : Nat} (hown : s.vm.findClass own = some m.cls) (hcl : (Cond.classLink own index "[[J").before args s = true) (harr : (Cond.arrayClass .long).before args s = true) (hal : g_AL s)
    {n k : Int32} {N M : Nat} (hn : n = nI N) (hk : k = nI M) (hN : N * 4 ≤ 536870912) (hM : M * 8 ≤ 536870912) (hcells : cells + (1 + N) ≤ R.cells) (hslots : slots + (N + N * M) ≤ R.slots) (hdg : decode cc pc = .ok (.multianewarray index 2, 4))
    (kk : ∀ (v1 : Vm) (cA cB : ClassId) (V : State), s.vm.findClass "[[J" = some cA → s.vm.findClass "[J" = some cB → mz_I p l e R s m args below meth c v1 H locs cells slots cA cB N M N V →
      ∃ t, Steps p.tables e below (V.setTop (F0 m (pc + 4) ls (.ref H.size :: rest))) t ∧ Q t) : W p l e R s m args below meth c H locs cells slots Q (F0 m pc ls (.int k :: .int n :: rest)) := by
  intro T hT X
  have eN : n.toNatClampNeg = N := by rw [hn]; exact nI_clamp (by omega)
  have eM : k.toNatClampNeg = M := by rw [hk]; exact nI_clamp (by omega)
  have n0 : ¬ n < 0 := by rw [hn]; exact nI_pos (by omega)
  have k0 : ¬ k < 0 := by rw [hk]; exact nI_pos (by omega)
  have hpl : e.platform.magicAccessors = ({} : Platform).magicAccessors := by rw [X.admits.platform]
  obtain ⟨cB, cA, kA, fB0, -, gA, dA, nA⟩ := g_AL.spec hal
  obtain ⟨cB', kB, pB, fB, gB, dB⟩ := Cond.arrayClass_spec harr
  obtain rfl : cB' = cB := Option.some.inj (fB.symm.trans fB0)
  obtain ⟨c0, hc0, hcl0⟩ := Cond.classLink_spec hown hcl e.platform hpl
  obtain rfl : c0 = cA := Option.some.inj (hc0.symm.trans nA)
  obtain ⟨hg1, hw1, -⟩ := State.classEntry (e := e) X.warmed hcl0
  generalize T.vm.noted m.cls index (.cls c0) = v1 at hg1 hw1
  obtain ⟨kA1, gA1, eA1⟩ := hw1.alike.2.2 _ _ gA
  obtain ⟨kB1, gB1, eB1⟩ := hw1.alike.2.2 _ _ gB
  have dA1 : kA1.kind = .array cB' (.array .long) := by rw [eA1]; exact dA
  have dB1 : kB1.kind = .array pB .long := by rw [eB1]; exact dB
  have X1 := X.noted hw1
  obtain ⟨r1, r2⟩ := X.roomAbove hcells hslots
  have hge : s.heap.size ≤ H.size := by rw [← hT]; exact X.heapGrown
  have a1 : N ≤ e.platform.arrayLengthLimit := by rw [Launch.admits_arrayLengthLimit X.admits]; omega
  have a2 : M ≤ e.platform.arrayLengthLimit := by rw [Launch.admits_arrayLengthLimit X.admits]; omega
  have b1 : N * 4 ≤ e.platform.maxHeapBytes := by rw [Launch.admits_maxHeapBytes X.admits]; omega
  have b2 : M * 8 ≤ e.platform.maxHeapBytes := by rw [Launch.admits_maxHeapBytes X.admits]; omega
  have hfind : ([k].find? (· < 0)) = none := by simp [k0]
  refine mz_instr (c := c) (f := F0 m pc ls (.int k :: .int n :: rest)) X.here (by show decode c.code pc = _; rw [hb]; exact hdg) ?_
  rw [hx]
  show wpRun (multianewarray.sem index 2) _ _ e _
  have hm9 : (T.setTop (F0 m pc ls (.int k :: .int n :: rest))).method? = some m := State.method?_setTop (F0 m pc ls (.int k :: .int n :: rest)) X.here.top
  simp only [wpRun, multianewarray.sem, wp_bind']
  refine (W.resolveClassAt_links (mm := m) (vm' := v1) hm9 hg1).mpr ?_
  simp only [wp_bind']
  rw [W.popN, if_neg (by decide)]
  refine ⟨F0 m pc ls (.int k :: .int n :: rest), State.topJava?_setTop' (s := T.setVm v1) _ X.here.top, [.int n, .int k], rest, rfl, rfl, ?_⟩
  simp only [List.mapM_cons, List.mapM_nil, wp_bind', wp_pure', State.setVm_setTop, State.setTop_setTop]
  rw [multianewarray.make]
  simp only [wp_bind', W.ite, n0, if_false, wp_pure', W.theClass, State.vm_setTop, State.vm_setVm, gA1, dA1, Option.some.injEq, exists_eq_left', eN]
  refine mz_na (k := kA1) (comp := cB') (ty := .array .long) (by simpa using gA1) dA1 a1 b1 rfl (by rw [State.heap_setTop]; show T.heap.size < _; omega) (by rw [State.slotsUsed_setTop]; show T.slotsUsed + N ≤ _; have := Nat.zero_le (N * M); omega) (fun acts1 => ?_)
  simp only [hfind]
  have hsz : ((T.setVm v1).setTop { method := m, pc := pc, locals := ls, stack := rest, locked := none }).heap.size = H.size := by rw [State.heap_setTop, ← hT]; rfl
  rw [ite_self, hsz, wp_bind', Std.Legacy.Range.forIn_eq_forIn_range', show ([:N] : Std.Legacy.Range).size = N by simp [Std.Legacy.Range.size]]
  refine mz_loop (v1 := v1) (cA := c0) (cB := cB') (pB := pB) (kA := kA1) (kB := kB1) (M := M) gA1 dA1 gB1 dB1 k0 eM a2 b2 hge hcells hslots (mz_0 X1 rfl hT) (fun V d9 acts9 hI => ?_)
  have top9 := hI.1.here.top
  simp only [wp_pure', wp_bind', W.mark, W.pushRef, State.topJava?_setTop' _ top9, Option.some.injEq, exists_eq_left', State.setTop_setTop]
  intro acts8
  simp only [afterInstr_ok]
  exact kk v1 c0 cB' V nA fB0 hI
end XWM
