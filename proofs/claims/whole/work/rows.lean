section
-- ===== PART A: goes FIRST, ahead of the names: the tables' words, and 'selects' of the private methods out of them =====
/-- a private method of a class that the tables say can be made, by its rows of tables_1 -/
def lw_okq (q : MethodName × Nat) : Prop := (q.1.cls ≠ "java/lang/invoke/MethodHandle" ∧ q.1.cls ≠ "java/lang/invoke/VarHandle") ∧ Cond.instantiable q.1.cls q.2 ∈ tables_1 ∧ Cond.privateMethod q.1 ∈ tables_1 ∧ Cond.instanceMethod q.1 ∈ tables_1
theorem lw_p0 : lw_okq (⟨"java/lang/Throwable", "fillInStackTrace", "(I)Ljava/lang/Throwable;"⟩, 6) := ⟨⟨by decide +kernel, by decide +kernel⟩, List.mem_of_getElem? (i := 164) (by decide +kernel), List.mem_of_getElem? (i := 162) (by decide +kernel), List.mem_of_getElem? (i := 163) (by decide +kernel)⟩
theorem lw_p1 : lw_okq (⟨"RadixShelf", "draftOf", "(LRadixShelf$Sequence;)LRadixShelf$Sequence;"⟩, 4) := ⟨⟨by decide +kernel, by decide +kernel⟩, List.mem_of_getElem? (i := 15) (by decide +kernel), List.mem_of_getElem? (i := 213) (by decide +kernel), List.mem_of_getElem? (i := 214) (by decide +kernel)⟩
theorem lw_p2 : lw_okq (⟨"RadixShelf$Sequence", "position", "(I)I"⟩, 5) := ⟨⟨by decide +kernel, by decide +kernel⟩, List.mem_of_getElem? (i := 57) (by decide +kernel), List.mem_of_getElem? (i := 221) (by decide +kernel), List.mem_of_getElem? (i := 222) (by decide +kernel)⟩
theorem lw_p3 : lw_okq (⟨"RadixShelf$Sequence", "tailBlock", "()I"⟩, 5) := ⟨⟨by decide +kernel, by decide +kernel⟩, List.mem_of_getElem? (i := 57) (by decide +kernel), List.mem_of_getElem? (i := 225) (by decide +kernel), List.mem_of_getElem? (i := 226) (by decide +kernel)⟩
theorem lw_p4 : lw_okq (⟨"RadixShelf$Sequence", "hang", "(ILRadixShelf$Leaf;)V"⟩, 5) := ⟨⟨by decide +kernel, by decide +kernel⟩, List.mem_of_getElem? (i := 57) (by decide +kernel), List.mem_of_getElem? (i := 229) (by decide +kernel), List.mem_of_getElem? (i := 230) (by decide +kernel)⟩
theorem lw_p5 : lw_okq (⟨"RadixShelf$Sequence", "write", "(IJ)V"⟩, 5) := ⟨⟨by decide +kernel, by decide +kernel⟩, List.mem_of_getElem? (i := 57) (by decide +kernel), List.mem_of_getElem? (i := 265) (by decide +kernel), List.mem_of_getElem? (i := 266) (by decide +kernel)⟩
theorem lw_p6 : lw_okq (⟨"RadixShelf$Sequence", "leafOf", "(I)LRadixShelf$Leaf;"⟩, 5) := ⟨⟨by decide +kernel, by decide +kernel⟩, List.mem_of_getElem? (i := 57) (by decide +kernel), List.mem_of_getElem? (i := 269) (by decide +kernel), List.mem_of_getElem? (i := 270) (by decide +kernel)⟩
theorem lw_p7 : lw_okq (⟨"RadixShelf", "presentBuilder", "()LRadixShelf$Sequence;"⟩, 4) := ⟨⟨by decide +kernel, by decide +kernel⟩, List.mem_of_getElem? (i := 15) (by decide +kernel), List.mem_of_getElem? (i := 406) (by decide +kernel), List.mem_of_getElem? (i := 407) (by decide +kernel)⟩
theorem lw_p8 : lw_okq (⟨"RadixShelfModel", "good", "(ZI)Z"⟩, 4) := ⟨⟨by decide +kernel, by decide +kernel⟩, List.mem_of_getElem? (i := 418) (by decide +kernel), List.mem_of_getElem? (i := 451) (by decide +kernel), List.mem_of_getElem? (i := 452) (by decide +kernel)⟩
theorem lw_p9 : lw_okq (⟨"RadixShelfModel", "copy", "(II)V"⟩, 4) := ⟨⟨by decide +kernel, by decide +kernel⟩, List.mem_of_getElem? (i := 418) (by decide +kernel), List.mem_of_getElem? (i := 455) (by decide +kernel), List.mem_of_getElem? (i := 456) (by decide +kernel)⟩
def lw_privs_1 : List (MethodName × Nat) := [(⟨"java/lang/Throwable", "fillInStackTrace", "(I)Ljava/lang/Throwable;"⟩, 6), (⟨"RadixShelf", "draftOf", "(LRadixShelf$Sequence;)LRadixShelf$Sequence;"⟩, 4), (⟨"RadixShelf$Sequence", "position", "(I)I"⟩, 5), (⟨"RadixShelf$Sequence", "tailBlock", "()I"⟩, 5), (⟨"RadixShelf$Sequence", "hang", "(ILRadixShelf$Leaf;)V"⟩, 5), (⟨"RadixShelf$Sequence", "write", "(IJ)V"⟩, 5), (⟨"RadixShelf$Sequence", "leafOf", "(I)LRadixShelf$Leaf;"⟩, 5), (⟨"RadixShelf", "presentBuilder", "()LRadixShelf$Sequence;"⟩, 4), (⟨"RadixShelfModel", "good", "(ZI)Z"⟩, 4), (⟨"RadixShelfModel", "copy", "(II)V"⟩, 4)]
theorem lw_r1 : ∀ q ∈ lw_privs_1, lw_okq q := List.forall_mem_cons.mpr ⟨lw_p0, List.forall_mem_cons.mpr ⟨lw_p1, List.forall_mem_cons.mpr ⟨lw_p2, List.forall_mem_cons.mpr ⟨lw_p3, List.forall_mem_cons.mpr ⟨lw_p4, List.forall_mem_cons.mpr ⟨lw_p5, List.forall_mem_cons.mpr ⟨lw_p6, List.forall_mem_cons.mpr ⟨lw_p7, List.forall_mem_cons.mpr ⟨lw_p8, List.forall_mem_cons.mpr ⟨lw_p9, fun _ h => absurd h List.not_mem_nil⟩⟩⟩⟩⟩⟩⟩⟩⟩⟩
def lw_privs : List (MethodName × Nat) := lw_privs_1
def lw_tbl : List Cond := k2_sels lw_privs ++ tables_1
theorem lw_privs_ok : ∀ q ∈ lw_privs, lw_okq q := lw_r1
end
section
/-! ===== BEGIN words of one list among another's, by their places ===== -/
theorem goodIn_r {big : List Cond} (ws : List Cond) (ps : List Nat) (hp : ws = ps.filterMap (fun i => big[i]?)) (h : ws.all goodWord = true) : GoodIn big ws := by
  intro w hw
  have h1 := List.all_eq_true.mp h w hw
  rw [hp] at hw
  obtain ⟨i, -, hi⟩ := List.mem_filterMap.mp hw
  have hm : w ∈ big := by first | exact List.mem_of_getElem? hi | exact List.getElem?_mem hi
  exact ⟨hm, good_of_word h1⟩
theorem goodIn_app {big a b : List Cond} (ha : GoodIn big a) (hb : GoodIn big b) : GoodIn big (a ++ b) := fun w h => (List.mem_append.mp h).elim (ha w) (hb w)
theorem goodIn_ca {big a b : List Cond} {c : Cond} (ha : GoodIn big (c :: a)) (hb : GoodIn big b) : GoodIn big (c :: (a ++ b)) := fun w h => (List.mem_cons.mp h).elim (fun e => ha w (List.mem_cons.mpr (Or.inl e))) (fun h => (List.mem_append.mp h).elim (fun h => ha w (List.mem_cons.mpr (Or.inr h))) (hb w))
theorem goodIn_sub {big ws : List Cond} (hm : ∀ w ∈ ws, w ∈ big) (h : ws.all goodWord = true) : GoodIn big ws := fun w hw => ⟨hm w hw, good_of_word (List.all_eq_true.mp h w hw)⟩
/-! ===== END ===== -/

/-! ===== BEGIN exceptions that leave a method, and their catching by the caller (launches without stack traces) ===== -/
section VXA
/-! The laws vx_back, vx_callV, vx_callS, vx_callSW, vx_throw0, vx_throwS follow proofs of the library, with one case more: JvmDerived/Free/Laws.lean (Back.of_free), Shelf42/LK1.lean (callV, callS), Shelf/KitTraced.lean (throwNew0V, throwNewS). -/
/-- where a method has thrown q: the class by its name, the cell, what was written, the world -/
def vx_T (XC : String → State → State → Prop) (st : State) (q : Addr) (t : State) (mc ms : Nat) (free : Addr → Prop) : Prop :=
  ∃ (E : String) (ce : Cell) (L : List Loc), XC E st t ∧ t.heap[q]? = some ce ∧ ce.vm = .none ∧ st.vm.findClass E = some ce.cls ∧ st.WarmedH t.vm ∧ st.sameButNew ({ t with vm := st.vm } : State) L mc ms ∧ ∀ z ∈ L, free z.base
def vx_Q (Qc : Array Value → State → Outcome → State → Prop) (XC : String → State → State → Prop) (mc ms : Nat) (free : Addr → Prop) : Array Value → State → Outcome → State → Prop := fun a st o t =>
  (Qc a st o t ∧ ∃ L, FrameEnd st o t L mc ms ∧ ∀ q ∈ L, free q.base) ∨ ∃ q, o = .threw q ∧ vx_T XC st q t mc ms free
/-- a callee that returns or throws -/
def vx_Met (l : Launch) (y : MethodName) (ws : List Cond) (rm : Room) (Pc : Array Value → State → Prop) (Qc : Array Value → State → Outcome → State → Prop) (XC : String → State → State → Prop) (mc ms : Nat) (free : Addr → Prop) : Prop :=
  MetFree l y (headSpec ws rm) Pc (fun _ _ _ _ _ => True) (vx_Q Qc XC mc ms free)
def vx_Post (XC : String → State → State → Prop) (mc ms : Nat) (free : Addr → Prop) : Pt → Array Value → Addr → Pt → Prop := fun A a q B =>
  ∃ (g : JFrame) (mk : MethodId) (t : State) (L : List Loc) (E : String) (ce : Cell), B.U.heap = t.heap ∧ B.U.vm = t.vm ∧ XC E (A.U.calling g mk a) t ∧ t.heap[q]? = some ce ∧ ce.vm = .none ∧ A.U.vm.findClass E = some ce.cls ∧ B.locs = A.locs ++ L ∧ (∀ z ∈ L, free z.base) ∧ B.cells = A.cells + mc ∧ B.slots = A.slots + ms
def vx_Back (l : Launch) (R : Room) (p : Program) (e : Env) (below : List Frame) (s : State) (sargs : Array Value) (y : MethodName) (len W9 : Nat)
    (Pre : Pt → Array Value → Prop) (Post : Pt → Array Value → Option Value → Pt → Prop) (PostX : Pt → Array Value → Addr → Pt → Prop) : Prop :=
  ∀ (m : MethodId) (meth : Method) (c : Code) (A : Pt) (g : JFrame) (ig : Instr) (mk : MethodId) (a : Array Value),
    Stand p l e R s m sargs below meth c A.U A.locs A.cells A.slots → g.method = m → g.locals.size = c.maxLocals → decode c.code g.pc = .ok (ig, len) →
    2 * g.monitorRoom + (g.stack.map fun v => v.category).sum ≤ W9 → A.U.methodNamed? y = some mk → Pre A a →
    (∃ (v : Option Value) (B : Pt), Stand p l e R s m sargs below meth c B.U B.locs B.cells B.slots ∧ Post A a v B ∧
      Steps p.tables e below (doInvoke e (A.U.setTop g) [] mk a).1 (B.U.setTop { g with pc := g.pc + len, stack := v.toList ++ g.stack })) ∨
    (∃ (q : Addr) (B : Pt), Stand p l e R s m sargs below meth c B.U B.locs B.cells B.slots ∧ PostX A a q B ∧
      Steps p.tables e below (doInvoke e (A.U.setTop g) [] mk a).1 ((B.U.setTop g).pushFrame (.throwing q)))
section Payer
variable {l : Launch} {R : Room} {p : Program} {e : Env} {below : List Frame} {s : State} {sargs : Array Value} {y : MethodName} {len W9 : Nat}
theorem vx_back {ws : List Cond} {rm : Room} {Pc : Array Value → State → Prop} {Qc : Array Value → State → Outcome → State → Prop} {XC : String → State → State → Prop} {mc ms : Nat} {free : Addr → Prop} {bytes : ByteArray} {maxL : Nat} {ret : Option FieldType}
    (hM : vx_Met l y ws rm Pc Qc XC mc ms free) (hblind : FrameBlind Pc) (hrc : rm.cells = mc) (hrs : rm.slots = ms)
    (hframes : rm.frames + 1 ≤ R.frames) (hlocals : W9 + (maxL + 11) + rm.locals ≤ R.locals)
    (hws : ∀ w ∈ ws, ∀ a' U, s.WarmedH U.vm → w.before a' U = true) (hcode : Cond.code y bytes maxL ret ∈ ws) (hinit : ∀ a' U, s.WarmedH U.vm → (Cond.initialized y.cls).before a' U = true) :
    vx_Back l R p e below s sargs y len W9 (PreOf R mc ms Pc) (PostOf Qc mc ms free) (vx_Post XC mc ms free) := by
  intro m meth c A g ig mk a X hg hsize hdg hW hn hp
  have h1 : (headSpec ws rm).pre.before a A.U = true := atoms_intro fun w hw => hws w hw _ _ X.warmed
  have h2 : (Cond.code y bytes maxL ret).before a A.U = true := hws _ hcode _ _ X.warmed
  have h3 : (Cond.initialized y.cls).before a A.U = true := hinit _ _ X.warmed
  have h4 : A.cells + (headSpec ws rm).room.cells ≤ R.cells := by rw [show (headSpec ws rm).room.cells = mc from hrc]; exact hp.1
  have h5 : A.slots + (headSpec ws rm).room.slots ≤ R.slots := by rw [show (headSpec ws rm).room.slots = ms from hrs]; exact hp.2.1
  have hPc : Pc a (A.U.calling g mk a) := hblind _ _ _ _ hp.2.2
  obtain ⟨U, Ls, c0, s0⟩ := A
  dsimp only [Pt.U, Pt.locs, Pt.cells, Pt.slots] at h1 h2 h3 h4 h5 X hn hPc ⊢
  obtain ⟨methY, cY, hmY, hcY, -, hlY, -, -, -, -⟩ := Cond.code_spec hn h2
  obtain ⟨kY, hkY, -⟩ := className_of_methodNamed hn
  have hinitY : kY.init = .initialized := Cond.initialized_spec (findClass_of_methodNamed hn) hkY h3
  have h : At U g.method c below := by rw [hg]; exact X.here
  have hlocals9 : W9 + (maxL + 11) + (headSpec ws rm).room.locals ≤ R.locals := hlocals
  have happ : (headSpec ws rm).appliesLoose y e.platform (U.calling g mk a) = true :=
    Spec.appliesLoose_calling (g := g) h hdg hn hkY hinitY
      (X.room_calling (g := g) (R' := (headSpec ws rm).room) hsize hmY hcY hframes (by rw [hlY]; omega) h4 h5) h1
  obtain ⟨mid, hmid⟩ := h.above
  have hfr : (U.setTop g).frames = (.java g :: mid) ++ below := by rw [State.frames_setTop' g h.top, hmid]; rfl
  obtain ⟨o, s₂, hsteps, -, hend, hq⟩ := Steps.callFree hM p X.admits X.cas X.clock (acts := []) hfr happ hPc trivial
  have hq' : vx_Q Qc XC mc ms free a (U.calling g mk a) o s₂ := hq
  rw [State.frames_setTop' g h.top] at hend
  obtain ⟨g₀, hg0⟩ := Option.isSome_iff_exists.mp h.top
  obtain ⟨r, hr⟩ := State.topJava?_eq_some.mp hg0
  have hr' : (({ U with heap := s₂.heap, slotsUsed := s₂.slotsUsed } : State).setVm s₂.vm).frames = .java g₀ :: r := hr
  rcases hq' with ⟨hqc, L, hfe, hL⟩ | ⟨q, rfl, E, ce, L, hx, hce, hcv, hcl, hW₂, hsm, hL⟩
  · obtain ⟨⟨v, rfl⟩, hW₂, e2, q2, q3, q4, q5, q6⟩ := id hfe
    have e3 : s₂ = ({ (U.calling g mk a).setFrames s₂.frames with heap := s₂.heap, slotsUsed := s₂.slotsUsed } : State).setVm s₂.vm := by
      have : s₂ = ({ s₂ with vm := (U.calling g mk a).vm } : State).setVm s₂.vm := rfl
      rw [e2] at this
      exact this
    obtain ⟨c₂, i₂, len₂, hc₂, hd₂, hf₂⟩ := hend
    have hW' : U.WarmedH s₂.vm := hW₂
    have hcc : c₂ = c := by
      have h1 : s₂.code? g.method = U.code? g.method := by
        rw [State.code?_eq, State.code?_eq, hW'.alike.method?]
      exact Option.some.inj (hc₂.symm.trans (h1.trans h.code))
    subst hcc
    have hlen : len₂ = len := by rw [hdg] at hd₂; cases hd₂; rfl
    subst hlen
    have hs₂ : s₂ = (({ U with heap := s₂.heap, slotsUsed := s₂.slotsUsed } : State).setVm s₂.vm).setTop { g with pc := g.pc + len₂, stack := v.toList ++ g.stack } := by
      refine e3.trans ?_
      rw [hf₂, State.calling_eq h.top, State.setFrames_setFrames, State.setTop_of_frames _ hr', hr]
      rfl
    have hsame : U.sameButNew ({ U with heap := s₂.heap, slotsUsed := s₂.slotsUsed } : State) L mc ms := by
      refine ⟨?_, q2, q3, q4, q5, q6⟩
      obtain ⟨t, ht, -⟩ := State.frames_cons hr
      show ({ U with heap := s₂.heap, slotsUsed := s₂.slotsUsed } : State) = { U.setFrames U.frames with heap := s₂.heap, slotsUsed := s₂.slotsUsed }
      rw [State.setFrames_self ht]
    subst hg
    refine Or.inl ⟨v, ⟨(({ U with heap := s₂.heap, slotsUsed := s₂.slotsUsed } : State).setVm s₂.vm), Ls ++ L, c0 + mc, s0 + ms⟩,
      ⟨X.admits, X.cas, X.clock, X.frames, X.room, X.hears, X.method, X.code, (X.here.setHeapUsed s₂.heap s₂.slotsUsed).setVm hW'.alike, X.tail, State.WarmedH.trans X.warmed hW', X.limits, X.bytes, X.same.trans (hsame.setVm s.vm)⟩,
      ⟨g, mk, s₂, L, rfl, rfl, hqc, rfl, hL, rfl, rfl⟩, ?_⟩
    show Steps p.tables e below _ ((({ U with heap := s₂.heap, slotsUsed := s₂.slotsUsed } : State).setVm s₂.vm).setTop { g with pc := g.pc + len₂, stack := v.toList ++ g.stack })
    rw [← hs₂]
    exact hsteps
  · obtain ⟨e2, q2, q3, q4, q5, q6⟩ := id hsm
    have e3 : s₂ = ({ (U.calling g mk a).setFrames s₂.frames with heap := s₂.heap, slotsUsed := s₂.slotsUsed } : State).setVm s₂.vm := by
      have : s₂ = ({ s₂ with vm := (U.calling g mk a).vm } : State).setVm s₂.vm := rfl
      rw [e2] at this
      exact this
    have hf₂ : s₂.frames = .throwing q :: .java g :: U.frames.tail := hend
    have hW' : U.WarmedH s₂.vm := hW₂
    have hs₂ : s₂ = ((({ U with heap := s₂.heap, slotsUsed := s₂.slotsUsed } : State).setVm s₂.vm).setTop g).pushFrame (.throwing q) := by
      refine e3.trans ?_
      rw [hf₂, State.calling_eq h.top, State.setFrames_setFrames, State.pushFrame, State.frames_setTop _ hr', State.setTop_of_frames _ hr', State.setFrames_setFrames, hr]
      rfl
    have hsame : U.sameButNew ({ U with heap := s₂.heap, slotsUsed := s₂.slotsUsed } : State) L mc ms := by
      refine ⟨?_, q2, q3, q4, q5, q6⟩
      obtain ⟨t, ht, -⟩ := State.frames_cons hr
      show ({ U with heap := s₂.heap, slotsUsed := s₂.slotsUsed } : State) = { U.setFrames U.frames with heap := s₂.heap, slotsUsed := s₂.slotsUsed }
      rw [State.setFrames_self ht]
    subst hg
    refine Or.inr ⟨q, ⟨(({ U with heap := s₂.heap, slotsUsed := s₂.slotsUsed } : State).setVm s₂.vm), Ls ++ L, c0 + mc, s0 + ms⟩,
      ⟨X.admits, X.cas, X.clock, X.frames, X.room, X.hears, X.method, X.code, (X.here.setHeapUsed s₂.heap s₂.slotsUsed).setVm hW'.alike, X.tail, State.WarmedH.trans X.warmed hW', X.limits, X.bytes, X.same.trans (hsame.setVm s.vm)⟩,
      ⟨g, mk, s₂, L, E, ce, rfl, rfl, hx, hce, hcv, hcl, rfl, hL, rfl, rfl⟩, ?_⟩
    show Steps p.tables e below _ (((({ U with heap := s₂.heap, slotsUsed := s₂.slotsUsed } : State).setVm s₂.vm).setTop g).pushFrame (.throwing q))
    rw [← hs₂]
    exact hsteps
end Payer
section Calls
variable {p : Program} {l : Launch} {e : Env} {R : Room} {s : State} {m : MethodId} {args : Array Value} {below : List Frame} {meth : Method} {c : Code} {T : State} {locs : List Loc} {cells slots : Nat}
theorem vx_callV (X : Stand p l e R s m args below meth c T locs cells slots) (hexec : p.tables.exec = Jvm.exec) {own C : String} {index : Nat} {y : MethodName} {bytes : ByteArray} {maxL : Nat} {ret : Option FieldType}
    (hown : s.vm.findClass own = some m.cls) (hlink : (Cond.methodLink own index y).before args s = true) (hinst : (Cond.instanceMethod y).before args s = true) (hsel : (Cond.selects C y y).before args s = true)
    (hcode : (Cond.code y bytes maxL ret).before args s = true) (hy : y.cls ≠ "java/lang/invoke/MethodHandle" ∧ y.cls ≠ "java/lang/invoke/VarHandle")
    {W9 : Nat} {Pre : Pt → Array Value → Prop} {Post : Pt → Array Value → Option Value → Pt → Prop} {PostX : Pt → Array Value → Addr → Pt → Prop} (hK : vx_Back l R p e below s args y 3 W9 Pre Post PostX)
    {b : Addr} {cellB : Cell} (hcell : T.heap[b]? = some cellB) (hobj : cellB.vm.isStatics = false) (hcls : s.vm.findClass C = some cellB.cls)
    {g : JFrame} (hg : g.method = m) (hsize : g.locals.size = c.maxLocals) {argsL rest : List Value} (hlen : ∀ sig, parseMethodDescriptor y.desc = some sig → argsL.length = sig.parameters.length)
    (hstack : g.stack = argsL.reverse ++ .ref b :: rest) (hW : 2 * g.monitorRoom + (rest.map fun v => v.category).sum ≤ W9) (hdg : decode c.code g.pc = .ok (.invokevirtual index, 3))
    (hpre : ∀ vm₁, s.WarmedH vm₁ → Pre ⟨T.setVm vm₁, locs, cells, slots⟩ (Value.ref b :: argsL).toArray) :
    (∃ (v : Option Value) (vm₁ : Vm) (B : Pt), s.WarmedH vm₁ ∧ Stand p l e R s m args below meth c B.U B.locs B.cells B.slots ∧ Post ⟨T.setVm vm₁, locs, cells, slots⟩ (Value.ref b :: argsL).toArray v B ∧
      ∀ target, Steps p.tables e below (B.U.setTop { g with pc := g.pc + 3, stack := v.toList ++ rest }) target → Steps p.tables e below (T.setTop g) target) ∨
    (∃ (q : Addr) (vm₁ : Vm) (B : Pt), s.WarmedH vm₁ ∧ Stand p l e R s m args below meth c B.U B.locs B.cells B.slots ∧ PostX ⟨T.setVm vm₁, locs, cells, slots⟩ (Value.ref b :: argsL).toArray q B ∧
      Steps p.tables e below (T.setTop g) ((B.U.setTop { g with stack := rest }).pushFrame (.throwing q))) := by
  obtain ⟨mk, methM, hnamed, hmethM, hstM, habM⟩ := Cond.instanceMethod_spec hinst
  obtain ⟨methM', cM, hmethM', -, -, -, -, -, -, hsigM⟩ := Cond.code_spec hnamed hcode
  cases hmethM.symm.trans hmethM'
  obtain ⟨c2, r2, m2, q1, q2, q3, q4, kP, hkP, hkPi⟩ := Cond.selects_spec hsel
  cases hcls.symm.trans q1
  cases (State.methodFound?_of_named hnamed hy).symm.trans q2
  cases hnamed.symm.trans q3
  have hselP : selectMethod e.platform s.vm cellB.cls mk = .method mk := by rw [Launch.admits_selectMethod X.admits]; exact q4
  obtain ⟨vm₁, X₁, hstep₁⟩ := X.invokevirtual hexec hown hlink hnamed hmethM hstM hkP hkPi hy (a := b) (cell := cellB) hcell
    (fun z h => by rw [h] at hobj; cases hobj) hselP hmethM habM hkP hkPi (g := g) hg (argsL := argsL) (rest := rest) (hlen _ hsigM) hstack hdg
  rcases hK m meth c ⟨T.setVm vm₁, locs, cells, slots⟩ { g with stack := rest } (.invokevirtual index) mk (Value.ref b :: argsL).toArray X₁ hg hsize hdg hW (X₁.named hnamed) (hpre vm₁ X₁.warmed) with ⟨v, B, X', hpost, hsteps⟩ | ⟨q, B, X', hpost, hsteps⟩
  · exact Or.inl ⟨v, vm₁, B, X₁.warmed, X', hpost, fun target h => hstep₁ _ fun acts => by rw [doInvoke_state]; exact hsteps.trans h⟩
  · exact Or.inr ⟨q, vm₁, B, X₁.warmed, X', hpost, hstep₁ _ fun acts => by rw [doInvoke_state]; exact hsteps⟩
theorem vx_callS (X : Stand p l e R s m args below meth c T locs cells slots) (hexec : p.tables.exec = Jvm.exec) {own : String} {index : Nat} {y : MethodName} {bytes : ByteArray} {maxL : Nat} {ret : Option FieldType}
    (hown : s.vm.findClass own = some m.cls) (hlink : (Cond.methodLink own index y).before args s = true) (hstat : (Cond.static y).before args s = true) (hinit : (Cond.initialized y.cls).before args s = true)
    (hcode : (Cond.code y bytes maxL ret).before args s = true) (hy : y.cls ≠ "java/lang/invoke/MethodHandle" ∧ y.cls ≠ "java/lang/invoke/VarHandle")
    {W9 : Nat} {Pre : Pt → Array Value → Prop} {Post : Pt → Array Value → Option Value → Pt → Prop} {PostX : Pt → Array Value → Addr → Pt → Prop} (hK : vx_Back l R p e below s args y 3 W9 Pre Post PostX)
    {g : JFrame} (hg : g.method = m) (hsize : g.locals.size = c.maxLocals) {argsL rest : List Value} (hlen : ∀ sig, parseMethodDescriptor y.desc = some sig → argsL.length = sig.parameters.length)
    (hstack : g.stack = argsL.reverse ++ rest) (hW : 2 * g.monitorRoom + (rest.map fun v => v.category).sum ≤ W9) (hdg : decode c.code g.pc = .ok (.invokestatic index, 3))
    (hpre : ∀ vm₁, s.WarmedH vm₁ → Pre ⟨T.setVm vm₁, locs, cells, slots⟩ argsL.toArray) :
    (∃ (v : Option Value) (vm₁ : Vm) (B : Pt), s.WarmedH vm₁ ∧ Stand p l e R s m args below meth c B.U B.locs B.cells B.slots ∧ Post ⟨T.setVm vm₁, locs, cells, slots⟩ argsL.toArray v B ∧
      ∀ target, Steps p.tables e below (B.U.setTop { g with pc := g.pc + 3, stack := v.toList ++ rest }) target → Steps p.tables e below (T.setTop g) target) ∨
    (∃ (q : Addr) (vm₁ : Vm) (B : Pt), s.WarmedH vm₁ ∧ Stand p l e R s m args below meth c B.U B.locs B.cells B.slots ∧ PostX ⟨T.setVm vm₁, locs, cells, slots⟩ argsL.toArray q B ∧
      Steps p.tables e below (T.setTop g) ((B.U.setTop { g with stack := rest }).pushFrame (.throwing q))) := by
  obtain ⟨mk, hnamed⟩ := Cond.code_named hcode
  obtain ⟨methM, cM, hmethM, -, -, -, -, -, -, hsigM⟩ := Cond.code_spec hnamed hcode
  have hstatic : methM.isStatic = true := Cond.static_spec hnamed hmethM hstat
  obtain ⟨kP, hkP, -⟩ := className_of_methodNamed hnamed
  have hinitP : kP.init = .initialized := Cond.initialized_spec (findClass_of_methodNamed hnamed) hkP hinit
  obtain ⟨vm₁, X₁, hstep₁⟩ := X.invokestatic hexec hown hlink hnamed hmethM hstatic hkP hinitP hy (g := g) hg (argsL := argsL) (rest := rest) (hlen _ hsigM) hstack hdg
  rcases hK m meth c ⟨T.setVm vm₁, locs, cells, slots⟩ { g with stack := rest } (.invokestatic index) mk argsL.toArray X₁ hg hsize hdg hW (X₁.named hnamed) (hpre vm₁ X₁.warmed) with ⟨v, B, X', hpost, hsteps⟩ | ⟨q, B, X', hpost, hsteps⟩
  · exact Or.inl ⟨v, vm₁, B, X₁.warmed, X', hpost, fun target h => hstep₁ _ fun acts => by rw [doInvoke_state]; exact hsteps.trans h⟩
  · exact Or.inr ⟨q, vm₁, B, X₁.warmed, X', hpost, hstep₁ _ fun acts => by rw [doInvoke_state]; exact hsteps⟩
end Calls
theorem vx_cls {s : State} {T : State} {vm₁ : Vm} {E : String} {k : ClassId} (hW : s.WarmedH vm₁) (h : (T.setVm vm₁).vm.findClass E = some k) : s.vm.findClass E = some k := by
  have h1 : vm₁.findClass E = some k := h
  rw [hW.alike.findClass] at h1
  exact h1
/-- the method's frame g, with q thrown over it -/
def vx_W (p : Program) (l : Launch) (e : Env) (R : Room) (s : State) (m : MethodId) (args : Array Value) (below : List Frame) (meth : Method) (c : Code) (H : Heap) (locs : List Loc) (cells slots : Nat) (Q : State → Prop) (g : JFrame) (q : Addr) : Prop :=
  ∀ T : State, T.heap = H → Stand p l e R s m args below meth c T locs cells slots → ∃ t, Steps p.tables e below ((T.setTop g).pushFrame (.throwing q)) t ∧ Q t
def vx_Run (p : Program) (l : Launch) (e : Env) (R : Room) (s : State) (m : MethodId) (args : Array Value) (below : List Frame) (meth : Method) (c : Code) (H : Heap) (locs : List Loc) (cells slots mc ms : Nat) (g : JFrame) (rest : List Value) (Qa : State → Outcome → State → Prop) (XC : String → State → State → Prop) (free : Addr → Prop) : Prop :=
  ∀ T : State, T.heap = H → Stand p l e R s m args below meth c T locs cells slots →
    (∃ (v : Option Value) (st₀ t T' : State) (L : List Loc), st₀.heap = H ∧ Stand p l e R s m args below meth c T' (locs ++ L) (cells + mc) (slots + ms) ∧ (∀ q ∈ L, free q.base) ∧ T'.heap = t.heap ∧ T'.vm = t.vm ∧ Qa st₀ (.returned v) t ∧
      Goes p e below T g T' { g with pc := g.pc + 3, stack := v.toList ++ rest }) ∨
    (∃ (q : Addr) (st₀ t T' : State) (L : List Loc) (E : String) (ce : Cell), st₀.heap = H ∧ Stand p l e R s m args below meth c T' (locs ++ L) (cells + mc) (slots + ms) ∧ (∀ z ∈ L, free z.base) ∧ T'.heap = t.heap ∧ T'.vm = t.vm ∧ XC E st₀ t ∧ t.heap[q]? = some ce ∧ ce.vm = .none ∧ s.vm.findClass E = some ce.cls ∧
      Steps p.tables e below (T.setTop g) ((T'.setTop { g with stack := rest }).pushFrame (.throwing q)))
def vx_X {S : Type} (px : S → Prop) (B : String → S → State → Prop) (A : Nat → Prop) : String → State → State → Prop := fun E st t => ∃ u : S, px u ∧ B E u t ∧ va_F A st t
section Runs
variable {p : Program} {l : Launch} {e : Env} {R : Room} {s : State} {m : MethodId} {args : Array Value} {below : List Frame} {meth : Method} {c : Code} {H : Heap} {locs : List Loc} {cells slots : Nat}
variable {y : MethodName} {bytes cc : ByteArray} {maxL nL mc ms n index : Nat} {ret : Option FieldType} {ws : List Cond} {rm : Room} {Pc : Array Value → State → Prop} {Qc : Array Value → State → Outcome → State → Prop} {XC : String → State → State → Prop} {free : Addr → Prop} {Ts : List Cond} {own C : String} {b : Addr} {As rest : List Value} {g : JFrame}
theorem vx_callBack (cb : CallB R s args own index y bytes maxL ret ws rm mc ms n) (hM : vx_Met l y ws rm Pc Qc XC mc ms free) (hbl : FrameBlind Pc) : vx_Back l R p e below s args y 3 8 (PreOf R mc ms Pc) (PostOf Qc mc ms free) (vx_Post XC mc ms free) := by
  obtain ⟨hrc, hrs, hfr, hlo, hws, hcw, -, hini, -⟩ := cb
  exact vx_back (bytes := bytes) (maxL := maxL) (ret := ret) hM hbl hrc hrs hfr hlo hws hcw (fun a' U hW => word_at hW (Or.inl (by first | rfl | simp [Cond.onTables, Cond.keeps, Cond.steady])) hini)
theorem vx_runV (S : CallFix p m c cc nL s args Ts own) (hM : vx_Met l y ws rm Pc Qc XC mc ms free) (cw : CallW R s args own C index y bytes maxL ret ws rm mc ms n) (hp : PreV s H C b Pc As)
    (hg : g.method = m) (hn : As.length = n) (hsize : g.locals.size = nL) (hstack : g.stack = As.reverse ++ .ref b :: rest) (hW : 2 * g.monitorRoom + (rest.map fun v => v.category).sum ≤ 8) (hdg : decode cc g.pc = .ok (.invokevirtual index, 3)) (hf : cells + mc ≤ R.cells ∧ slots + ms ≤ R.slots) :
    vx_Run p l e R s m args below meth c H locs cells slots mc ms g rest (Qc (Value.ref b :: As).toArray) XC free := by
  have hK : vx_Back l R p e below s args y 3 8 (PreOf R mc ms Pc) (PostOf Qc mc ms free) (vx_Post XC mc ms free) := vx_callBack cw.1 hM hp.1
  obtain ⟨⟨-, -, -, -, -, -, hcode, -, hy, hlen, hl⟩, hin, hse⟩ := cw
  obtain ⟨hx, hb, hml, ho, -⟩ := S
  obtain ⟨-, ⟨cellB, hcB, hoB, hclB⟩, hPc⟩ := hp
  intro T hT X
  rcases vx_callV X hx (C := C) (bytes := bytes) (maxL := maxL) (ret := ret) ho hl hin hse hcode hy hK (by rw [hT]; exact hcB) hoB hclB hg (hsize.trans hml.symm) (argsL := As) (rest := rest) (fun sig h => hn.trans (hlen sig h)) hstack hW (by rw [hb]; exact hdg)
    (fun vm₁ hW₁ => ⟨hf.1, hf.2, hPc (T.setVm vm₁) hT hW₁⟩) with ⟨v, vm₁, ⟨U', l2, c2, s2⟩, hW₁, X', ⟨g', mk, t, L, e1, e2, hq, h1, hL, h2, h3⟩, st⟩ | ⟨q, vm₁, ⟨U', l2, c2, s2⟩, hW₁, X', ⟨g', mk, t, L, E, ce, e1, e2, hq, hce, hcv, hcl, h1, hL, h2, h3⟩, st⟩
  · dsimp only [Pt.U, Pt.locs, Pt.cells, Pt.slots] at X' e1 e2 h1 h2 h3 st
    subst h1; subst h2; subst h3
    exact Or.inl ⟨v, (T.setVm vm₁).calling g' mk (Value.ref b :: As).toArray, t, U', L, hT, X', hL, e1, e2, hq, st⟩
  · dsimp only [Pt.U, Pt.locs, Pt.cells, Pt.slots] at X' e1 e2 h1 h2 h3 st hcl
    subst h1; subst h2; subst h3
    exact Or.inr ⟨q, (T.setVm vm₁).calling g' mk (Value.ref b :: As).toArray, t, U', L, E, ce, hT, X', hL, e1, e2, hq, hce, hcv, vx_cls hW₁ hcl, st⟩
theorem vx_runS (S : CallFix p m c cc nL s args Ts own) (hM : vx_Met l y ws rm Pc Qc XC mc ms free) (cw : CallB R s args own index y bytes maxL ret ws rm mc ms n ∧ (Cond.static y).before args s = true) (hp : PreS s H Pc As)
    (hg : g.method = m) (hn : As.length = n) (hsize : g.locals.size = nL) (hstack : g.stack = As.reverse ++ rest) (hW : 2 * g.monitorRoom + (rest.map fun v => v.category).sum ≤ 8) (hdg : decode cc g.pc = .ok (.invokestatic index, 3)) (hf : cells + mc ≤ R.cells ∧ slots + ms ≤ R.slots) :
    vx_Run p l e R s m args below meth c H locs cells slots mc ms g rest (Qc As.toArray) XC free := by
  have hK : vx_Back l R p e below s args y 3 8 (PreOf R mc ms Pc) (PostOf Qc mc ms free) (vx_Post XC mc ms free) := vx_callBack cw.1 hM hp.1
  obtain ⟨⟨-, -, -, -, -, -, hcode, hini, hy, hlen, hl⟩, hstt⟩ := cw
  obtain ⟨hx, hb, hml, ho, -⟩ := S
  intro T hT X
  rcases vx_callS X hx (bytes := bytes) (maxL := maxL) (ret := ret) ho hl hstt hini hcode hy hK hg (hsize.trans hml.symm) (argsL := As) (rest := rest) (fun sig h => hn.trans (hlen sig h)) hstack hW (by rw [hb]; exact hdg)
    (fun vm₁ hW₁ => ⟨hf.1, hf.2, hp.2 (T.setVm vm₁) hT hW₁⟩) with ⟨v, vm₁, ⟨U', l2, c2, s2⟩, hW₁, X', ⟨g', mk, t, L, e1, e2, hq, h1, hL, h2, h3⟩, st⟩ | ⟨q, vm₁, ⟨U', l2, c2, s2⟩, hW₁, X', ⟨g', mk, t, L, E, ce, e1, e2, hq, hce, hcv, hcl, h1, hL, h2, h3⟩, st⟩
  · dsimp only [Pt.U, Pt.locs, Pt.cells, Pt.slots] at X' e1 e2 h1 h2 h3 st
    subst h1; subst h2; subst h3
    exact Or.inl ⟨v, (T.setVm vm₁).calling g' mk As.toArray, t, U', L, hT, X', hL, e1, e2, hq, st⟩
  · dsimp only [Pt.U, Pt.locs, Pt.cells, Pt.slots] at X' e1 e2 h1 h2 h3 st hcl
    subst h1; subst h2; subst h3
    exact Or.inr ⟨q, (T.setVm vm₁).calling g' mk As.toArray, t, U', L, E, ce, hT, X', hL, e1, e2, hq, hce, hcv, vx_cls hW₁ hcl, st⟩
end Runs
section Rows
variable {p : Program} {l : Launch} {e : Env} {R : Room} {s : State} {m : MethodId} {args : Array Value} {below : List Frame} {meth : Method} {c : Code} {H : Heap} {locs : List Loc} {cells slots : Nat} {Q : State → Prop}
variable {mc ms : Nat} {free : Addr → Prop} {A0 A1 : Nat → Prop} {H0 : Heap} {a : Array Value} {pc : Nat} {ls : Array Slot} {st0 rest : List Value}
theorem vx_keep {st₀ t T' : State} {L : List Loc} (h0 : st₀.heap = H) (e1 : T'.heap = t.heap) (hS : va_S A0 H0 H locs) (hA : ∀ q, q < H.size → A1 q → A0 q) (hf : ∀ q, free q → A0 q) (hL : ∀ q ∈ L, free q.base) (hF : va_F A1 st₀ t) :
    H.size ≤ T'.heap.size ∧ (∀ q : Nat, q < H.size → ¬ A1 q → T'.heap[q]? = H[q]?) ∧ va_S A0 H0 T'.heap (locs ++ L) := by
  obtain ⟨hz, hk⟩ := hF
  rw [h0] at hz hk
  exact ⟨by rw [e1]; exact hz, fun q h1 h2 => by rw [e1]; exact hk q h1 h2,
    ⟨Nat.le_trans hS.1 (by rw [e1]; exact hz), fun q h1 h2 => by rw [e1, hk q (Nat.lt_of_lt_of_le h1 hS.1) (fun z => h2 (hA q (Nat.lt_of_lt_of_le h1 hS.1) z))]; exact hS.2.1 q h1 h2, fun q hq => by
      rcases List.mem_append.mp hq with h | h
      · exact hS.2.2 q h
      · exact hf _ (hL q h)⟩⟩
theorem vx_calli {S SX : Type} {post : Int32 → S → Prop} {px : SX → Prop} {B : S → State → Prop} {BX : String → SX → State → Prop} {AX : Nat → Prop} (hr : vx_Run p l e R s m args below meth c H locs cells slots mc ms (F0 m pc ls st0) rest (va_Qi post B A1 a) (vx_X px BX AX) free) (hS : va_S A0 H0 H locs) (hA : ∀ q, q < H.size → A1 q → A0 q) (hf : ∀ q, free q → A0 q) (hAX : ∀ q, q < H.size → AX q → A0 q)
    (kx : ∀ (E : String) (ce : Cell) (q9 : Addr) (u : SX) (t : State) (H1 : Heap) (locs1 : List Loc), t.heap = H1 → s.vm.Alike t.vm → px u → BX E u t → H.size ≤ H1.size → (∀ q : Nat, q < H.size → ¬ AX q → H1[q]? = H[q]?) → va_S A0 H0 H1 locs1 → H1[q9]? = some ce → ce.vm = .none → s.vm.findClass E = some ce.cls → vx_W p l e R s m args below meth c H1 locs1 (cells + mc) (slots + ms) Q (F0 m pc ls rest) q9)
    (kk : ∀ (r : Int32) (u : S) (t : State) (H1 : Heap) (locs1 : List Loc), t.heap = H1 → s.vm.Alike t.vm → post r u → B u t → H.size ≤ H1.size → (∀ q : Nat, q < H.size → ¬ A1 q → H1[q]? = H[q]?) → va_S A0 H0 H1 locs1 → W p l e R s m args below meth c H1 locs1 (cells + mc) (slots + ms) Q (F0 m (pc + 3) ls (.int r :: rest))) : W p l e R s m args below meth c H locs cells slots Q (F0 m pc ls st0) := by
  intro T hT X
  rcases hr T hT X with ⟨v, st₀, t, T', L, h0, X', hL, e1, e2, ⟨⟨r, u, hv, hp, hb⟩, hF⟩, st⟩ | ⟨q, st₀, t, T', L, E, ce, h0, X', hL, e1, e2, ⟨u, hp, hb, hF⟩, hce, hcv, hcl, st⟩
  · cases hv
    obtain ⟨k1, k2, k3⟩ := vx_keep h0 e1 hS hA hf hL hF
    obtain ⟨t2, a1, b1⟩ := kk r u t T'.heap (locs ++ L) e1.symm (by rw [← e2]; exact X'.warmed.alike) hp hb k1 k2 k3 T' rfl X'
    exact ⟨t2, st t2 a1, b1⟩
  · obtain ⟨k1, k2, k3⟩ := vx_keep h0 e1 hS hAX hf hL hF
    obtain ⟨t2, a1, b1⟩ := kx E ce q u t T'.heap (locs ++ L) e1.symm (by rw [← e2]; exact X'.warmed.alike) hp hb k1 k2 k3 (by rw [e1]; exact hce) hcv hcl T' rfl X'
    exact ⟨t2, st.trans a1, b1⟩
theorem vx_calll {S SX : Type} {post : Int64 → S → Prop} {px : SX → Prop} {B : S → State → Prop} {BX : String → SX → State → Prop} {AX : Nat → Prop} (hr : vx_Run p l e R s m args below meth c H locs cells slots mc ms (F0 m pc ls st0) rest (va_Ql post B A1 a) (vx_X px BX AX) free) (hS : va_S A0 H0 H locs) (hA : ∀ q, q < H.size → A1 q → A0 q) (hf : ∀ q, free q → A0 q) (hAX : ∀ q, q < H.size → AX q → A0 q)
    (kx : ∀ (E : String) (ce : Cell) (q9 : Addr) (u : SX) (t : State) (H1 : Heap) (locs1 : List Loc), t.heap = H1 → s.vm.Alike t.vm → px u → BX E u t → H.size ≤ H1.size → (∀ q : Nat, q < H.size → ¬ AX q → H1[q]? = H[q]?) → va_S A0 H0 H1 locs1 → H1[q9]? = some ce → ce.vm = .none → s.vm.findClass E = some ce.cls → vx_W p l e R s m args below meth c H1 locs1 (cells + mc) (slots + ms) Q (F0 m pc ls rest) q9)
    (kk : ∀ (r : Int64) (u : S) (t : State) (H1 : Heap) (locs1 : List Loc), t.heap = H1 → s.vm.Alike t.vm → post r u → B u t → H.size ≤ H1.size → (∀ q : Nat, q < H.size → ¬ A1 q → H1[q]? = H[q]?) → va_S A0 H0 H1 locs1 → W p l e R s m args below meth c H1 locs1 (cells + mc) (slots + ms) Q (F0 m (pc + 3) ls (.long r :: rest))) : W p l e R s m args below meth c H locs cells slots Q (F0 m pc ls st0) := by
  intro T hT X
  rcases hr T hT X with ⟨v, st₀, t, T', L, h0, X', hL, e1, e2, ⟨⟨r, u, hv, hp, hb⟩, hF⟩, st⟩ | ⟨q, st₀, t, T', L, E, ce, h0, X', hL, e1, e2, ⟨u, hp, hb, hF⟩, hce, hcv, hcl, st⟩
  · cases hv
    obtain ⟨k1, k2, k3⟩ := vx_keep h0 e1 hS hA hf hL hF
    obtain ⟨t2, a1, b1⟩ := kk r u t T'.heap (locs ++ L) e1.symm (by rw [← e2]; exact X'.warmed.alike) hp hb k1 k2 k3 T' rfl X'
    exact ⟨t2, st t2 a1, b1⟩
  · obtain ⟨k1, k2, k3⟩ := vx_keep h0 e1 hS hAX hf hL hF
    obtain ⟨t2, a1, b1⟩ := kx E ce q u t T'.heap (locs ++ L) e1.symm (by rw [← e2]; exact X'.warmed.alike) hp hb k1 k2 k3 (by rw [e1]; exact hce) hcv hcl T' rfl X'
    exact ⟨t2, st.trans a1, b1⟩
theorem vx_callf {S SX : Type} {post : UInt32 → S → Prop} {px : SX → Prop} {B : S → State → Prop} {BX : String → SX → State → Prop} {AX : Nat → Prop} (hr : vx_Run p l e R s m args below meth c H locs cells slots mc ms (F0 m pc ls st0) rest (va_Qf post B A1 a) (vx_X px BX AX) free) (hS : va_S A0 H0 H locs) (hA : ∀ q, q < H.size → A1 q → A0 q) (hf : ∀ q, free q → A0 q) (hAX : ∀ q, q < H.size → AX q → A0 q)
    (kx : ∀ (E : String) (ce : Cell) (q9 : Addr) (u : SX) (t : State) (H1 : Heap) (locs1 : List Loc), t.heap = H1 → s.vm.Alike t.vm → px u → BX E u t → H.size ≤ H1.size → (∀ q : Nat, q < H.size → ¬ AX q → H1[q]? = H[q]?) → va_S A0 H0 H1 locs1 → H1[q9]? = some ce → ce.vm = .none → s.vm.findClass E = some ce.cls → vx_W p l e R s m args below meth c H1 locs1 (cells + mc) (slots + ms) Q (F0 m pc ls rest) q9)
    (kk : ∀ (r : UInt32) (u : S) (t : State) (H1 : Heap) (locs1 : List Loc), t.heap = H1 → s.vm.Alike t.vm → post r u → B u t → H.size ≤ H1.size → (∀ q : Nat, q < H.size → ¬ A1 q → H1[q]? = H[q]?) → va_S A0 H0 H1 locs1 → W p l e R s m args below meth c H1 locs1 (cells + mc) (slots + ms) Q (F0 m (pc + 3) ls (.float r :: rest))) : W p l e R s m args below meth c H locs cells slots Q (F0 m pc ls st0) := by
  intro T hT X
  rcases hr T hT X with ⟨v, st₀, t, T', L, h0, X', hL, e1, e2, ⟨⟨r, u, hv, hp, hb⟩, hF⟩, st⟩ | ⟨q, st₀, t, T', L, E, ce, h0, X', hL, e1, e2, ⟨u, hp, hb, hF⟩, hce, hcv, hcl, st⟩
  · cases hv
    obtain ⟨k1, k2, k3⟩ := vx_keep h0 e1 hS hA hf hL hF
    obtain ⟨t2, a1, b1⟩ := kk r u t T'.heap (locs ++ L) e1.symm (by rw [← e2]; exact X'.warmed.alike) hp hb k1 k2 k3 T' rfl X'
    exact ⟨t2, st t2 a1, b1⟩
  · obtain ⟨k1, k2, k3⟩ := vx_keep h0 e1 hS hAX hf hL hF
    obtain ⟨t2, a1, b1⟩ := kx E ce q u t T'.heap (locs ++ L) e1.symm (by rw [← e2]; exact X'.warmed.alike) hp hb k1 k2 k3 (by rw [e1]; exact hce) hcv hcl T' rfl X'
    exact ⟨t2, st.trans a1, b1⟩
theorem vx_calld {S SX : Type} {post : UInt64 → S → Prop} {px : SX → Prop} {B : S → State → Prop} {BX : String → SX → State → Prop} {AX : Nat → Prop} (hr : vx_Run p l e R s m args below meth c H locs cells slots mc ms (F0 m pc ls st0) rest (va_Qd post B A1 a) (vx_X px BX AX) free) (hS : va_S A0 H0 H locs) (hA : ∀ q, q < H.size → A1 q → A0 q) (hf : ∀ q, free q → A0 q) (hAX : ∀ q, q < H.size → AX q → A0 q)
    (kx : ∀ (E : String) (ce : Cell) (q9 : Addr) (u : SX) (t : State) (H1 : Heap) (locs1 : List Loc), t.heap = H1 → s.vm.Alike t.vm → px u → BX E u t → H.size ≤ H1.size → (∀ q : Nat, q < H.size → ¬ AX q → H1[q]? = H[q]?) → va_S A0 H0 H1 locs1 → H1[q9]? = some ce → ce.vm = .none → s.vm.findClass E = some ce.cls → vx_W p l e R s m args below meth c H1 locs1 (cells + mc) (slots + ms) Q (F0 m pc ls rest) q9)
    (kk : ∀ (r : UInt64) (u : S) (t : State) (H1 : Heap) (locs1 : List Loc), t.heap = H1 → s.vm.Alike t.vm → post r u → B u t → H.size ≤ H1.size → (∀ q : Nat, q < H.size → ¬ A1 q → H1[q]? = H[q]?) → va_S A0 H0 H1 locs1 → W p l e R s m args below meth c H1 locs1 (cells + mc) (slots + ms) Q (F0 m (pc + 3) ls (.double r :: rest))) : W p l e R s m args below meth c H locs cells slots Q (F0 m pc ls st0) := by
  intro T hT X
  rcases hr T hT X with ⟨v, st₀, t, T', L, h0, X', hL, e1, e2, ⟨⟨r, u, hv, hp, hb⟩, hF⟩, st⟩ | ⟨q, st₀, t, T', L, E, ce, h0, X', hL, e1, e2, ⟨u, hp, hb, hF⟩, hce, hcv, hcl, st⟩
  · cases hv
    obtain ⟨k1, k2, k3⟩ := vx_keep h0 e1 hS hA hf hL hF
    obtain ⟨t2, a1, b1⟩ := kk r u t T'.heap (locs ++ L) e1.symm (by rw [← e2]; exact X'.warmed.alike) hp hb k1 k2 k3 T' rfl X'
    exact ⟨t2, st t2 a1, b1⟩
  · obtain ⟨k1, k2, k3⟩ := vx_keep h0 e1 hS hAX hf hL hF
    obtain ⟨t2, a1, b1⟩ := kx E ce q u t T'.heap (locs ++ L) e1.symm (by rw [← e2]; exact X'.warmed.alike) hp hb k1 k2 k3 (by rw [e1]; exact hce) hcv hcl T' rfl X'
    exact ⟨t2, st.trans a1, b1⟩
theorem vx_callv {S SX : Type} {post : S → Prop} {px : SX → Prop} {B : S → State → Prop} {BX : String → SX → State → Prop} {AX : Nat → Prop} (hr : vx_Run p l e R s m args below meth c H locs cells slots mc ms (F0 m pc ls st0) rest (va_Qv post B A1 a) (vx_X px BX AX) free) (hS : va_S A0 H0 H locs) (hA : ∀ q, q < H.size → A1 q → A0 q) (hf : ∀ q, free q → A0 q) (hAX : ∀ q, q < H.size → AX q → A0 q)
    (kx : ∀ (E : String) (ce : Cell) (q9 : Addr) (u : SX) (t : State) (H1 : Heap) (locs1 : List Loc), t.heap = H1 → s.vm.Alike t.vm → px u → BX E u t → H.size ≤ H1.size → (∀ q : Nat, q < H.size → ¬ AX q → H1[q]? = H[q]?) → va_S A0 H0 H1 locs1 → H1[q9]? = some ce → ce.vm = .none → s.vm.findClass E = some ce.cls → vx_W p l e R s m args below meth c H1 locs1 (cells + mc) (slots + ms) Q (F0 m pc ls rest) q9)
    (kk : ∀ (u : S) (t : State) (H1 : Heap) (locs1 : List Loc), t.heap = H1 → s.vm.Alike t.vm → post u → B u t → H.size ≤ H1.size → (∀ q : Nat, q < H.size → ¬ A1 q → H1[q]? = H[q]?) → va_S A0 H0 H1 locs1 → W p l e R s m args below meth c H1 locs1 (cells + mc) (slots + ms) Q (F0 m (pc + 3) ls (rest))) : W p l e R s m args below meth c H locs cells slots Q (F0 m pc ls st0) := by
  intro T hT X
  rcases hr T hT X with ⟨v, st₀, t, T', L, h0, X', hL, e1, e2, ⟨⟨u, hv, hp, hb⟩, hF⟩, st⟩ | ⟨q, st₀, t, T', L, E, ce, h0, X', hL, e1, e2, ⟨u, hp, hb, hF⟩, hce, hcv, hcl, st⟩
  · cases hv
    obtain ⟨k1, k2, k3⟩ := vx_keep h0 e1 hS hA hf hL hF
    obtain ⟨t2, a1, b1⟩ := kk u t T'.heap (locs ++ L) e1.symm (by rw [← e2]; exact X'.warmed.alike) hp hb k1 k2 k3 T' rfl X'
    exact ⟨t2, st t2 a1, b1⟩
  · obtain ⟨k1, k2, k3⟩ := vx_keep h0 e1 hS hAX hf hL hF
    obtain ⟨t2, a1, b1⟩ := kx E ce q u t T'.heap (locs ++ L) e1.symm (by rw [← e2]; exact X'.warmed.alike) hp hb k1 k2 k3 (by rw [e1]; exact hce) hcv hcl T' rfl X'
    exact ⟨t2, st.trans a1, b1⟩
/-- caught by the row x of this method's table; the rows ahead don't take it -/
theorem vx_catch {own name : String} {E : String} {ce : Cell} {q : Addr} (hown : s.vm.findClass own = some m.cls) (pre : List ExceptionTableEntry) (x : ExceptionTableEntry) (suf : List ExceptionTableEntry) (hsplit : c.exceptionTable.toList = pre ++ x :: suf)
    (hpass : ∀ z ∈ pre, covers z pc = false ∨ (z.catchType ≠ 0 ∧ ∃ nm : String, (Cond.classLink own z.catchType nm).before args s = true ∧ va_Nc E nm s)) (hx : covers x pc = true) (h0 : x.catchType ≠ 0)
    (hlink : (Cond.classLink own x.catchType name).before args s = true) (hcast : (Cond.castable E name).before args s = true) (hcell : H[q]? = some ce) (hv : ce.vm = .none) (hcl : s.vm.findClass E = some ce.cls)
    (kk : W p l e R s m args below meth c H locs cells slots Q (F0 m x.handlerPc ls [.ref q])) : vx_W p l e R s m args below meth c H locs cells slots Q (F0 m pc ls rest) q := by
  intro T hT X
  have hpl : e.platform.magicAccessors = ({} : Platform).magicAccessors := by rw [X.admits.platform]
  obtain ⟨c3, c4, hc3, hc4, hasg⟩ := Cond.castable_spec hcast
  cases Option.some.inj (hc3.symm.trans hcl)
  obtain ⟨c5, hc5, hcl5⟩ := Cond.classLink_spec hown hlink e.platform hpl
  cases Option.some.inj (hc4.symm.trans hc5)
  obtain ⟨vm', X', st⟩ := X.thenCaughtThrough q (g := F0 m pc ls rest) rfl (Steps.refl _) (by rw [hT]; exact hcell) (by rw [hv]; rfl) (by obtain ⟨k9, h9, -⟩ := Vm.findClass_spec hcl; exact ⟨k9, h9⟩) pre x suf hsplit
    (fun z hz => by
      rcases hpass z hz with h | ⟨hz0, nm, hl1, hn1⟩
      · exact Or.inl h
      · obtain ⟨c6, hc6, hcl6⟩ := Cond.classLink_spec hown hl1 e.platform hpl
        obtain ⟨a8, b8, h1, h2, h3⟩ := hn1
        cases Option.some.inj (h1.symm.trans hcl)
        cases Option.some.inj (h2.symm.trans hc6)
        exact Or.inr ⟨hz0, _, hcl6, h3⟩) hx (Or.inr ⟨h0, c4, hcl5, hasg⟩)
  obtain ⟨t, a1, b1⟩ := kk (T.setVm vm') hT X'
  exact ⟨t, st.trans a1, b1⟩
end Rows
section Ends
variable {p : Program} {l : Launch} {e : Env} {R : Room} {s : State} {m : MethodId} {args : Array Value} {below : List Frame} {meth : Method} {c : Code} {H : Heap} {locs : List Loc} {cells slots : Nat} {Q : State → Prop}
variable {mc ms : Nat} {free : Addr → Prop} {A0 A1 : Nat → Prop} {H0 : Heap} {a : Array Value} {ls : Array Slot} {st0 rest : List Value}
variable {Qc : Array Value → State → Outcome → State → Prop} {XC : String → State → State → Prop}
/-- what a body that may throw owes at its end -/
def vx_MQ (below : List Frame) (Qc : Array Value → State → Outcome → State → Prop) (XC : String → State → State → Prop) (a : Array Value) (s : State) (mc ms : Nat) (free : Addr → Prop) : State → Prop := fun t =>
  ∃ o, t.status = .running ∧ Ended t below o ∧ vx_Q Qc XC mc ms free a s o t
theorem vx_ret {g : JFrame} {mc ms : Nat} (k : W p l e R s m args below meth c H locs cells slots (MQ below Qc args s mc ms free) g) : W p l e R s m args below meth c H locs cells slots (vx_MQ below Qc XC args s mc ms free) g := by
  intro T hT X
  obtain ⟨t, a1, o, b1, b2, b3, b4⟩ := k T hT X
  exact ⟨t, a1, o, b1, b2, Or.inl ⟨b3, b4⟩⟩
/-- not caught here: it goes on to the caller -/
theorem vx_widen {g : JFrame} {q : Addr} {k n : Nat} (h1 : cells ≤ k) (h2 : slots ≤ n) (kk : vx_W p l e R s m args below meth c H locs k n Q g q) : vx_W p l e R s m args below meth c H locs cells slots Q g q := fun T hT X => kk T hT (stand_widen X h1 h2)
theorem vx_out {pc : Nat} {E : String} {ce : Cell} {q : Addr} {mc ms : Nat} (hout : ∀ x ∈ c.exceptionTable.toList, covers x pc = false) (hlocks : meth.locks = false) (hcell : H[q]? = some ce) (hv : ce.vm = .none) (hcl : s.vm.findClass E = some ce.cls)
    (hx : ∀ t : State, t.heap = H → s.vm.Alike t.vm → XC E s t) (hf : ∀ z ∈ locs, free z.base) (hc : cells ≤ mc) (hs : slots ≤ ms) :
    vx_W p l e R s m args below meth c H locs cells slots (vx_MQ below Qc XC args s mc ms free) (F0 m pc ls rest) q := by
  intro T hT X
  obtain ⟨st1, hrun, hend, hW, hsm⟩ := X.leaveThrown q (g := F0 m pc ls rest) rfl rfl rfl hout hlocks
  have hcell9 : (T.setFrames (.throwing q :: below)).heap[q]? = some ce := by
    show T.heap[q]? = some ce
    rw [hT]; exact hcell
  exact ⟨_, st1, .threw q, hrun, hend, Or.inr ⟨q, rfl, E, ce, locs, hx _ hT hW.alike, hcell9, hv, hcl, hW, hsm.mono hc hs, hf⟩⟩
theorem vx_frame {U : State} {k n : Nat} (h : s.sameButNew ({ U with vm := s.vm } : State) locs k n) : s.heap.size ≤ U.heap.size ∧ ∀ q : Nat, q < s.heap.size → (∀ z ∈ locs, z.base ≠ q) → U.heap[q]? = s.heap[q]? := by
  obtain ⟨-, h2, -, -, -, h6⟩ := h
  refine ⟨h2, fun q hq hz => ?_⟩
  obtain ⟨c9, e1, e2, e3, e4⟩ := h6 q _ (Array.getElem?_eq_getElem hq)
  have hs : c9.slots = (s.heap[q]).slots := Array.ext_getElem? fun i => e4 i fun hm => hz _ hm rfl
  have h9 : c9 = s.heap[q] := by
    rw [hs] at e2
    exact e2
  have e5 : U.heap[q]? = some c9 := e1
  rw [e5, h9, Array.getElem?_eq_getElem hq]
/-- the words of a throw but the four that speak of the heap -/
def vx_no (w : Cond) : Bool := decide (w ≠ .isRef (.static Bundle.tN "UNASSIGNED_STACK" Bundle.steD)) && decide (w ≠ .isRef (.static Bundle.tN "SUPPRESSED_SENTINEL" Bundle.listD)) && decide (w ≠ .laysStatic Bundle.tN "UNASSIGNED_STACK" Bundle.steD) && decide (w ≠ .laysStatic Bundle.tN "SUPPRESSED_SENTINEL" Bundle.listD)
def vx_at0 (own : String) (ic : Nat) (X : String) (names : List String) : List Cond := (Bundle.ownAtoms0 own ic X names).filter vx_no
def vx_atS (own : String) (ic : Nat) (X : String) (names : List String) : List Cond := (Bundle.ownAtoms own ic X names).filter vx_no
/-- a word that the tables alone decide, or a good one -/
def vx_ot (w : Cond) : Bool := w.onTables || goodWord w
theorem vx_ot_at {args a' : Array Value} {s U : State} {w : Cond} (hW : s.WarmedH U.vm) (hvm : s.vm = U.vm) (hg : vx_ot w = true) (h : w.before args s = true) : w.before a' U = true := by
  simp only [vx_ot, Bool.or_eq_true] at hg
  rcases hg with hg | hg
  · exact va_tabs hg hvm h
  · exact word_at hW (good_of_word hg) h
/-- a list's words: the good ones out of the method's own list, the others by premises of their own -/
theorem vx_hat {args : Array Value} {s : State} {L B : List Cond} (h1 : ∀ w ∈ L.filter goodWord, w.before args s = true) (h2 : ∀ w ∈ L.filter (fun w => !goodWord w), w ∈ B) (h3 : ∀ w ∈ B, w.before args s = true) : ∀ w ∈ L, w.before args s = true := by
  intro w hw
  by_cases g : goodWord w = true
  · exact h1 w (List.mem_filter.mpr ⟨hw, g⟩)
  · refine h3 w (h2 w (List.mem_filter.mpr ⟨hw, ?_⟩))
    show (!goodWord w) = true
    cases hgw : goodWord w
    · rfl
    · exact absurd hgw g
theorem vx_c {args : Array Value} {s : State} {w : Cond} {B : List Cond} (h : w.before args s = true) (t : ∀ w ∈ B, w.before args s = true) : ∀ w' ∈ w :: B, w'.before args s = true := fun w' h' => (List.mem_cons.mp h').elim (fun e => by rw [e]; exact h) (t w')
theorem vx_n {args : Array Value} {s : State} : ∀ w ∈ ([] : List Cond), w.before args s = true := fun _ h => nomatch h
theorem vx_own {args : Array Value} {s : State} {L : List Cond} (h1 : ∀ w ∈ L.filter vx_no, w.before args s = true)
    (hU : (Cond.isRef (.static Bundle.tN "UNASSIGNED_STACK" Bundle.steD)).before args s = true) (hN : (Cond.isRef (.static Bundle.tN "SUPPRESSED_SENTINEL" Bundle.listD)).before args s = true)
    (lU : (Cond.laysStatic Bundle.tN "UNASSIGNED_STACK" Bundle.steD).before args s = true) (lN : (Cond.laysStatic Bundle.tN "SUPPRESSED_SENTINEL" Bundle.listD).before args s = true) : ∀ w ∈ L, w.before args s = true := by
  intro w hw
  by_cases e1 : w = .isRef (.static Bundle.tN "UNASSIGNED_STACK" Bundle.steD)
  · rw [e1]; exact hU
  · by_cases e2 : w = .isRef (.static Bundle.tN "SUPPRESSED_SENTINEL" Bundle.listD)
    · rw [e2]; exact hN
    · by_cases e3 : w = .laysStatic Bundle.tN "UNASSIGNED_STACK" Bundle.steD
      · rw [e3]; exact lU
      · by_cases e4 : w = .laysStatic Bundle.tN "SUPPRESSED_SENTINEL" Bundle.listD
        · rw [e4]; exact lN
        · exact h1 w (List.mem_filter.mpr ⟨hw, by unfold vx_no; rw [decide_eq_true e1, decide_eq_true e2, decide_eq_true e3, decide_eq_true e4]; rfl⟩)
/-- where a static field lies, its class's statics cell in H -/
def vx_L (C n d : String) (A : Nat → Prop) (U : State) (H : Heap) : Prop := ∃ (c : ClassId) (k : Class) (i : Nat) (f : Field) (a : Nat) (cell : Cell), U.vm.findClass C = some c ∧ U.fieldFound? C n d = some (c, k, i, f) ∧ f.isStatic = true ∧ k.statics = some a ∧ H[a]? = some cell ∧ cell.vm.isStatics = true ∧ cell.cls = c ∧ f.slot < cell.slots.size ∧ k.staticTypes[f.slot]? = some f.type ∧ ¬ A a
theorem vx_L.moved {C n d : String} {A : Nat → Prop} {u U : State} {H : Heap} (hvm : u.vm.Alike U.vm) (h : vx_L C n d A u H) : vx_L C n d A U H := by
  obtain ⟨c, k, i, f, a, cell, h1, h2, h3, h4, h5, h6, h7, h8, h9, h10⟩ := h
  obtain ⟨k', hi', he⟩ := State.fieldFound?_setVm hvm h2
  exact ⟨c, k', i, f, a, cell, by rw [hvm.findClass]; exact h1, hi', h3, by rw [he]; exact h4, h5, h6, h7, h8, by rw [he]; exact h9, h10⟩
theorem vx_L.kept {C n d : String} {A : Nat → Prop} {U : State} {H H1 : Heap} (h : vx_L C n d A U H) (hq : ∀ a : Nat, a < H.size → ¬ A a → H1[a]? = H[a]?) : vx_L C n d A U H1 := by
  obtain ⟨c, k, i, f, a, cell, h1, h2, h3, h4, h5, h6, h7, h8, h9, h10⟩ := h
  exact ⟨c, k, i, f, a, cell, h1, h2, h3, h4, by rw [hq a (Array.getElem?_eq_some_iff.mp h5).1 h10]; exact h5, h6, h7, h8, h9, h10⟩
theorem vx_L.narrow {C n d : String} {A B : Nat → Prop} {U : State} {H : Heap} (h : vx_L C n d A U H) (hAB : ∀ q, B q → A q) : vx_L C n d B U H := by
  obtain ⟨c, k, i, f, a, cell, h1, h2, h3, h4, h5, h6, h7, h8, h9, h10⟩ := h
  exact ⟨c, k, i, f, a, cell, h1, h2, h3, h4, h5, h6, h7, h8, h9, fun z => h10 (hAB _ z)⟩
theorem vx_L.word {C n d : String} {A : Nat → Prop} {s : State} {args : Array Value} (h : vx_L C n d A s s.heap) : (Cond.laysStatic C n d).before args s = true := by
  obtain ⟨c, k, i, f, a, cell, h1, h2, h3, h4, h5, h6, h7, h8, h9, -⟩ := h
  show (Cond.laysStatic C n d).holds args s none s [] = true
  exact Cond.laysStatic_of h1 h2 h3 h4 h5 h6 h7 h8 h9
/-- .. and what it holds: null or some reference -/
def vx_Zq (C n d : String) (A : Nat → Prop) (U : State) (H : Heap) : Prop := va_Zq C n d A U H ∧ vx_L C n d A U H
theorem vx_Zq.moved {C n d : String} {A : Nat → Prop} {u U : State} {H : Heap} (hvm : u.vm.Alike U.vm) (h : vx_Zq C n d A u H) : vx_Zq C n d A U H := ⟨va_Zq.moved hvm h.1, vx_L.moved hvm h.2⟩
theorem vx_Zq.kept {C n d : String} {A : Nat → Prop} {U : State} {H H1 : Heap} (h : vx_Zq C n d A U H) (hq : ∀ a : Nat, a < H.size → ¬ A a → H1[a]? = H[a]?) : vx_Zq C n d A U H1 := ⟨va_Zq.kept h.1 hq, vx_L.kept h.2 hq⟩
theorem vx_Zq.narrow {C n d : String} {A B : Nat → Prop} {U : State} {H : Heap} (h : vx_Zq C n d A U H) (hAB : ∀ q, B q → A q) : vx_Zq C n d B U H := ⟨va_Zq.narrow h.1 hAB, vx_L.narrow h.2 hAB⟩
theorem vx_Zqof {args : Array Value} {s : State} {C n d : String} {A : Nat → Prop} (hl : (Cond.laysStatic C n d).before args s = true) (hini : (Cond.initialized C).before args s = true) (h : (Cond.isRef (.static C n d)).before args s = true) (hA : ∀ a : Nat, a < s.heap.size → ¬ A a) : vx_Zq C n d A s s.heap := by
  refine ⟨va_Zqof hl hini h hA, ?_⟩
  obtain ⟨c, k, i, f, a, cell, h1, h2, h3, h4, h5, h6, h7, h8, h9⟩ := Cond.laysStatic_spec hl
  exact ⟨c, k, i, f, a, cell, h1, h2, h3, h4, h5, h6, h7, h8, h9, hA a (Array.getElem?_eq_some_iff.mp h5).1⟩
theorem vx_isRef {C n d : String} {v : Value} {A : Nat → Prop} {s : State} {args : Array Value} (h : va_Z C n d v A s s.heap) (hv : v.isRef = true) : (Cond.isRef (.static C n d)).before args s = true := by
  obtain ⟨cf, kf, fi, f, a, cell, h1, h2, h3, h4, h5, h6, h7, -⟩ := h
  have he : (Term.static C n d).eval args s none [] s = some v := by
    simp [Term.eval, State.fieldNamed?, h1, h2, h4, h5, h6, h7]
  simp only [Cond.before, Cond.holds, Cond.value, he]
  cases v <;> simp_all [Value.isRef]
theorem vx_isRefq {C n d : String} {A : Nat → Prop} {s : State} {args : Array Value} (h : va_Zq C n d A s s.heap) : (Cond.isRef (.static C n d)).before args s = true := by
  rcases h with h | ⟨t, h⟩
  · exact vx_isRef h rfl
  · exact vx_isRef h rfl
/-- the same frame, seen from here: as if the method were called anew in this heap -/
theorem vx_rebase {T : State} (X : Stand p l e R s m args below meth c T locs cells slots) {R' : Room} (hf : R'.frames ≤ R.frames) (hl : R'.locals ≤ R.locals) (hc : cells + R'.cells ≤ R.cells) (hs : slots + R'.slots ≤ R.slots) :
    Stand p l e R' ((T.setVm s.vm).setFrames (.invoking m args :: below)) m args below meth c T [] 0 0 := by
  have htop : (T.setVm s.vm).topJava?.isSome := X.here.top
  have hF : ((T.setVm s.vm).setFrames (.invoking m args :: below)).frames = .invoking m args :: below := State.frames_setFrames _ (State.cur_lt_of_top htop)
  obtain ⟨g₀, hg0⟩ := Option.isSome_iff_exists.mp htop
  obtain ⟨r, hr⟩ := State.topJava?_eq_some.mp hg0
  have hl9 : e.platform.stackLimits (T.setVm s.vm).me = e.platform.stackLimits s.me := X.limits
  have hb9 : (T.setVm s.vm).me.stackBytes = s.me.stackBytes := X.bytes
  refine ⟨X.admits, X.cas, X.clock, hF, ?_, X.hears, X.method, X.code, X.here, X.tail, X.warmed, ?_, ?_, ?_⟩
  · have h := X.room
    have hU : ((T.setVm s.vm).setFrames (.invoking m args :: below)).localsInUse = s.localsInUse := by
      rw [State.localsInUse_invoking hF (meth := meth) (c := c) X.method X.code, State.localsInUse_invoking X.frames X.method X.code]
    simp only [State.hasRoom, Bool.and_eq_true, decide_eq_true_eq] at h ⊢
    obtain ⟨⟨⟨⟨h1, h2, h3, h4, h5, h6⟩, h7⟩, h8⟩, h9⟩ := h
    rw [X.frames, List.length_cons] at h2 h3
    have q1 := X.heapSize
    have q2 := X.used
    simp only [hF, hU, List.length_cons, State.stackLimits_setFrames, State.stackBytes_setFrames, hl9, hb9]
    refine ⟨⟨⟨⟨by omega, by omega, by omega, by omega, by omega, h6⟩, ?_⟩, ?_⟩, X.book⟩
    · show T.heap.size + R'.cells ≤ e.platform.maxCells
      omega
    · show T.slotsUsed + R'.slots ≤ e.platform.maxSlots
      omega
  · rw [State.stackLimits_setFrames]; rfl
  · rw [State.stackBytes_setFrames]; rfl
  · refine ⟨?_, Nat.le_refl _, Nat.le_refl _, ?_, ?_, fun a c9 h9 => ⟨c9, h9, rfl, rfl, fun _ _ => rfl⟩⟩
    · obtain ⟨t, ht, -⟩ := State.frames_cons hr
      show T.setVm s.vm = { ((T.setVm s.vm).setFrames (.invoking m args :: below)).setFrames (T.setVm s.vm).frames with heap := T.heap, slotsUsed := T.slotsUsed }
      rw [State.setFrames_setFrames, State.setFrames_self ht]
      rfl
    · show T.slotsUsed = T.slotsUsed + ((T.heap.toList.drop T.heap.size).map (·.slots.size)).sum
      rw [List.drop_eq_nil_of_le (Nat.le_of_eq Array.length_toList)]
      rfl
    · show ((T.heap.toList.drop T.heap.size).map (·.slots.size)).sum ≤ 0
      rw [List.drop_eq_nil_of_le (Nat.le_of_eq Array.length_toList)]
      exact Nat.le_refl _
/-- 'throw new E()': new; dup; invokespecial; athrow -/
theorem vx_throw0 {cc : ByteArray} {pc : Nat} (hexec : p.tables.exec = Jvm.exec) (hb : c.code = cc) (hl : l.stackTraces = false) {own cls : String} {names : List String} {ik ic mc ms : Nat} {A : Nat → Prop}
    (hown : s.vm.findClass own = some m.cls) (hcls : Bundle.fit cls = true) (hnames : ∀ n ∈ names, Bundle.fit n = true)
    (hk : (Cond.classLink own ik cls).before args s = true) (hini : (Cond.initialized cls).before args s = true) (hat : ∀ w ∈ vx_at0 own ic cls names, w.before args s = true)
    (hgood : ∀ w ∈ Cond.classLink own ik cls :: Cond.initialized cls :: vx_at0 own ic cls names, vx_ot w = true)
    (hU : vx_Zq Bundle.tN "UNASSIGNED_STACK" Bundle.steD A s s.heap) (hN : vx_Zq Bundle.tN "SUPPRESSED_SENTINEL" Bundle.listD A s s.heap) (hS : va_S A s.heap H locs) (hsize : ls.size = c.maxLocals)
    (d0 : decode cc pc = .ok (.new ik, 3)) (d3 : decode cc (pc + 3) = .ok (.dup, 1)) (d4 : decode cc (pc + 4) = .ok (.invokespecial ic, 3)) (d7 : decode cc (pc + 7) = .ok (.athrow, 1))
    (hout : ∀ x ∈ c.exceptionTable.toList, covers x (pc + 7) = false)
    (hRframes : names.length + 3 < R.frames) (hRlocals : (rest.map fun v => v.category).sum + (13 * (names.length + 1) + 42) ≤ R.locals) (hRcells : cells + 1 ≤ R.cells) (hRslots : slots + 6 ≤ R.slots) (hlocks : meth.locks = false)
    (hx : ∀ t : State, s.vm.Alike t.vm → H.size ≤ t.heap.size → (∀ q : Nat, q < H.size → t.heap[q]? = H[q]?) → XC cls s t)
    (hf : ∀ z ∈ locs, free z.base) (hc : cells + 1 ≤ mc) (hs : slots + 6 ≤ ms) :
    W p l e R s m args below meth c H locs cells slots (vx_MQ below Qc XC args s mc ms free) (F0 m pc ls rest) := by
  intro T hT X
  have htr : e.platform.stackTraces = false := (show e.platform.stackTraces = l.stackTraces by rw [X.admits.platform]).trans hl
  have Y := vx_rebase X (R' := { frames := R.frames, locals := R.locals, cells := 1, slots := 6 }) (Nat.le_refl _) (Nat.le_refl _) hRcells hRslots
  obtain ⟨s', hA⟩ : ∃ z, z = (T.setVm s.vm).setFrames (.invoking m args :: below) := ⟨_, rfl⟩
  rw [← hA] at Y
  have hvm : s'.vm = s.vm := by rw [hA]; rfl
  have hhp : s'.heap = H := by rw [hA]; exact hT
  have hW0 : s.WarmedH s'.vm := by rw [hvm]; exact State.WarmedH.refl s
  have hat' : ∀ w ∈ vx_at0 own ic cls names, w.before args s' = true := fun w hw => vx_ot_at hW0 hvm.symm (hgood w (List.mem_cons_of_mem _ (List.mem_cons_of_mem _ hw))) (hat w hw)
  have hk' : (Cond.classLink own ik cls).before args s' = true := vx_ot_at hW0 hvm.symm (hgood _ List.mem_cons_self) hk
  have hini' : (Cond.initialized cls).before args s' = true := vx_ot_at hW0 hvm.symm (hgood _ (List.mem_cons_of_mem _ List.mem_cons_self)) hini
  have hU' : vx_Zq Bundle.tN "UNASSIGNED_STACK" Bundle.steD A s' s'.heap := by rw [hhp]; exact vx_Zq.moved hW0.alike (hU.kept hS.2.1)
  have hN' : vx_Zq Bundle.tN "SUPPRESSED_SENTINEL" Bundle.listD A s' s'.heap := by rw [hhp]; exact vx_Zq.moved hW0.alike (hN.kept hS.2.1)
  have h : ∀ w ∈ Bundle.ownAtoms0 own ic cls names, w.before args s' = true := vx_own hat' (vx_isRefq hU'.1) (vx_isRefq hN'.1) hU'.2.word hN'.2.word
  have hown' : s'.vm.findClass own = some m.cls := by rw [hvm]; exact hown
  have hins : (Cond.instantiable cls 6).before args s' = true := h _ (by simp [Bundle.ownAtoms0])
  obtain ⟨vm₁, cX, kX, hfX, hkX, -, -, X₁, st1⟩ := Y.newCold hexec (own := own) (C := cls) (index := ik) (n := 6) hown' hk' hins hini'
    (g := F0 m pc ls rest) rfl (by rw [hb]; exact d0) (Nat.le_refl _) (Nat.le_refl _)
  generalize hT1 : (T.setVm vm₁).pushCell { cls := cX, slots := kX.instanceTypes.map defaultValue, vm := .none } = T1 at X₁ st1
  have hcat : (Value.ref T.heap.size).category = 1 := rfl
  have hcellA : T1.heap[T.heap.size]? = some (freshCell cX kX) := by rw [← hT1]; exact State.heap_pushCell_size _ _
  have d3' : decode c.code (pc + 3) = .ok (.dup, 1) := by rw [hb]; exact d3
  obtain ⟨U, hsteps, hrun, hend, hW, hsame, ce, hce, hO⟩ := X₁.ctorThrow0 hexec htr (own := own) (cls := cls) (names := names) (ic := ic) hown' hcls hnames h (fun x hx => nomatch hx) hfX hkX hcellA (by rw [hhp, hT]; exact Nat.le_refl _)
    (g := { method := m, pc := pc + 4, locals := ls, stack := .ref T.heap.size :: .ref T.heap.size :: rest, locked := none }) rfl hsize rfl rfl (rest := rest) rfl
    (by rw [hb]; exact d4) (by rw [hb]; exact d7) hout hRframes (by simp only [List.map_cons, List.sum_cons, hcat]; omega) hlocks
  obtain ⟨f1, f2⟩ := vx_frame hsame
  rw [hhp] at f1 f2
  have hWs : s.WarmedH U.vm := State.WarmedH.trans hW0 hW
  have hcl : s.vm.findClass cls = some ce.cls := by
    have h9 := hO.cls
    rw [hvm] at h9
    exact h9
  have hall : s.sameButNew ({ U with vm := s.vm } : State) locs mc ms := by
    subst hA
    obtain ⟨e1, e2⟩ := hsame
    rw [State.setFrames_setFrames] at e1
    have h2 : (T.setVm s.vm).sameButNew ({ U with vm := s.vm } : State) [] (0 + 1) (0 + 6) := ⟨e1, e2⟩
    have h3 := X.same.trans h2
    rw [List.append_nil] at h3
    exact h3.mono hc hs
  refine ⟨U, ?_, .threw T.heap.size, hrun, hend, Or.inr ⟨T.heap.size, rfl, cls, ce, locs, hx U hWs.alike f1 (fun q hq => f2 q hq (fun z hz => nomatch hz)), hce, hO.vm, hcl, hWs, hall, hf⟩⟩
  refine st1 _ ?_
  show Steps p.tables e below (T1.setTop { method := m, pc := pc + 3, locals := ls, stack := .ref T.heap.size :: rest, locked := none }) _
  jvm_step X₁.here [X₁.here.top, hexec, d3', Value.category]
  exact hsteps
/-- 'throw new E("text")': new; dup; ldc; invokespecial; athrow -/
theorem vx_throwS {cc : ByteArray} {pc : Nat} (hexec : p.tables.exec = Jvm.exec) (hb : c.code = cc) (hl : l.stackTraces = false) {own cls text : String} {names : List String} {ik is ic mc ms sa : Nat} {A : Nat → Prop}
    (hown : s.vm.findClass own = some m.cls) (hcls : Bundle.fit cls = true) (hnames : ∀ n ∈ names, Bundle.fit n = true)
    (hk : (Cond.classLink own ik cls).before args s = true) (hini : (Cond.initialized cls).before args s = true) (hstr : vk_R own is text sa s) (hat : ∀ w ∈ vx_atS own ic cls names, w.before args s = true)
    (hgood : ∀ w ∈ Cond.classLink own ik cls :: Cond.initialized cls :: vx_atS own ic cls names, vx_ot w = true)
    (hU : vx_Zq Bundle.tN "UNASSIGNED_STACK" Bundle.steD A s s.heap) (hN : vx_Zq Bundle.tN "SUPPRESSED_SENTINEL" Bundle.listD A s s.heap) (hS : va_S A s.heap H locs) (hsize : ls.size = c.maxLocals)
    (d0 : decode cc pc = .ok (.new ik, 3)) (d3 : decode cc (pc + 3) = .ok (.dup, 1)) (d4 : decode cc (pc + 4) = .ok (.ldc is, 2)) (d6 : decode cc (pc + 6) = .ok (.invokespecial ic, 3)) (d9 : decode cc (pc + 9) = .ok (.athrow, 1))
    (hout : ∀ x ∈ c.exceptionTable.toList, covers x (pc + 9) = false)
    (hRframes : names.length + 3 < R.frames) (hRlocals : (rest.map fun v => v.category).sum + (13 * (names.length + 1) + 43) ≤ R.locals) (hRcells : cells + 1 ≤ R.cells) (hRslots : slots + 6 ≤ R.slots) (hlocks : meth.locks = false)
    (hx : ∀ t : State, s.vm.Alike t.vm → H.size ≤ t.heap.size → (∀ q : Nat, q < H.size → t.heap[q]? = H[q]?) → XC cls s t)
    (hf : ∀ z ∈ locs, free z.base) (hc : cells + 1 ≤ mc) (hs : slots + 6 ≤ ms) :
    W p l e R s m args below meth c H locs cells slots (vx_MQ below Qc XC args s mc ms free) (F0 m pc ls rest) := by
  intro T hT X
  have htr : e.platform.stackTraces = false := (show e.platform.stackTraces = l.stackTraces by rw [X.admits.platform]).trans hl
  have Y := vx_rebase X (R' := { frames := R.frames, locals := R.locals, cells := 1, slots := 6 }) (Nat.le_refl _) (Nat.le_refl _) hRcells hRslots
  obtain ⟨s', hA⟩ : ∃ z, z = (T.setVm s.vm).setFrames (.invoking m args :: below) := ⟨_, rfl⟩
  rw [← hA] at Y
  have hvm : s'.vm = s.vm := by rw [hA]; rfl
  have hhp : s'.heap = H := by rw [hA]; exact hT
  have hW0 : s.WarmedH s'.vm := by rw [hvm]; exact State.WarmedH.refl s
  have hat' : ∀ w ∈ vx_atS own ic cls names, w.before args s' = true := fun w hw => vx_ot_at hW0 hvm.symm (hgood w (List.mem_cons_of_mem _ (List.mem_cons_of_mem _ hw))) (hat w hw)
  have hk' : (Cond.classLink own ik cls).before args s' = true := vx_ot_at hW0 hvm.symm (hgood _ List.mem_cons_self) hk
  have hini' : (Cond.initialized cls).before args s' = true := vx_ot_at hW0 hvm.symm (hgood _ (List.mem_cons_of_mem _ List.mem_cons_self)) hini
  have hU' : vx_Zq Bundle.tN "UNASSIGNED_STACK" Bundle.steD A s' s'.heap := by rw [hhp]; exact vx_Zq.moved hW0.alike (hU.kept hS.2.1)
  have hN' : vx_Zq Bundle.tN "SUPPRESSED_SENTINEL" Bundle.listD A s' s'.heap := by rw [hhp]; exact vx_Zq.moved hW0.alike (hN.kept hS.2.1)
  have h : ∀ w ∈ Bundle.ownAtoms own ic cls names, w.before args s' = true := vx_own hat' (vx_isRefq hU'.1) (vx_isRefq hN'.1) hU'.2.word hN'.2.word
  have hown' : s'.vm.findClass own = some m.cls := by rw [hvm]; exact hown
  have hins : (Cond.instantiable cls 6).before args s' = true := h _ (by simp [Bundle.ownAtoms])
  obtain ⟨vm₁, cX, kX, hfX, hkX, -, -, X₁, st1⟩ := Y.newCold hexec (own := own) (C := cls) (index := ik) (n := 6) hown' hk' hins hini'
    (g := F0 m pc ls rest) rfl (by rw [hb]; exact d0) (Nat.le_refl _) (Nat.le_refl _)
  generalize hT1 : (T.setVm vm₁).pushCell { cls := cX, slots := kX.instanceTypes.map defaultValue, vm := .none } = T1 at X₁ st1
  have hcat : (Value.ref T.heap.size).category = 1 := rfl
  have hcellA : T1.heap[T.heap.size]? = some (freshCell cX kX) := by rw [← hT1]; exact State.heap_pushCell_size _ _
  have d3' : decode c.code (pc + 3) = .ok (.dup, 1) := by rw [hb]; exact d3
  have d4' : decode c.code (pc + 4) = .ok (.ldc is, 2) := by rw [hb]; exact d4
  have hstr' : vk_R own is text sa s' := vk_R.warm hW0 hstr
  obtain ⟨U, hsteps, hrun, hend, hW, hsame, ce, hce, hO⟩ := X₁.ctorThrowS hexec htr (own := own) (cls := cls) (names := names) (ic := ic) hown' hcls hnames h (fun x hx => nomatch hx) hfX hkX hcellA (by rw [hhp, hT]; exact Nat.le_refl _) (msg := .ref sa) rfl
    (g := { method := m, pc := pc + 6, locals := ls, stack := .ref sa :: .ref T.heap.size :: .ref T.heap.size :: rest, locked := none }) rfl hsize rfl rfl (rest := rest) rfl
    (by rw [hb]; exact d6) (by rw [hb]; exact d9) hout hRframes (by simp only [List.map_cons, List.sum_cons, hcat]; omega) hlocks
  obtain ⟨f1, f2⟩ := vx_frame hsame
  rw [hhp] at f1 f2
  have hWs : s.WarmedH U.vm := State.WarmedH.trans hW0 hW
  have hcl : s.vm.findClass cls = some ce.cls := by
    have h9 := hO.cls
    rw [hvm] at h9
    exact h9
  have hall : s.sameButNew ({ U with vm := s.vm } : State) locs mc ms := by
    subst hA
    obtain ⟨e1, e2⟩ := hsame
    rw [State.setFrames_setFrames] at e1
    have h2 : (T.setVm s.vm).sameButNew ({ U with vm := s.vm } : State) [] (0 + 1) (0 + 6) := ⟨e1, e2⟩
    have h3 := X.same.trans h2
    rw [List.append_nil] at h3
    exact h3.mono hc hs
  refine ⟨U, ?_, .threw T.heap.size, hrun, hend, Or.inr ⟨T.heap.size, rfl, cls, ce, locs, hx U hWs.alike f1 (fun q hq => f2 q hq (fun z hz => nomatch hz)), hce, hO.vm, hcl, hWs, hall, hf⟩⟩
  refine st1 _ ?_
  show Steps p.tables e below (T1.setTop { method := m, pc := pc + 3, locals := ls, stack := .ref T.heap.size :: rest, locked := none }) _
  jvm_step X₁.here [X₁.here.top, hexec, d3', Value.category]
  exact X₁.ldcString hexec (own := own) (text := text) (index := is) (a := sa) hown' hstr'.1 hstr'.2
    (g := { method := m, pc := pc + 4, locals := ls, stack := .ref T.heap.size :: .ref T.heap.size :: rest, locked := none }) rfl d4' _ hsteps
/-- 'throw new E("text")', the text by a wide index -/
theorem vx_throwSW {cc : ByteArray} {pc : Nat} (hexec : p.tables.exec = Jvm.exec) (hb : c.code = cc) (hl : l.stackTraces = false) {own cls text : String} {names : List String} {ik is ic mc ms sa : Nat} {A : Nat → Prop}
    (hown : s.vm.findClass own = some m.cls) (hcls : Bundle.fit cls = true) (hnames : ∀ n ∈ names, Bundle.fit n = true)
    (hk : (Cond.classLink own ik cls).before args s = true) (hini : (Cond.initialized cls).before args s = true) (hstr : vk_R own is text sa s) (hat : ∀ w ∈ vx_atS own ic cls names, w.before args s = true)
    (hgood : ∀ w ∈ Cond.classLink own ik cls :: Cond.initialized cls :: vx_atS own ic cls names, vx_ot w = true)
    (hU : vx_Zq Bundle.tN "UNASSIGNED_STACK" Bundle.steD A s s.heap) (hN : vx_Zq Bundle.tN "SUPPRESSED_SENTINEL" Bundle.listD A s s.heap) (hS : va_S A s.heap H locs) (hsize : ls.size = c.maxLocals)
    (d0 : decode cc pc = .ok (.new ik, 3)) (d3 : decode cc (pc + 3) = .ok (.dup, 1)) (d4 : decode cc (pc + 4) = .ok (.ldc_w is, 3)) (d7 : decode cc (pc + 7) = .ok (.invokespecial ic, 3)) (d10 : decode cc (pc + 10) = .ok (.athrow, 1))
    (hout : ∀ x ∈ c.exceptionTable.toList, covers x (pc + 10) = false)
    (hRframes : names.length + 3 < R.frames) (hRlocals : (rest.map fun v => v.category).sum + (13 * (names.length + 1) + 43) ≤ R.locals) (hRcells : cells + 1 ≤ R.cells) (hRslots : slots + 6 ≤ R.slots) (hlocks : meth.locks = false)
    (hx : ∀ t : State, s.vm.Alike t.vm → H.size ≤ t.heap.size → (∀ q : Nat, q < H.size → t.heap[q]? = H[q]?) → XC cls s t)
    (hf : ∀ z ∈ locs, free z.base) (hc : cells + 1 ≤ mc) (hs : slots + 6 ≤ ms) :
    W p l e R s m args below meth c H locs cells slots (vx_MQ below Qc XC args s mc ms free) (F0 m pc ls rest) := by
  intro T hT X
  have htr : e.platform.stackTraces = false := (show e.platform.stackTraces = l.stackTraces by rw [X.admits.platform]).trans hl
  have Y := vx_rebase X (R' := { frames := R.frames, locals := R.locals, cells := 1, slots := 6 }) (Nat.le_refl _) (Nat.le_refl _) hRcells hRslots
  obtain ⟨s', hA⟩ : ∃ z, z = (T.setVm s.vm).setFrames (.invoking m args :: below) := ⟨_, rfl⟩
  rw [← hA] at Y
  have hvm : s'.vm = s.vm := by rw [hA]; rfl
  have hhp : s'.heap = H := by rw [hA]; exact hT
  have hW0 : s.WarmedH s'.vm := by rw [hvm]; exact State.WarmedH.refl s
  have hat' : ∀ w ∈ vx_atS own ic cls names, w.before args s' = true := fun w hw => vx_ot_at hW0 hvm.symm (hgood w (List.mem_cons_of_mem _ (List.mem_cons_of_mem _ hw))) (hat w hw)
  have hk' : (Cond.classLink own ik cls).before args s' = true := vx_ot_at hW0 hvm.symm (hgood _ List.mem_cons_self) hk
  have hini' : (Cond.initialized cls).before args s' = true := vx_ot_at hW0 hvm.symm (hgood _ (List.mem_cons_of_mem _ List.mem_cons_self)) hini
  have hU' : vx_Zq Bundle.tN "UNASSIGNED_STACK" Bundle.steD A s' s'.heap := by rw [hhp]; exact vx_Zq.moved hW0.alike (hU.kept hS.2.1)
  have hN' : vx_Zq Bundle.tN "SUPPRESSED_SENTINEL" Bundle.listD A s' s'.heap := by rw [hhp]; exact vx_Zq.moved hW0.alike (hN.kept hS.2.1)
  have h : ∀ w ∈ Bundle.ownAtoms own ic cls names, w.before args s' = true := vx_own hat' (vx_isRefq hU'.1) (vx_isRefq hN'.1) hU'.2.word hN'.2.word
  have hown' : s'.vm.findClass own = some m.cls := by rw [hvm]; exact hown
  have hins : (Cond.instantiable cls 6).before args s' = true := h _ (by simp [Bundle.ownAtoms])
  obtain ⟨vm₁, cX, kX, hfX, hkX, -, -, X₁, st1⟩ := Y.newCold hexec (own := own) (C := cls) (index := ik) (n := 6) hown' hk' hins hini'
    (g := F0 m pc ls rest) rfl (by rw [hb]; exact d0) (Nat.le_refl _) (Nat.le_refl _)
  generalize hT1 : (T.setVm vm₁).pushCell { cls := cX, slots := kX.instanceTypes.map defaultValue, vm := .none } = T1 at X₁ st1
  have hcat : (Value.ref T.heap.size).category = 1 := rfl
  have hcellA : T1.heap[T.heap.size]? = some (freshCell cX kX) := by rw [← hT1]; exact State.heap_pushCell_size _ _
  have d3' : decode c.code (pc + 3) = .ok (.dup, 1) := by rw [hb]; exact d3
  have d4' : decode c.code (pc + 4) = .ok (.ldc_w is, 3) := by rw [hb]; exact d4
  have hstr' : vk_R own is text sa s' := vk_R.warm hW0 hstr
  obtain ⟨U, hsteps, hrun, hend, hW, hsame, ce, hce, hO⟩ := X₁.ctorThrowS hexec htr (own := own) (cls := cls) (names := names) (ic := ic) hown' hcls hnames h (fun x hx => nomatch hx) hfX hkX hcellA (by rw [hhp, hT]; exact Nat.le_refl _) (msg := .ref sa) rfl
    (g := { method := m, pc := pc + 7, locals := ls, stack := .ref sa :: .ref T.heap.size :: .ref T.heap.size :: rest, locked := none }) rfl hsize rfl rfl (rest := rest) rfl
    (by rw [hb]; exact d7) (by rw [hb]; exact d10) hout hRframes (by simp only [List.map_cons, List.sum_cons, hcat]; omega) hlocks
  obtain ⟨f1, f2⟩ := vx_frame hsame
  rw [hhp] at f1 f2
  have hWs : s.WarmedH U.vm := State.WarmedH.trans hW0 hW
  have hcl : s.vm.findClass cls = some ce.cls := by
    have h9 := hO.cls
    rw [hvm] at h9
    exact h9
  have hall : s.sameButNew ({ U with vm := s.vm } : State) locs mc ms := by
    subst hA
    obtain ⟨e1, e2⟩ := hsame
    rw [State.setFrames_setFrames] at e1
    have h2 : (T.setVm s.vm).sameButNew ({ U with vm := s.vm } : State) [] (0 + 1) (0 + 6) := ⟨e1, e2⟩
    have h3 := X.same.trans h2
    rw [List.append_nil] at h3
    exact h3.mono hc hs
  refine ⟨U, ?_, .threw T.heap.size, hrun, hend, Or.inr ⟨T.heap.size, rfl, cls, ce, locs, hx U hWs.alike f1 (fun q hq => f2 q hq (fun z hz => nomatch hz)), hce, hO.vm, hcl, hWs, hall, hf⟩⟩
  refine st1 _ ?_
  show Steps p.tables e below (T1.setTop { method := m, pc := pc + 3, locals := ls, stack := .ref T.heap.size :: rest, locked := none }) _
  jvm_step X₁.here [X₁.here.top, hexec, d3', Value.category]
  exact X₁.ldcStringW hexec (own := own) (text := text) (index := is) (a := sa) hown' hstr'.1 hstr'.2
    (g := { method := m, pc := pc + 4, locals := ls, stack := .ref T.heap.size :: .ref T.heap.size :: rest, locked := none }) rfl d4' _ hsteps
end Ends
section Bodies
variable {l : Launch}
theorem vx_ofW {y : MethodName} {ws ws' : List Cond} {rm : Room} {Pc : Array Value → State → Prop} {Qc : Array Value → State → Outcome → State → Prop} {XC : String → State → State → Prop} {mc ms : Nat} {free : Addr → Prop} {cc : ByteArray} {maxL : Nat} {ret : Option FieldType}
    (hy : plainName y.cls = true) (hw : ws = Cond.code y cc maxL ret :: ws')
    (body : ∀ p e s m args below meth c s₁, BodyLoose p l y (headSpec ws rm) cc maxL ret e s m args below meth c s₁ → c.maxLocals = maxL → (∀ x ∈ c.exceptionTable.toList, False) → Pc args s →
      W p l e (headSpec ws rm).room s m args below meth c s.heap [] 0 0 (vx_MQ below Qc XC args s mc ms free) (entryFrame m args maxL)) : vx_Met l y ws rm Pc Qc XC mc ms free := by
  refine MetFree.of_bodyS (code := cc) (maxLocals := maxL) (ret := ret) hy ?_ ?_
  · intro args s m h hn
    obtain ⟨meth, c, h1, h2, h3, h4, h5, h6, -, -⟩ := Cond.code_spec hn (atoms_spec (ws := ws) h _ (by rw [hw]; exact List.mem_cons_self))
    exact ⟨meth, c, h1, h2, h3, h4, h5, h6⟩
  · intro p e s m args below meth c s₁ B hml hP _
    have hh0 : s₁.heap = s.heap := by rw [B.state]; rfl
    have ht : ∀ x ∈ c.exceptionTable.toList, False := by
      obtain ⟨meth9, c9, h1, h2, -, -, -, -, h7, -⟩ := Cond.code_spec B.named (atoms_spec (ws := ws) B.pre _ (by rw [hw]; exact List.mem_cons_self))
      cases Option.some.inj (h1.symm.trans B.method)
      cases Option.some.inj (h2.symm.trans (Stand.of_body B).code)
      intro x hx
      rw [Array.isEmpty_iff.mp h7] at hx
      cases hx
    obtain ⟨t, a1, o, b1, b2, b3⟩ := body p e s m args below meth c s₁ B hml ht hP s₁ hh0 (Stand.of_body B)
    exact ⟨t, o, a1, b1, b2, b3⟩
/-- the table of a body with handlers -/
theorem vx_table {p : Program} {x y : MethodName} {S : Spec} {cc bytes : ByteArray} {maxL maxL' : Nat} {ret ret' : Option FieldType} {e : Env} {s s₁ : State} {m : MethodId} {args : Array Value} {below : List Frame} {meth : Method} {c : Code} {hh : List (Nat × Nat × Nat × Nat)}
    (B : BodyLoose p l y S cc maxL ret e s m args below meth c s₁) (h : (Cond.codeWith y bytes maxL' ret' hh).before args s = true) : c.exceptionTable.toList = tableOf hh := by
  obtain ⟨m9, meth9, c9, hn9, h1, h2, -, -, h6, -⟩ := Cond.codeWith_spec h
  cases Option.some.inj (hn9.symm.trans B.named)
  cases Option.some.inj (h1.symm.trans B.method)
  cases Option.some.inj (h2.symm.trans (Stand.of_body B).code)
  rw [← h6, table_eq]
end Bodies
end VXA
/-! ===== END ===== -/
/-! ===== BEGIN a static call of a method with an exception table ===== -/
section VXS
variable {p : Program} {l : Launch} {e : Env} {R : Room} {s : State} {m : MethodId} {args : Array Value} {below : List Frame} {meth : Method} {c : Code} {T : State} {H : Heap} {locs : List Loc} {cells slots : Nat}
abbrev vx_CSW (R : Room) (s : State) (args : Array Value) (own : String) (index : Nat) (y : MethodName) (bytes : ByteArray) (maxL : Nat) (ret : Option FieldType) (hh : List (Nat × Nat × Nat × Nat)) (ws : List Cond) (rm : Room) (mc ms n : Nat) : Prop :=
  (rm.cells = mc ∧ rm.slots = ms ∧ rm.frames + 1 ≤ R.frames ∧ 8 + (maxL + 11) + rm.locals ≤ R.locals ∧ (∀ w ∈ ws, ∀ (a' : Array Value) (U : State), s.WarmedH U.vm → w.before a' U = true) ∧ Cond.codeWith y bytes maxL ret hh ∈ ws) ∧
  (Cond.codeWith y bytes maxL ret hh).before args s = true ∧ (Cond.initialized y.cls).before args s = true ∧ (y.cls ≠ "java/lang/invoke/MethodHandle" ∧ y.cls ≠ "java/lang/invoke/VarHandle") ∧
  (∀ sig, parseMethodDescriptor y.desc = some sig → n = sig.parameters.length) ∧ (Cond.methodLink own index y).before args s = true ∧ (Cond.static y).before args s = true
theorem vx_cwSW {own : String} {index maxL mc ms : Nat} {y : MethodName} {bytes : ByteArray} {ret : Option FieldType} {hh : List (Nat × Nat × Nat × Nat)} {Ts ws ws' : List Cond} {rm : Room} (n : Nat) (ht : ∀ w ∈ Ts, w.before args s = true) (hT : GoodIn Ts (va_wsS own index y ws)) (hw : ws = Cond.codeWith y bytes maxL ret hh :: ws') (hrc : rm.cells = mc) (hrs : rm.slots = ms)
    (hd : y.cls ≠ "java/lang/invoke/MethodHandle" ∧ y.cls ≠ "java/lang/invoke/VarHandle" ∧ (parseMethodDescriptor y.desc).map (fun d => d.parameters.length) = some n) (hR : rm.frames + 1 ≤ R.frames ∧ 8 + (maxL + 11) + rm.locals ≤ R.locals) :
    vx_CSW R s args own index y bytes maxL ret hh ws rm mc ms n := by
  have ok : ∀ w ∈ va_wsS own index y ws, w.before args s = true := fun w h => ht w (hT w h).1
  have hG : GoodIn Ts ws := fun w h => hT w (by unfold va_wsS; exact List.mem_append_right _ h)
  have hc : Cond.codeWith y bytes maxL ret hh ∈ ws := by rw [hw]; exact List.mem_cons_self
  refine ⟨⟨hrc, hrs, hR.1, hR.2, pay_in ht hG, hc⟩, ht _ (hG _ hc).1, ok _ (by simp [va_wsS]), ⟨hd.1, hd.2.1⟩, fun sig h => ?_, ok _ (by simp [va_wsS]), ok _ (by simp [va_wsS])⟩
  have h2 := hd.2.2
  rw [h] at h2
  exact (Option.some.inj h2).symm
theorem vx_callSW (X : Stand p l e R s m args below meth c T locs cells slots) (hexec : p.tables.exec = Jvm.exec) {own : String} {index : Nat} {y : MethodName} {bytes : ByteArray} {maxL : Nat} {ret : Option FieldType} {hh : List (Nat × Nat × Nat × Nat)}
    (hown : s.vm.findClass own = some m.cls) (hlink : (Cond.methodLink own index y).before args s = true) (hstat : (Cond.static y).before args s = true) (hinit : (Cond.initialized y.cls).before args s = true)
    (hcode : (Cond.codeWith y bytes maxL ret hh).before args s = true) (hy : y.cls ≠ "java/lang/invoke/MethodHandle" ∧ y.cls ≠ "java/lang/invoke/VarHandle")
    {W9 : Nat} {Pre : Pt → Array Value → Prop} {Post : Pt → Array Value → Option Value → Pt → Prop} (hK : Back l R p e below s args y 3 W9 Pre Post)
    {g : JFrame} (hg : g.method = m) (hsize : g.locals.size = c.maxLocals) {argsL rest : List Value} (hlen : ∀ sig, parseMethodDescriptor y.desc = some sig → argsL.length = sig.parameters.length)
    (hstack : g.stack = argsL.reverse ++ rest) (hW : 2 * g.monitorRoom + (rest.map fun v => v.category).sum ≤ W9) (hdg : decode c.code g.pc = .ok (.invokestatic index, 3))
    (hpre : ∀ vm₁, s.WarmedH vm₁ → Pre ⟨T.setVm vm₁, locs, cells, slots⟩ argsL.toArray) :
    ∃ (v : Option Value) (vm₁ : Vm) (B : Pt), s.WarmedH vm₁ ∧ Stand p l e R s m args below meth c B.U B.locs B.cells B.slots ∧ Post ⟨T.setVm vm₁, locs, cells, slots⟩ argsL.toArray v B ∧
      ∀ target, Steps p.tables e below (B.U.setTop { g with pc := g.pc + 3, stack := v.toList ++ rest }) target → Steps p.tables e below (T.setTop g) target := by
  obtain ⟨mk, methM, cM, hnamed, hmethM, -, -, -, -, -, -, hsigM⟩ := Cond.codeWith_spec hcode
  have hstatic : methM.isStatic = true := Cond.static_spec hnamed hmethM hstat
  obtain ⟨kP, hkP, -⟩ := className_of_methodNamed hnamed
  have hinitP : kP.init = .initialized := Cond.initialized_spec (findClass_of_methodNamed hnamed) hkP hinit
  obtain ⟨vm₁, X₁, hstep₁⟩ := X.invokestatic hexec hown hlink hnamed hmethM hstatic hkP hinitP hy (g := g) hg (argsL := argsL) (rest := rest) (hlen _ hsigM) hstack hdg
  obtain ⟨v, B, X', hpost, hsteps⟩ := hK m meth c ⟨T.setVm vm₁, locs, cells, slots⟩ { g with stack := rest } (.invokestatic index) mk argsL.toArray X₁ hg hsize hdg hW (X₁.named hnamed) (hpre vm₁ X₁.warmed)
  exact ⟨v, vm₁, B, X₁.warmed, X', hpost, fun target h => hstep₁ _ fun acts => by rw [doInvoke_state]; exact hsteps.trans h⟩
theorem vx_runSW {y : MethodName} {bytes cc : ByteArray} {maxL nL mc ms n index : Nat} {ret : Option FieldType} {hh : List (Nat × Nat × Nat × Nat)} {ws : List Cond} {rm : Room} {Pc : Array Value → State → Prop} {Qc : Array Value → State → Outcome → State → Prop} {free : Addr → Prop} {Ts : List Cond} {own : String} {As rest : List Value} {g : JFrame}
    (S : CallFix p m c cc nL s args Ts own) (hM : Met l y ws rm Pc Qc mc ms free) (cw : vx_CSW R s args own index y bytes maxL ret hh ws rm mc ms n) (hp : PreS s H Pc As)
    (hg : g.method = m) (hn : As.length = n) (hsize : g.locals.size = nL) (hstack : g.stack = As.reverse ++ rest) (hW : 2 * g.monitorRoom + (rest.map fun v => v.category).sum ≤ 8) (hdg : decode cc g.pc = .ok (.invokestatic index, 3)) (hf : cells + mc ≤ R.cells ∧ slots + ms ≤ R.slots) :
    va_Run p l e R s m args below meth c H locs cells slots mc ms g rest (Qc As.toArray) (free) := by
  obtain ⟨⟨hrc, hrs, hfr, hlo, hws, hcw⟩, hcode, hini, hy, hlen, hl, hstt⟩ := cw
  have hK : Back l R p e below s args y 3 8 (PreOf R mc ms Pc) (PostOf Qc mc ms free) := va_backW (hh := hh) (bytes := bytes) (maxL := maxL) (ret := ret) hM hp.1 hrc hrs hfr hlo hws hcw (fun a' U hW => word_at hW (Or.inl (by first | rfl | simp [Cond.onTables, Cond.keeps, Cond.steady])) hini)
  obtain ⟨hx, hb, hml, ho, -⟩ := S
  intro T hT X
  obtain ⟨v, vm₁, ⟨U', l2, c2, s2⟩, hW₁, X', ⟨g', mk, t, L, e1, e2, hq, h1, hL, h2, h3⟩, st⟩ := vx_callSW X hx (hh := hh) (bytes := bytes) (maxL := maxL) (ret := ret) ho hl hstt hini hcode hy hK hg (hsize.trans hml.symm) (argsL := As) (rest := rest) (fun sig h => hn.trans (hlen sig h)) hstack hW (by rw [hb]; exact hdg)
    (fun vm₁ hW₁ => ⟨hf.1, hf.2, hp.2 (T.setVm vm₁) hT hW₁⟩)
  dsimp only [Pt.U, Pt.locs, Pt.cells, Pt.slots] at X' e1 e2 h1 h2 h3 st
  subst h1; subst h2; subst h3
  exact ⟨v, (T.setVm vm₁).calling g' mk As.toArray, t, U', L, hT, X', hL, e1, e2, hq, st⟩
/-- not caught here, past rows that name other classes: it goes on to the caller -/
theorem vx_outP {p : Program} {l : Launch} {e : Env} {R : Room} {s : State} {m : MethodId} {args : Array Value} {below : List Frame} {meth : Method} {c : Code} {H : Heap} {locs : List Loc} {cells slots : Nat} {free : Addr → Prop} {ls : Array Slot} {rest : List Value} {Qc : Array Value → State → Outcome → State → Prop} {XC : String → State → State → Prop}
    {pc : Nat} {own E : String} {ce : Cell} {q : Addr} {mc ms : Nat} (hown : s.vm.findClass own = some m.cls) (hlocks : meth.locks = false)
    (hpass : ∀ z ∈ c.exceptionTable.toList, covers z pc = false ∨ (z.catchType ≠ 0 ∧ ∃ nm : String, (Cond.classLink own z.catchType nm).before args s = true ∧ va_Nc E nm s)) (hcell : H[q]? = some ce) (hv : ce.vm = .none) (hcl : s.vm.findClass E = some ce.cls)
    (hx : ∀ t : State, t.heap = H → s.vm.Alike t.vm → XC E s t) (hf : ∀ z ∈ locs, free z.base) (hc : cells ≤ mc) (hs : slots ≤ ms) :
    vx_W p l e R s m args below meth c H locs cells slots (vx_MQ below Qc XC args s mc ms free) (F0 m pc ls rest) q := by
  intro T hT X
  have hpl : e.platform.magicAccessors = ({} : Platform).magicAccessors := by rw [X.admits.platform]
  obtain ⟨vm', hW', X', st⟩ := X.outThrough hlocks q (g := F0 m pc ls rest) rfl rfl rfl (cell := ce) (by rw [hT]; exact hcell) (by rw [hv]; rfl)
    (by obtain ⟨k9, h9, -⟩ := Vm.findClass_spec hcl; exact ⟨k9, h9⟩) (fun z hz => by
      rcases hpass z hz with h | ⟨hz0, nm, hl1, hn1⟩
      · exact Or.inl h
      · obtain ⟨c6, hc6, hcl6⟩ := Cond.classLink_spec hown hl1 e.platform hpl
        obtain ⟨a8, b8, h1, h2, h3⟩ := hn1
        cases Option.some.inj (h1.symm.trans hcl)
        cases Option.some.inj (h2.symm.trans hc6)
        exact Or.inr ⟨hz0, _, hcl6, h3⟩)
  obtain ⟨g₀, hfr⟩ := X'.frames_eq
  have hcell9 : ((T.setVm vm').setFrames (.throwing q :: below)).heap[q]? = some ce := by
    show T.heap[q]? = some ce
    rw [hT]; exact hcell
  have hend : Ended ((T.setVm vm').setFrames (.throwing q :: below)) below (.threw q) := State.frames_setFrames _ (State.cur_lt_of_frames hfr)
  refine ⟨(T.setVm vm').setFrames (.throwing q :: below), ?_, .threw q, X'.here.running, hend, Or.inr ⟨q, rfl, E, ce, locs, hx _ hT (X'.ends _).1.alike, hcell9, hv, hcl, (X'.ends _).1, (X'.ends _).2.mono hc hs, hf⟩⟩
  rw [X.pushThrowing_eq]
  exact st
/-- a thing of a world lies in the heap -/
theorem vx_lt {D : va_G} {cl : List vw_C} {ws : va_W} {H1 : Heap} (h : va_P D cl ws H1) {k : Nat} {q : Nat × va_E} (hk : ws[k]? = some q) : q.1 < H1.size := (h k q hk).lt
end VXS
/-! ===== END ===== -/
/-! ===== BEGIN methods with a table of their own: called by a name, returning or throwing ===== -/
section VXH
/-! vx_backW, vx_callVX, vx_callSX, vx_callVW, vx_runVW, vx_runVX, vx_runSX, vx_ofWH follow the same proofs as their sisters above (Free/Laws.lean, Shelf42/LK1.lean); vx_outP calls Shelf42/NT130.lean (outThrough). -/
section
variable {l : Launch} {R : Room} {p : Program} {e : Env} {below : List Frame} {s : State} {sargs : Array Value} {y : MethodName} {len W9 : Nat}
theorem vx_backW {ws : List Cond} {rm : Room} {Pc : Array Value → State → Prop} {Qc : Array Value → State → Outcome → State → Prop} {XC : String → State → State → Prop} {mc ms : Nat} {free : Addr → Prop} {bytes : ByteArray} {maxL : Nat} {ret : Option FieldType} {hh : List (Nat × Nat × Nat × Nat)}
    (hM : vx_Met l y ws rm Pc Qc XC mc ms free) (hblind : FrameBlind Pc) (hrc : rm.cells = mc) (hrs : rm.slots = ms)
    (hframes : rm.frames + 1 ≤ R.frames) (hlocals : W9 + (maxL + 11) + rm.locals ≤ R.locals)
    (hws : ∀ w ∈ ws, ∀ a' U, s.WarmedH U.vm → w.before a' U = true) (hcode : Cond.codeWith y bytes maxL ret hh ∈ ws) (hinit : ∀ a' U, s.WarmedH U.vm → (Cond.initialized y.cls).before a' U = true) :
    vx_Back l R p e below s sargs y len W9 (PreOf R mc ms Pc) (PostOf Qc mc ms free) (vx_Post XC mc ms free) := by
  intro m meth c A g ig mk a X hg hsize hdg hW hn hp
  have h1 : (headSpec ws rm).pre.before a A.U = true := atoms_intro fun w hw => hws w hw _ _ X.warmed
  have h2 : (Cond.codeWith y bytes maxL ret hh).before a A.U = true := hws _ hcode _ _ X.warmed
  have h3 : (Cond.initialized y.cls).before a A.U = true := hinit _ _ X.warmed
  have h4 : A.cells + (headSpec ws rm).room.cells ≤ R.cells := by rw [show (headSpec ws rm).room.cells = mc from hrc]; exact hp.1
  have h5 : A.slots + (headSpec ws rm).room.slots ≤ R.slots := by rw [show (headSpec ws rm).room.slots = ms from hrs]; exact hp.2.1
  have hPc : Pc a (A.U.calling g mk a) := hblind _ _ _ _ hp.2.2
  obtain ⟨U, Ls, c0, s0⟩ := A
  dsimp only [Pt.U, Pt.locs, Pt.cells, Pt.slots] at h1 h2 h3 h4 h5 X hn hPc ⊢
  obtain ⟨m9, methY, cY, hn9, hmY, hcY, -, hlY, -⟩ := Cond.codeWith_spec h2
  cases Option.some.inj (hn9.symm.trans hn)
  obtain ⟨kY, hkY, -⟩ := className_of_methodNamed hn
  have hinitY : kY.init = .initialized := Cond.initialized_spec (findClass_of_methodNamed hn) hkY h3
  have h : At U g.method c below := by rw [hg]; exact X.here
  have hlocals9 : W9 + (maxL + 11) + (headSpec ws rm).room.locals ≤ R.locals := hlocals
  have happ : (headSpec ws rm).appliesLoose y e.platform (U.calling g mk a) = true :=
    Spec.appliesLoose_calling (g := g) h hdg hn hkY hinitY
      (X.room_calling (g := g) (R' := (headSpec ws rm).room) hsize hmY hcY hframes (by rw [hlY]; omega) h4 h5) h1
  obtain ⟨mid, hmid⟩ := h.above
  have hfr : (U.setTop g).frames = (.java g :: mid) ++ below := by rw [State.frames_setTop' g h.top, hmid]; rfl
  obtain ⟨o, s₂, hsteps, -, hend, hq⟩ := Steps.callFree hM p X.admits X.cas X.clock (acts := []) hfr happ hPc trivial
  have hq' : vx_Q Qc XC mc ms free a (U.calling g mk a) o s₂ := hq
  rw [State.frames_setTop' g h.top] at hend
  obtain ⟨g₀, hg0⟩ := Option.isSome_iff_exists.mp h.top
  obtain ⟨r, hr⟩ := State.topJava?_eq_some.mp hg0
  have hr' : (({ U with heap := s₂.heap, slotsUsed := s₂.slotsUsed } : State).setVm s₂.vm).frames = .java g₀ :: r := hr
  rcases hq' with ⟨hqc, L, hfe, hL⟩ | ⟨q, rfl, E, ce, L, hx, hce, hcv, hcl, hW₂, hsm, hL⟩
  · obtain ⟨⟨v, rfl⟩, hW₂, e2, q2, q3, q4, q5, q6⟩ := id hfe
    have e3 : s₂ = ({ (U.calling g mk a).setFrames s₂.frames with heap := s₂.heap, slotsUsed := s₂.slotsUsed } : State).setVm s₂.vm := by
      have : s₂ = ({ s₂ with vm := (U.calling g mk a).vm } : State).setVm s₂.vm := rfl
      rw [e2] at this
      exact this
    obtain ⟨c₂, i₂, len₂, hc₂, hd₂, hf₂⟩ := hend
    have hW' : U.WarmedH s₂.vm := hW₂
    have hcc : c₂ = c := by
      have h1 : s₂.code? g.method = U.code? g.method := by
        rw [State.code?_eq, State.code?_eq, hW'.alike.method?]
      exact Option.some.inj (hc₂.symm.trans (h1.trans h.code))
    subst hcc
    have hlen : len₂ = len := by rw [hdg] at hd₂; cases hd₂; rfl
    subst hlen
    have hs₂ : s₂ = (({ U with heap := s₂.heap, slotsUsed := s₂.slotsUsed } : State).setVm s₂.vm).setTop { g with pc := g.pc + len₂, stack := v.toList ++ g.stack } := by
      refine e3.trans ?_
      rw [hf₂, State.calling_eq h.top, State.setFrames_setFrames, State.setTop_of_frames _ hr', hr]
      rfl
    have hsame : U.sameButNew ({ U with heap := s₂.heap, slotsUsed := s₂.slotsUsed } : State) L mc ms := by
      refine ⟨?_, q2, q3, q4, q5, q6⟩
      obtain ⟨t, ht, -⟩ := State.frames_cons hr
      show ({ U with heap := s₂.heap, slotsUsed := s₂.slotsUsed } : State) = { U.setFrames U.frames with heap := s₂.heap, slotsUsed := s₂.slotsUsed }
      rw [State.setFrames_self ht]
    subst hg
    refine Or.inl ⟨v, ⟨(({ U with heap := s₂.heap, slotsUsed := s₂.slotsUsed } : State).setVm s₂.vm), Ls ++ L, c0 + mc, s0 + ms⟩,
      ⟨X.admits, X.cas, X.clock, X.frames, X.room, X.hears, X.method, X.code, (X.here.setHeapUsed s₂.heap s₂.slotsUsed).setVm hW'.alike, X.tail, State.WarmedH.trans X.warmed hW', X.limits, X.bytes, X.same.trans (hsame.setVm s.vm)⟩,
      ⟨g, mk, s₂, L, rfl, rfl, hqc, rfl, hL, rfl, rfl⟩, ?_⟩
    show Steps p.tables e below _ ((({ U with heap := s₂.heap, slotsUsed := s₂.slotsUsed } : State).setVm s₂.vm).setTop { g with pc := g.pc + len₂, stack := v.toList ++ g.stack })
    rw [← hs₂]
    exact hsteps
  · obtain ⟨e2, q2, q3, q4, q5, q6⟩ := id hsm
    have e3 : s₂ = ({ (U.calling g mk a).setFrames s₂.frames with heap := s₂.heap, slotsUsed := s₂.slotsUsed } : State).setVm s₂.vm := by
      have : s₂ = ({ s₂ with vm := (U.calling g mk a).vm } : State).setVm s₂.vm := rfl
      rw [e2] at this
      exact this
    have hf₂ : s₂.frames = .throwing q :: .java g :: U.frames.tail := hend
    have hW' : U.WarmedH s₂.vm := hW₂
    have hs₂ : s₂ = ((({ U with heap := s₂.heap, slotsUsed := s₂.slotsUsed } : State).setVm s₂.vm).setTop g).pushFrame (.throwing q) := by
      refine e3.trans ?_
      rw [hf₂, State.calling_eq h.top, State.setFrames_setFrames, State.pushFrame, State.frames_setTop _ hr', State.setTop_of_frames _ hr', State.setFrames_setFrames, hr]
      rfl
    have hsame : U.sameButNew ({ U with heap := s₂.heap, slotsUsed := s₂.slotsUsed } : State) L mc ms := by
      refine ⟨?_, q2, q3, q4, q5, q6⟩
      obtain ⟨t, ht, -⟩ := State.frames_cons hr
      show ({ U with heap := s₂.heap, slotsUsed := s₂.slotsUsed } : State) = { U.setFrames U.frames with heap := s₂.heap, slotsUsed := s₂.slotsUsed }
      rw [State.setFrames_self ht]
    subst hg
    refine Or.inr ⟨q, ⟨(({ U with heap := s₂.heap, slotsUsed := s₂.slotsUsed } : State).setVm s₂.vm), Ls ++ L, c0 + mc, s0 + ms⟩,
      ⟨X.admits, X.cas, X.clock, X.frames, X.room, X.hears, X.method, X.code, (X.here.setHeapUsed s₂.heap s₂.slotsUsed).setVm hW'.alike, X.tail, State.WarmedH.trans X.warmed hW', X.limits, X.bytes, X.same.trans (hsame.setVm s.vm)⟩,
      ⟨g, mk, s₂, L, E, ce, rfl, rfl, hx, hce, hcv, hcl, rfl, hL, rfl, rfl⟩, ?_⟩
    show Steps p.tables e below _ (((({ U with heap := s₂.heap, slotsUsed := s₂.slotsUsed } : State).setVm s₂.vm).setTop g).pushFrame (.throwing q))
    rw [← hs₂]
    exact hsteps
end
variable {p : Program} {l : Launch} {e : Env} {R : Room} {s : State} {m : MethodId} {args : Array Value} {below : List Frame} {meth : Method} {c : Code} {T : State} {H : Heap} {locs : List Loc} {cells slots : Nat}
theorem vx_callVX (X : Stand p l e R s m args below meth c T locs cells slots) (hexec : p.tables.exec = Jvm.exec) {own C : String} {index : Nat} {y : MethodName} {bytes : ByteArray} {maxL : Nat} {ret : Option FieldType} {hh : List (Nat × Nat × Nat × Nat)}
    (hown : s.vm.findClass own = some m.cls) (hlink : (Cond.methodLink own index y).before args s = true) (hinst : (Cond.instanceMethod y).before args s = true) (hsel : (Cond.selects C y y).before args s = true)
    (hcode : (Cond.codeWith y bytes maxL ret hh).before args s = true) (hy : y.cls ≠ "java/lang/invoke/MethodHandle" ∧ y.cls ≠ "java/lang/invoke/VarHandle")
    {W9 : Nat} {Pre : Pt → Array Value → Prop} {Post : Pt → Array Value → Option Value → Pt → Prop} {PostX : Pt → Array Value → Addr → Pt → Prop} (hK : vx_Back l R p e below s args y 3 W9 Pre Post PostX)
    {b : Addr} {cellB : Cell} (hcell : T.heap[b]? = some cellB) (hobj : cellB.vm.isStatics = false) (hcls : s.vm.findClass C = some cellB.cls)
    {g : JFrame} (hg : g.method = m) (hsize : g.locals.size = c.maxLocals) {argsL rest : List Value} (hlen : ∀ sig, parseMethodDescriptor y.desc = some sig → argsL.length = sig.parameters.length)
    (hstack : g.stack = argsL.reverse ++ .ref b :: rest) (hW : 2 * g.monitorRoom + (rest.map fun v => v.category).sum ≤ W9) (hdg : decode c.code g.pc = .ok (.invokevirtual index, 3))
    (hpre : ∀ vm₁, s.WarmedH vm₁ → Pre ⟨T.setVm vm₁, locs, cells, slots⟩ (Value.ref b :: argsL).toArray) :
    (∃ (v : Option Value) (vm₁ : Vm) (B : Pt), s.WarmedH vm₁ ∧ Stand p l e R s m args below meth c B.U B.locs B.cells B.slots ∧ Post ⟨T.setVm vm₁, locs, cells, slots⟩ (Value.ref b :: argsL).toArray v B ∧
      ∀ target, Steps p.tables e below (B.U.setTop { g with pc := g.pc + 3, stack := v.toList ++ rest }) target → Steps p.tables e below (T.setTop g) target) ∨
    (∃ (q : Addr) (vm₁ : Vm) (B : Pt), s.WarmedH vm₁ ∧ Stand p l e R s m args below meth c B.U B.locs B.cells B.slots ∧ PostX ⟨T.setVm vm₁, locs, cells, slots⟩ (Value.ref b :: argsL).toArray q B ∧
      Steps p.tables e below (T.setTop g) ((B.U.setTop { g with stack := rest }).pushFrame (.throwing q))) := by
  obtain ⟨mk, methM, hnamed, hmethM, hstM, habM⟩ := Cond.instanceMethod_spec hinst
  obtain ⟨m8, methM', cM, hn8, hmethM', -, -, -, -, -, -, hsigM⟩ := Cond.codeWith_spec hcode
  cases Option.some.inj (hn8.symm.trans hnamed)
  cases hmethM.symm.trans hmethM'
  obtain ⟨c2, r2, m2, q1, q2, q3, q4, kP, hkP, hkPi⟩ := Cond.selects_spec hsel
  cases hcls.symm.trans q1
  cases (State.methodFound?_of_named hnamed hy).symm.trans q2
  cases hnamed.symm.trans q3
  have hselP : selectMethod e.platform s.vm cellB.cls mk = .method mk := by rw [Launch.admits_selectMethod X.admits]; exact q4
  obtain ⟨vm₁, X₁, hstep₁⟩ := X.invokevirtual hexec hown hlink hnamed hmethM hstM hkP hkPi hy (a := b) (cell := cellB) hcell
    (fun z h => by rw [h] at hobj; cases hobj) hselP hmethM habM hkP hkPi (g := g) hg (argsL := argsL) (rest := rest) (hlen _ hsigM) hstack hdg
  rcases hK m meth c ⟨T.setVm vm₁, locs, cells, slots⟩ { g with stack := rest } (.invokevirtual index) mk (Value.ref b :: argsL).toArray X₁ hg hsize hdg hW (X₁.named hnamed) (hpre vm₁ X₁.warmed) with ⟨v, B, X', hpost, hsteps⟩ | ⟨q, B, X', hpost, hsteps⟩
  · exact Or.inl ⟨v, vm₁, B, X₁.warmed, X', hpost, fun target h => hstep₁ _ fun acts => by rw [doInvoke_state]; exact hsteps.trans h⟩
  · exact Or.inr ⟨q, vm₁, B, X₁.warmed, X', hpost, hstep₁ _ fun acts => by rw [doInvoke_state]; exact hsteps⟩
theorem vx_callSX (X : Stand p l e R s m args below meth c T locs cells slots) (hexec : p.tables.exec = Jvm.exec) {own : String} {index : Nat} {y : MethodName} {bytes : ByteArray} {maxL : Nat} {ret : Option FieldType} {hh : List (Nat × Nat × Nat × Nat)}
    (hown : s.vm.findClass own = some m.cls) (hlink : (Cond.methodLink own index y).before args s = true) (hstat : (Cond.static y).before args s = true) (hinit : (Cond.initialized y.cls).before args s = true)
    (hcode : (Cond.codeWith y bytes maxL ret hh).before args s = true) (hy : y.cls ≠ "java/lang/invoke/MethodHandle" ∧ y.cls ≠ "java/lang/invoke/VarHandle")
    {W9 : Nat} {Pre : Pt → Array Value → Prop} {Post : Pt → Array Value → Option Value → Pt → Prop} {PostX : Pt → Array Value → Addr → Pt → Prop} (hK : vx_Back l R p e below s args y 3 W9 Pre Post PostX)
    {g : JFrame} (hg : g.method = m) (hsize : g.locals.size = c.maxLocals) {argsL rest : List Value} (hlen : ∀ sig, parseMethodDescriptor y.desc = some sig → argsL.length = sig.parameters.length)
    (hstack : g.stack = argsL.reverse ++ rest) (hW : 2 * g.monitorRoom + (rest.map fun v => v.category).sum ≤ W9) (hdg : decode c.code g.pc = .ok (.invokestatic index, 3))
    (hpre : ∀ vm₁, s.WarmedH vm₁ → Pre ⟨T.setVm vm₁, locs, cells, slots⟩ argsL.toArray) :
    (∃ (v : Option Value) (vm₁ : Vm) (B : Pt), s.WarmedH vm₁ ∧ Stand p l e R s m args below meth c B.U B.locs B.cells B.slots ∧ Post ⟨T.setVm vm₁, locs, cells, slots⟩ argsL.toArray v B ∧
      ∀ target, Steps p.tables e below (B.U.setTop { g with pc := g.pc + 3, stack := v.toList ++ rest }) target → Steps p.tables e below (T.setTop g) target) ∨
    (∃ (q : Addr) (vm₁ : Vm) (B : Pt), s.WarmedH vm₁ ∧ Stand p l e R s m args below meth c B.U B.locs B.cells B.slots ∧ PostX ⟨T.setVm vm₁, locs, cells, slots⟩ argsL.toArray q B ∧
      Steps p.tables e below (T.setTop g) ((B.U.setTop { g with stack := rest }).pushFrame (.throwing q))) := by
  obtain ⟨mk, methM, cM, hnamed, hmethM, -, -, -, -, -, -, hsigM⟩ := Cond.codeWith_spec hcode
  have hstatic : methM.isStatic = true := Cond.static_spec hnamed hmethM hstat
  obtain ⟨kP, hkP, -⟩ := className_of_methodNamed hnamed
  have hinitP : kP.init = .initialized := Cond.initialized_spec (findClass_of_methodNamed hnamed) hkP hinit
  obtain ⟨vm₁, X₁, hstep₁⟩ := X.invokestatic hexec hown hlink hnamed hmethM hstatic hkP hinitP hy (g := g) hg (argsL := argsL) (rest := rest) (hlen _ hsigM) hstack hdg
  rcases hK m meth c ⟨T.setVm vm₁, locs, cells, slots⟩ { g with stack := rest } (.invokestatic index) mk argsL.toArray X₁ hg hsize hdg hW (X₁.named hnamed) (hpre vm₁ X₁.warmed) with ⟨v, B, X', hpost, hsteps⟩ | ⟨q, B, X', hpost, hsteps⟩
  · exact Or.inl ⟨v, vm₁, B, X₁.warmed, X', hpost, fun target h => hstep₁ _ fun acts => by rw [doInvoke_state]; exact hsteps.trans h⟩
  · exact Or.inr ⟨q, vm₁, B, X₁.warmed, X', hpost, hstep₁ _ fun acts => by rw [doInvoke_state]; exact hsteps⟩
theorem vx_callVW (X : Stand p l e R s m args below meth c T locs cells slots) (hexec : p.tables.exec = Jvm.exec) {own C : String} {index : Nat} {y : MethodName} {bytes : ByteArray} {maxL : Nat} {ret : Option FieldType} {hh : List (Nat × Nat × Nat × Nat)}
    (hown : s.vm.findClass own = some m.cls) (hlink : (Cond.methodLink own index y).before args s = true) (hinst : (Cond.instanceMethod y).before args s = true) (hsel : (Cond.selects C y y).before args s = true)
    (hcode : (Cond.codeWith y bytes maxL ret hh).before args s = true) (hy : y.cls ≠ "java/lang/invoke/MethodHandle" ∧ y.cls ≠ "java/lang/invoke/VarHandle")
    {W9 : Nat} {Pre : Pt → Array Value → Prop} {Post : Pt → Array Value → Option Value → Pt → Prop} (hK : Back l R p e below s args y 3 W9 Pre Post)
    {b : Addr} {cellB : Cell} (hcell : T.heap[b]? = some cellB) (hobj : cellB.vm.isStatics = false) (hcls : s.vm.findClass C = some cellB.cls)
    {g : JFrame} (hg : g.method = m) (hsize : g.locals.size = c.maxLocals) {argsL rest : List Value} (hlen : ∀ sig, parseMethodDescriptor y.desc = some sig → argsL.length = sig.parameters.length)
    (hstack : g.stack = argsL.reverse ++ .ref b :: rest) (hW : 2 * g.monitorRoom + (rest.map fun v => v.category).sum ≤ W9) (hdg : decode c.code g.pc = .ok (.invokevirtual index, 3))
    (hpre : ∀ vm₁, s.WarmedH vm₁ → Pre ⟨T.setVm vm₁, locs, cells, slots⟩ (Value.ref b :: argsL).toArray) :
    ∃ (v : Option Value) (vm₁ : Vm) (B : Pt), s.WarmedH vm₁ ∧ Stand p l e R s m args below meth c B.U B.locs B.cells B.slots ∧ Post ⟨T.setVm vm₁, locs, cells, slots⟩ (Value.ref b :: argsL).toArray v B ∧
      ∀ target, Steps p.tables e below (B.U.setTop { g with pc := g.pc + 3, stack := v.toList ++ rest }) target → Steps p.tables e below (T.setTop g) target := by
  obtain ⟨mk, methM, hnamed, hmethM, hstM, habM⟩ := Cond.instanceMethod_spec hinst
  obtain ⟨m8, methM', cM, hn8, hmethM', -, -, -, -, -, -, hsigM⟩ := Cond.codeWith_spec hcode
  cases Option.some.inj (hn8.symm.trans hnamed)
  cases hmethM.symm.trans hmethM'
  obtain ⟨c2, r2, m2, q1, q2, q3, q4, kP, hkP, hkPi⟩ := Cond.selects_spec hsel
  cases hcls.symm.trans q1
  cases (State.methodFound?_of_named hnamed hy).symm.trans q2
  cases hnamed.symm.trans q3
  have hselP : selectMethod e.platform s.vm cellB.cls mk = .method mk := by rw [Launch.admits_selectMethod X.admits]; exact q4
  obtain ⟨vm₁, X₁, hstep₁⟩ := X.invokevirtual hexec hown hlink hnamed hmethM hstM hkP hkPi hy (a := b) (cell := cellB) hcell
    (fun z h => by rw [h] at hobj; cases hobj) hselP hmethM habM hkP hkPi (g := g) hg (argsL := argsL) (rest := rest) (hlen _ hsigM) hstack hdg
  obtain ⟨v, B, X', hpost, hsteps⟩ := hK m meth c ⟨T.setVm vm₁, locs, cells, slots⟩ { g with stack := rest } (.invokevirtual index) mk (Value.ref b :: argsL).toArray X₁ hg hsize hdg hW (X₁.named hnamed) (hpre vm₁ X₁.warmed)
  exact ⟨v, vm₁, B, X₁.warmed, X', hpost, fun target h => hstep₁ _ fun acts => by rw [doInvoke_state]; exact hsteps.trans h⟩
abbrev vx_CVW (R : Room) (s : State) (args : Array Value) (own C : String) (index : Nat) (y : MethodName) (bytes : ByteArray) (maxL : Nat) (ret : Option FieldType) (hh : List (Nat × Nat × Nat × Nat)) (ws : List Cond) (rm : Room) (mc ms n : Nat) : Prop :=
  (rm.cells = mc ∧ rm.slots = ms ∧ rm.frames + 1 ≤ R.frames ∧ 8 + (maxL + 11) + rm.locals ≤ R.locals ∧ (∀ w ∈ ws, ∀ (a' : Array Value) (U : State), s.WarmedH U.vm → w.before a' U = true) ∧ Cond.codeWith y bytes maxL ret hh ∈ ws) ∧
  (Cond.codeWith y bytes maxL ret hh).before args s = true ∧ (Cond.initialized y.cls).before args s = true ∧ (y.cls ≠ "java/lang/invoke/MethodHandle" ∧ y.cls ≠ "java/lang/invoke/VarHandle") ∧
  (∀ sig, parseMethodDescriptor y.desc = some sig → n = sig.parameters.length) ∧ (Cond.methodLink own index y).before args s = true ∧ (Cond.instanceMethod y).before args s = true ∧ (Cond.selects C y y).before args s = true
theorem vx_cwVW {own C : String} {index maxL mc ms : Nat} {y : MethodName} {bytes : ByteArray} {ret : Option FieldType} {hh : List (Nat × Nat × Nat × Nat)} {Ts ws ws' : List Cond} {rm : Room} (n : Nat) (ht : ∀ w ∈ Ts, w.before args s = true) (hT : GoodIn Ts (wsV own index C y ws)) (hw : ws = Cond.codeWith y bytes maxL ret hh :: ws') (hrc : rm.cells = mc) (hrs : rm.slots = ms)
    (hd : y.cls = C ∧ y.cls ≠ "java/lang/invoke/MethodHandle" ∧ y.cls ≠ "java/lang/invoke/VarHandle" ∧ (parseMethodDescriptor y.desc).map (fun d => d.parameters.length) = some n) (hR : rm.frames + 1 ≤ R.frames ∧ 8 + (maxL + 11) + rm.locals ≤ R.locals) :
    vx_CVW R s args own C index y bytes maxL ret hh ws rm mc ms n := by
  obtain ⟨hC, hd⟩ := hd
  subst hC
  have ok : ∀ w ∈ wsV own index y.cls y ws, w.before args s = true := fun w h => ht w (hT w h).1
  have hG : GoodIn Ts ws := fun w h => hT w (by unfold wsV; exact List.mem_append_right _ h)
  have hc : Cond.codeWith y bytes maxL ret hh ∈ ws := by rw [hw]; exact List.mem_cons_self
  refine ⟨⟨hrc, hrs, hR.1, hR.2, pay_in ht hG, hc⟩, ht _ (hG _ hc).1, ok _ (by simp [wsV]), ⟨hd.1, hd.2.1⟩, fun sig h => ?_, ok _ (by simp [wsV]), ok _ (by simp [wsV]), ok _ (by simp [wsV])⟩
  have h2 := hd.2.2
  rw [h] at h2
  exact (Option.some.inj h2).symm
theorem vx_runVW {y : MethodName} {bytes cc : ByteArray} {maxL nL mc ms n index : Nat} {ret : Option FieldType} {hh : List (Nat × Nat × Nat × Nat)} {ws : List Cond} {rm : Room} {Pc : Array Value → State → Prop} {Qc : Array Value → State → Outcome → State → Prop} {free : Addr → Prop} {Ts : List Cond} {own C : String} {b : Addr} {As rest : List Value} {g : JFrame}
    (S : CallFix p m c cc nL s args Ts own) (hM : Met l y ws rm Pc Qc mc ms free) (cw : vx_CVW R s args own C index y bytes maxL ret hh ws rm mc ms n) (hp : PreV s H C b Pc As)
    (hg : g.method = m) (hn : As.length = n) (hsize : g.locals.size = nL) (hstack : g.stack = As.reverse ++ .ref b :: rest) (hW : 2 * g.monitorRoom + (rest.map fun v => v.category).sum ≤ 8) (hdg : decode cc g.pc = .ok (.invokevirtual index, 3)) (hf : cells + mc ≤ R.cells ∧ slots + ms ≤ R.slots) :
    va_Run p l e R s m args below meth c H locs cells slots mc ms g rest (Qc (Value.ref b :: As).toArray) free := by
  obtain ⟨⟨hrc, hrs, hfr, hlo, hws, hcw⟩, hcode, hini, hy, hlen, hl, hin, hse⟩ := cw
  have hK : Back l R p e below s args y 3 8 (PreOf R mc ms Pc) (PostOf Qc mc ms free) := va_backW (hh := hh) (bytes := bytes) (maxL := maxL) (ret := ret) hM hp.1 hrc hrs hfr hlo hws hcw (fun a' U hW => word_at hW (Or.inl (by first | rfl | simp [Cond.onTables, Cond.keeps, Cond.steady])) hini)
  obtain ⟨hx, hb, hml, ho, -⟩ := S
  obtain ⟨-, ⟨cellB, hcB, hoB, hclB⟩, hPc⟩ := hp
  intro T hT X
  obtain ⟨v, vm₁, ⟨U', l2, c2, s2⟩, hW₁, X', ⟨g', mk, t, L, e1, e2, hq, h1, hL, h2, h3⟩, st⟩ := vx_callVW X hx (C := C) (hh := hh) (bytes := bytes) (maxL := maxL) (ret := ret) ho hl hin hse hcode hy hK (by rw [hT]; exact hcB) hoB hclB hg (hsize.trans hml.symm) (argsL := As) (rest := rest) (fun sig h => hn.trans (hlen sig h)) hstack hW (by rw [hb]; exact hdg)
    (fun vm₁ hW₁ => ⟨hf.1, hf.2, hPc (T.setVm vm₁) hT hW₁⟩)
  dsimp only [Pt.U, Pt.locs, Pt.cells, Pt.slots] at X' e1 e2 h1 h2 h3 st
  subst h1; subst h2; subst h3
  exact ⟨v, (T.setVm vm₁).calling g' mk (Value.ref b :: As).toArray, t, U', L, hT, X', hL, e1, e2, hq, st⟩
section
variable {y : MethodName} {bytes cc : ByteArray} {maxL nL mc ms n index : Nat} {ret : Option FieldType} {ws : List Cond} {rm : Room} {Pc : Array Value → State → Prop} {Qc : Array Value → State → Outcome → State → Prop} {XC : String → State → State → Prop} {free : Addr → Prop} {Ts : List Cond} {own C : String} {b : Addr} {As rest : List Value} {g : JFrame}
theorem vx_runVX {hh : List (Nat × Nat × Nat × Nat)} (S : CallFix p m c cc nL s args Ts own) (hM : vx_Met l y ws rm Pc Qc XC mc ms free) (cw : vx_CVW R s args own C index y bytes maxL ret hh ws rm mc ms n) (hp : PreV s H C b Pc As)
    (hg : g.method = m) (hn : As.length = n) (hsize : g.locals.size = nL) (hstack : g.stack = As.reverse ++ .ref b :: rest) (hW : 2 * g.monitorRoom + (rest.map fun v => v.category).sum ≤ 8) (hdg : decode cc g.pc = .ok (.invokevirtual index, 3)) (hf : cells + mc ≤ R.cells ∧ slots + ms ≤ R.slots) :
    vx_Run p l e R s m args below meth c H locs cells slots mc ms g rest (Qc (Value.ref b :: As).toArray) XC free := by
  obtain ⟨⟨hrc, hrs, hfr, hlo, hws, hcw⟩, hcode, hini, hy, hlen, hl, hin, hse⟩ := cw
  have hK : vx_Back l R p e below s args y 3 8 (PreOf R mc ms Pc) (PostOf Qc mc ms free) (vx_Post XC mc ms free) := vx_backW (hh := hh) (bytes := bytes) (maxL := maxL) (ret := ret) hM hp.1 hrc hrs hfr hlo hws hcw (fun a' U hW => word_at hW (Or.inl (by first | rfl | simp [Cond.onTables, Cond.keeps, Cond.steady])) hini)
  obtain ⟨hx, hb, hml, ho, -⟩ := S
  obtain ⟨-, ⟨cellB, hcB, hoB, hclB⟩, hPc⟩ := hp
  intro T hT X
  rcases vx_callVX X hx (C := C) (hh := hh) (bytes := bytes) (maxL := maxL) (ret := ret) ho hl hin hse hcode hy hK (by rw [hT]; exact hcB) hoB hclB hg (hsize.trans hml.symm) (argsL := As) (rest := rest) (fun sig h => hn.trans (hlen sig h)) hstack hW (by rw [hb]; exact hdg)
    (fun vm₁ hW₁ => ⟨hf.1, hf.2, hPc (T.setVm vm₁) hT hW₁⟩) with ⟨v, vm₁, ⟨U', l2, c2, s2⟩, hW₁, X', ⟨g', mk, t, L, e1, e2, hq, h1, hL, h2, h3⟩, st⟩ | ⟨q, vm₁, ⟨U', l2, c2, s2⟩, hW₁, X', ⟨g', mk, t, L, E, ce, e1, e2, hq, hce, hcv, hcl, h1, hL, h2, h3⟩, st⟩
  · dsimp only [Pt.U, Pt.locs, Pt.cells, Pt.slots] at X' e1 e2 h1 h2 h3 st
    subst h1; subst h2; subst h3
    exact Or.inl ⟨v, (T.setVm vm₁).calling g' mk (Value.ref b :: As).toArray, t, U', L, hT, X', hL, e1, e2, hq, st⟩
  · dsimp only [Pt.U, Pt.locs, Pt.cells, Pt.slots] at X' e1 e2 h1 h2 h3 st hcl
    subst h1; subst h2; subst h3
    exact Or.inr ⟨q, (T.setVm vm₁).calling g' mk (Value.ref b :: As).toArray, t, U', L, E, ce, hT, X', hL, e1, e2, hq, hce, hcv, vx_cls hW₁ hcl, st⟩
theorem vx_runSX {hh : List (Nat × Nat × Nat × Nat)} (S : CallFix p m c cc nL s args Ts own) (hM : vx_Met l y ws rm Pc Qc XC mc ms free) (cw : vx_CSW R s args own index y bytes maxL ret hh ws rm mc ms n) (hp : PreS s H Pc As)
    (hg : g.method = m) (hn : As.length = n) (hsize : g.locals.size = nL) (hstack : g.stack = As.reverse ++ rest) (hW : 2 * g.monitorRoom + (rest.map fun v => v.category).sum ≤ 8) (hdg : decode cc g.pc = .ok (.invokestatic index, 3)) (hf : cells + mc ≤ R.cells ∧ slots + ms ≤ R.slots) :
    vx_Run p l e R s m args below meth c H locs cells slots mc ms g rest (Qc As.toArray) XC free := by
  obtain ⟨⟨hrc, hrs, hfr, hlo, hws, hcw⟩, hcode, hini, hy, hlen, hl, hstt⟩ := cw
  have hK : vx_Back l R p e below s args y 3 8 (PreOf R mc ms Pc) (PostOf Qc mc ms free) (vx_Post XC mc ms free) := vx_backW (hh := hh) (bytes := bytes) (maxL := maxL) (ret := ret) hM hp.1 hrc hrs hfr hlo hws hcw (fun a' U hW => word_at hW (Or.inl (by first | rfl | simp [Cond.onTables, Cond.keeps, Cond.steady])) hini)
  obtain ⟨hx, hb, hml, ho, -⟩ := S
  intro T hT X
  rcases vx_callSX X hx (hh := hh) (bytes := bytes) (maxL := maxL) (ret := ret) ho hl hstt hini hcode hy hK hg (hsize.trans hml.symm) (argsL := As) (rest := rest) (fun sig h => hn.trans (hlen sig h)) hstack hW (by rw [hb]; exact hdg)
    (fun vm₁ hW₁ => ⟨hf.1, hf.2, hp.2 (T.setVm vm₁) hT hW₁⟩) with ⟨v, vm₁, ⟨U', l2, c2, s2⟩, hW₁, X', ⟨g', mk, t, L, e1, e2, hq, h1, hL, h2, h3⟩, st⟩ | ⟨q, vm₁, ⟨U', l2, c2, s2⟩, hW₁, X', ⟨g', mk, t, L, E, ce, e1, e2, hq, hce, hcv, hcl, h1, hL, h2, h3⟩, st⟩
  · dsimp only [Pt.U, Pt.locs, Pt.cells, Pt.slots] at X' e1 e2 h1 h2 h3 st
    subst h1; subst h2; subst h3
    exact Or.inl ⟨v, (T.setVm vm₁).calling g' mk As.toArray, t, U', L, hT, X', hL, e1, e2, hq, st⟩
  · dsimp only [Pt.U, Pt.locs, Pt.cells, Pt.slots] at X' e1 e2 h1 h2 h3 st hcl
    subst h1; subst h2; subst h3
    exact Or.inr ⟨q, (T.setVm vm₁).calling g' mk As.toArray, t, U', L, E, ce, hT, X', hL, e1, e2, hq, hce, hcv, vx_cls hW₁ hcl, st⟩
end
end VXH
theorem vx_ofWH {l : Launch} {y : MethodName} {ws ws' : List Cond} {rm : Room} {Pc : Array Value → State → Prop} {Qc : Array Value → State → Outcome → State → Prop} {XC : String → State → State → Prop} {mc ms : Nat} {free : Addr → Prop} {cc : ByteArray} {maxL : Nat} {ret : Option FieldType} {hh : List (Nat × Nat × Nat × Nat)}
    (hy : plainName y.cls = true) (hw : ws = Cond.codeWith y cc maxL ret hh :: ws')
    (body : ∀ p e s m args below meth c s₁, BodyLoose p l y (headSpec ws rm) cc maxL ret e s m args below meth c s₁ → c.maxLocals = maxL → Pc args s →
      W p l e (headSpec ws rm).room s m args below meth c s.heap [] 0 0 (vx_MQ below Qc XC args s mc ms free) (entryFrame m args maxL)) : vx_Met l y ws rm Pc Qc XC mc ms free := by
  refine MetFree.of_bodyS (code := cc) (maxLocals := maxL) (ret := ret) hy ?_ ?_
  · intro args s m h hn
    obtain ⟨m9, meth, c, hn9, h1, h2, h3, h4, -, h5, h6, -⟩ := Cond.codeWith_spec (atoms_spec (ws := ws) h _ (by rw [hw]; exact List.mem_cons_self))
    cases hn.symm.trans hn9
    exact ⟨meth, c, h1, h2, h3, h4, h5, h6⟩
  · intro p e s m args below meth c s₁ B hml hP _
    have hh0 : s₁.heap = s.heap := by rw [B.state]; rfl
    obtain ⟨t, a1, o, b1, b2, b3⟩ := body p e s m args below meth c s₁ B hml hP s₁ hh0 (Stand.of_body B)
    exact ⟨t, o, a1, b1, b2, b3⟩
/-! ===== END ===== -/
end
section
/-! names, words, decode rows of the class, the reference and the law: laid by wip/whole/names2.py -/
def nw_T : List Cond := lw_tbl.filter goodWord
theorem nw_in {w : Cond} {i : Nat} (h : lw_tbl[i]? = some w) (hg : goodWord w = true) : w ∈ nw_T := List.mem_filter.mpr ⟨List.mem_of_getElem? h, hg⟩
theorem nw_tbl {w : Cond} (h : w ∈ nw_T) : w ∈ lw_tbl := (List.mem_filter.mp h).1
theorem nw_good {w : Cond} (h : w ∈ nw_T) : goodWord w = true := (List.mem_filter.mp h).2
theorem nw_of {a : Cond} {ws : List Cond} (h : ∀ w ∈ ws, w ∈ nw_T) : GoodIn (a :: nw_T) ws := fun w hw => ⟨List.mem_cons_of_mem _ (h w hw), good_of_word (nw_good (h w hw))⟩
theorem nw_3 {w1 w2 w3 w4 : Cond} (h1 : w1 ∈ nw_T) (h2 : w2 ∈ nw_T) (h3 : w3 ∈ nw_T) (h4 : w4 ∈ nw_T) : ∀ w ∈ ([w1, w2, w3] : List Cond) ++ (w4 :: nw_T), w ∈ nw_T := by
  intro w hw
  simp only [List.cons_append, List.nil_append, List.mem_cons] at hw
  rcases hw with rfl | rfl | rfl | rfl | hw
  · exact h1
  · exact h2
  · exact h3
  · exact h4
  · exact hw
theorem nw_4 {w1 w2 w3 w4 w5 : Cond} (h1 : w1 ∈ nw_T) (h2 : w2 ∈ nw_T) (h3 : w3 ∈ nw_T) (h4 : w4 ∈ nw_T) (h5 : w5 ∈ nw_T) : ∀ w ∈ ([w1, w2, w3, w4] : List Cond) ++ (w5 :: nw_T), w ∈ nw_T := by
  intro w hw
  simp only [List.cons_append, List.nil_append, List.mem_cons] at hw
  rcases hw with rfl | rfl | rfl | rfl | rfl | hw
  · exact h1
  · exact h2
  · exact h3
  · exact h4
  · exact h5
  · exact hw
theorem nw_0 {w4 : Cond} (h4 : w4 ∈ nw_T) : ∀ w ∈ (w4 :: nw_T), w ∈ nw_T := by
  intro w hw
  rcases List.mem_cons.mp hw with rfl | hw
  · exact h4
  · exact hw
def nR_B : String := "RadixShelf$Branch"
def nT_B : u_T := fun k => match k with
  | 0 => ("RadixShelf$Branch", "stamp", "I", true)
  | _ => ("RadixShelf$Branch", "leaves", "[LRadixShelf$Leaf;", true)
def nt_B : Nat → FieldType := fun k => match k with
  | 0 => .int
  | _ => (.array (.object "RadixShelf$Leaf"))
theorem nn_B : ∀ a, a < 2 → ∀ b, b < 2 → a ≠ b → (nT_B a).2.1 ≠ (nT_B b).2.1 := by decide +kernel
theorem nk_B : ∀ k, k < 2 → parseFieldDescriptor (nT_B k).2.2.1 = some (nt_B k) := by decide +kernel
def nR_F : String := "RadixShelf$Leaf"
def nT_F : u_T := fun k => match k with
  | 0 => ("RadixShelf$Leaf", "stamp", "I", true)
  | _ => ("RadixShelf$Leaf", "values", "[J", true)
def nt_F : Nat → FieldType := fun k => match k with
  | 0 => .int
  | _ => (.array .long)
theorem nn_F : ∀ a, a < 2 → ∀ b, b < 2 → a ≠ b → (nT_F a).2.1 ≠ (nT_F b).2.1 := by decide +kernel
theorem nk_F : ∀ k, k < 2 → parseFieldDescriptor (nT_F k).2.2.1 = some (nt_F k) := by decide +kernel
def nR_R : String := "RadixShelf$Root"
def nT_R : u_T := fun k => match k with
  | 0 => ("RadixShelf$Root", "stamp", "I", true)
  | _ => ("RadixShelf$Root", "branches", "[LRadixShelf$Branch;", true)
def nt_R : Nat → FieldType := fun k => match k with
  | 0 => .int
  | _ => (.array (.object "RadixShelf$Branch"))
theorem nn_R : ∀ a, a < 2 → ∀ b, b < 2 → a ≠ b → (nT_R a).2.1 ≠ (nT_R b).2.1 := by decide +kernel
theorem nk_R : ∀ k, k < 2 → parseFieldDescriptor (nT_R k).2.2.1 = some (nt_R k) := by decide +kernel
def nR_Q : String := "RadixShelf$Sequence"
def nT_Q : u_T := fun k => match k with
  | 0 => ("RadixShelf$Sequence", "stamp", "I", true)
  | 1 => ("RadixShelf$Sequence", "root", "LRadixShelf$Root;", false)
  | 2 => ("RadixShelf$Sequence", "tail", "LRadixShelf$Leaf;", false)
  | 3 => ("RadixShelf$Sequence", "offset", "I", false)
  | _ => ("RadixShelf$Sequence", "count", "I", false)
def nt_Q : Nat → FieldType := fun k => match k with
  | 0 => .int
  | 1 => (.object "RadixShelf$Root")
  | 2 => (.object "RadixShelf$Leaf")
  | 3 => .int
  | _ => .int
theorem nn_Q : ∀ a, a < 5 → ∀ b, b < 5 → a ≠ b → (nT_Q a).2.1 ≠ (nT_Q b).2.1 := by decide +kernel
theorem nk_Q : ∀ k, k < 5 → parseFieldDescriptor (nT_Q k).2.2.1 = some (nt_Q k) := by decide +kernel
def nR_S : String := "RadixShelf"
def nT_S : u_T := fun k => match k with
  | 0 => ("RadixShelf", "empty", "LRadixShelf$Sequence;", true)
  | 1 => ("RadixShelf", "slots", "[LRadixShelf$Sequence;", true)
  | 2 => ("RadixShelf", "builder", "LRadixShelf$Sequence;", false)
  | _ => ("RadixShelf", "lastStamp", "I", false)
def nt_S : Nat → FieldType := fun k => match k with
  | 0 => (.object "RadixShelf$Sequence")
  | 1 => (.array (.object "RadixShelf$Sequence"))
  | 2 => (.object "RadixShelf$Sequence")
  | _ => .int
theorem nn_S : ∀ a, a < 4 → ∀ b, b < 4 → a ≠ b → (nT_S a).2.1 ≠ (nT_S b).2.1 := by decide +kernel
theorem nk_S : ∀ k, k < 4 → parseFieldDescriptor (nT_S k).2.2.1 = some (nt_S k) := by decide +kernel
def nR_M : String := "RadixShelfModel"
def nT_M : u_T := fun k => match k with
  | 0 => ("RadixShelfModel", "rows", "[[J", true)
  | 1 => ("RadixShelfModel", "sizes", "[I", true)
  | 2 => ("RadixShelfModel", "\x6fpen", "Z", false)
  | _ => ("RadixShelfModel", "code", "I", false)
def nt_M : Nat → FieldType := fun k => match k with
  | 0 => (.array (.array .long))
  | 1 => (.array .int)
  | 2 => .boolean
  | _ => .int
theorem nn_M : ∀ a, a < 4 → ∀ b, b < 4 → a ≠ b → (nT_M a).2.1 ≠ (nT_M b).2.1 := by decide +kernel
theorem nk_M : ∀ k, k < 4 → parseFieldDescriptor (nT_M k).2.2.1 = some (nt_M k) := by decide +kernel
abbrev n_cl : List vw_C := [(nR_B, nT_B, 2), (nR_F, nT_F, 2), (nR_R, nT_R, 2), (nR_Q, nT_Q, 5), (nR_S, nT_S, 4), (nR_M, nT_M, 4)]
abbrev nb_S_init : ByteArray := prog_1_method_1_code
def ny_S_init : MethodName := ⟨"RadixShelf", "<init>", "()V"⟩
def nw_S_init : List Cond := .code ny_S_init nb_S_init 2 none :: nw_T
abbrev nb_S_blankSequence : ByteArray := prog_1_method_20_code
def ny_S_blankSequence : MethodName := ⟨"RadixShelf", "blankSequence", "()LRadixShelf$Sequence;"⟩
def nw_S_blankSequence : List Cond := .code ny_S_blankSequence nb_S_blankSequence 5 (some (FieldType.object "RadixShelf$Sequence")) :: nw_T
abbrev nb_F_init : ByteArray := prog_3_method_1_code
def ny_F_init : MethodName := ⟨"RadixShelf$Leaf", "<init>", "(I[J)V"⟩
def nw_F_init : List Cond := .code ny_F_init nb_F_init 3 none :: nw_T
abbrev nb_B_init : ByteArray := prog_2_method_1_code
def ny_B_init : MethodName := ⟨"RadixShelf$Branch", "<init>", "(I[LRadixShelf$Leaf;)V"⟩
def nw_B_init : List Cond := .code ny_B_init nb_B_init 3 none :: nw_T
abbrev nb_R_init : ByteArray := prog_4_method_1_code
def ny_R_init : MethodName := ⟨"RadixShelf$Root", "<init>", "(I[LRadixShelf$Branch;)V"⟩
def nw_R_init : List Cond := .code ny_R_init nb_R_init 3 none :: nw_T
abbrev nb_Q_init : ByteArray := prog_5_method_1_code
def ny_Q_init : MethodName := ⟨"RadixShelf$Sequence", "<init>", "(ILRadixShelf$Root;LRadixShelf$Leaf;II)V"⟩
def nw_Q_init : List Cond := .code ny_Q_init nb_Q_init 6 none :: nw_T
abbrev nb_L_add : ByteArray := method_3_code
def ny_L_add : MethodName := ⟨"RadixShelfLaw", "add", "(LRadixShelf;IIJ[J)I"⟩
def nw_L_add : List Cond := .codeWith ny_L_add nb_L_add 7 (some FieldType.int) [(0, 12, 15, 13), (0, 12, 19, 15)] :: nw_T
abbrev nb_S_add : ByteArray := prog_1_method_2_code
def ny_S_add : MethodName := ⟨"RadixShelf", "add", "(IIJ)I"⟩
def nw_S_add : List Cond := .code ny_S_add nb_S_add 6 (some FieldType.int) :: nw_T
abbrev nb_S_checkSlot : ByteArray := prog_1_method_15_code
def ny_S_checkSlot : MethodName := ⟨"RadixShelf", "checkSlot", "(I)V"⟩
def nw_S_checkSlot : List Cond := .code ny_S_checkSlot nb_S_checkSlot 1 none :: nw_T
abbrev nb_S_checkRange : ByteArray := prog_1_method_16_code
def ny_S_checkRange : MethodName := ⟨"RadixShelf", "checkRange", "(III)V"⟩
def nw_S_checkRange : List Cond := .code ny_S_checkRange nb_S_checkRange 3 none :: nw_T
abbrev nb_S_checkRoom : ByteArray := prog_1_method_19_code
def ny_S_checkRoom : MethodName := ⟨"RadixShelf", "checkRoom", "(LRadixShelf$Sequence;)V"⟩
def nw_S_checkRoom : List Cond := .code ny_S_checkRoom nb_S_checkRoom 1 none :: nw_T
abbrev nb_S_draftOf : ByteArray := prog_1_method_14_code
def ny_S_draftOf : MethodName := ⟨"RadixShelf", "draftOf", "(LRadixShelf$Sequence;)LRadixShelf$Sequence;"⟩
def nw_S_draftOf : List Cond := .code ny_S_draftOf nb_S_draftOf 2 (some (FieldType.object "RadixShelf$Sequence")) :: nw_T
abbrev nb_Q_append : ByteArray := prog_5_method_3_code
def ny_Q_append : MethodName := ⟨"RadixShelf$Sequence", "append", "(J)V"⟩
def nw_Q_append : List Cond := .code ny_Q_append nb_Q_append 6 none :: nw_T
abbrev nb_Q_position : ByteArray := prog_5_method_7_code
def ny_Q_position : MethodName := ⟨"RadixShelf$Sequence", "position", "(I)I"⟩
def nw_Q_position : List Cond := .code ny_Q_position nb_Q_position 2 (some FieldType.int) :: nw_T
abbrev nb_Q_tailBlock : ByteArray := prog_5_method_8_code
def ny_Q_tailBlock : MethodName := ⟨"RadixShelf$Sequence", "tailBlock", "()I"⟩
def nw_Q_tailBlock : List Cond := .code ny_Q_tailBlock nb_Q_tailBlock 1 (some FieldType.int) :: nw_T
abbrev nb_Q_hang : ByteArray := prog_5_method_11_code
def ny_Q_hang : MethodName := ⟨"RadixShelf$Sequence", "hang", "(ILRadixShelf$Leaf;)V"⟩
def nw_Q_hang : List Cond := .code ny_Q_hang nb_Q_hang 3 none :: nw_T
abbrev nb_R_ownedBy : ByteArray := prog_4_method_2_code
def ny_R_ownedBy : MethodName := ⟨"RadixShelf$Root", "ownedBy", "(I)LRadixShelf$Root;"⟩
def nw_R_ownedBy : List Cond := .code ny_R_ownedBy nb_R_ownedBy 2 (some (FieldType.object "RadixShelf$Root")) :: nw_T
abbrev nb_R_hangOwned : ByteArray := prog_4_method_4_code
def ny_R_hangOwned : MethodName := ⟨"RadixShelf$Root", "hangOwned", "(ILRadixShelf$Leaf;)V"⟩
def nw_R_hangOwned : List Cond := .code ny_R_hangOwned nb_R_hangOwned 4 none :: nw_T
abbrev nb_B_ownedBy : ByteArray := prog_2_method_2_code
def ny_B_ownedBy : MethodName := ⟨"RadixShelf$Branch", "ownedBy", "(I)LRadixShelf$Branch;"⟩
def nw_B_ownedBy : List Cond := .code ny_B_ownedBy nb_B_ownedBy 2 (some (FieldType.object "RadixShelf$Branch")) :: nw_T
abbrev nb_R_leafOf : ByteArray := prog_4_method_3_code
def ny_R_leafOf : MethodName := ⟨"RadixShelf$Root", "leafOf", "(I)LRadixShelf$Leaf;"⟩
def nw_R_leafOf : List Cond := .code ny_R_leafOf nb_R_leafOf 2 (some (FieldType.object "RadixShelf$Leaf")) :: nw_T
abbrev nb_Q_write : ByteArray := prog_5_method_10_code
def ny_Q_write : MethodName := ⟨"RadixShelf$Sequence", "write", "(IJ)V"⟩
def nw_Q_write : List Cond := .code ny_Q_write nb_Q_write 6 none :: nw_T
abbrev nb_Q_leafOf : ByteArray := prog_5_method_9_code
def ny_Q_leafOf : MethodName := ⟨"RadixShelf$Sequence", "leafOf", "(I)LRadixShelf$Leaf;"⟩
def nw_Q_leafOf : List Cond := .code ny_Q_leafOf nb_Q_leafOf 2 (some (FieldType.object "RadixShelf$Leaf")) :: nw_T
abbrev nb_F_ownedBy : ByteArray := prog_3_method_2_code
def ny_F_ownedBy : MethodName := ⟨"RadixShelf$Leaf", "ownedBy", "(I)LRadixShelf$Leaf;"⟩
def nw_F_ownedBy : List Cond := .code ny_F_ownedBy nb_F_ownedBy 2 (some (FieldType.object "RadixShelf$Leaf")) :: nw_T
abbrev nb_L_push : ByteArray := method_4_code
def ny_L_push : MethodName := ⟨"RadixShelfLaw", "push", "(LRadixShelf;IIJ[J)I"⟩
def nw_L_push : List Cond := .codeWith ny_L_push nb_L_push 7 (some FieldType.int) [(0, 12, 15, 13), (0, 12, 19, 15)] :: nw_T
abbrev nb_S_push : ByteArray := prog_1_method_3_code
def ny_S_push : MethodName := ⟨"RadixShelf", "push", "(IIJ)I"⟩
def nw_S_push : List Cond := .code ny_S_push nb_S_push 6 (some FieldType.int) :: nw_T
abbrev nb_Q_prepend : ByteArray := prog_5_method_4_code
def ny_Q_prepend : MethodName := ⟨"RadixShelf$Sequence", "prepend", "(J)V"⟩
def nw_Q_prepend : List Cond := .code ny_Q_prepend nb_Q_prepend 3 none :: nw_T
abbrev nb_L_set : ByteArray := method_5_code
def ny_L_set : MethodName := ⟨"RadixShelfLaw", "set", "(LRadixShelf;IIIJ[J)I"⟩
def nw_L_set : List Cond := .codeWith ny_L_set nb_L_set 8 (some FieldType.int) [(0, 13, 16, 13), (0, 13, 20, 24)] :: nw_T
abbrev nb_S_set : ByteArray := prog_1_method_4_code
def ny_S_set : MethodName := ⟨"RadixShelf", "set", "(IIIJ)J"⟩
def nw_S_set : List Cond := .code ny_S_set nb_S_set 9 (some FieldType.long) :: nw_T
abbrev nb_S_checkElement : ByteArray := prog_1_method_18_code
def ny_S_checkElement : MethodName := ⟨"RadixShelf", "checkElement", "(LRadixShelf$Sequence;I)V"⟩
def nw_S_checkElement : List Cond := .code ny_S_checkElement nb_S_checkElement 2 none :: nw_T
abbrev nb_Q_element : ByteArray := prog_5_method_2_code
def ny_Q_element : MethodName := ⟨"RadixShelf$Sequence", "element", "(I)J"⟩
def nw_Q_element : List Cond := .code ny_Q_element nb_Q_element 3 (some FieldType.long) :: nw_T
abbrev nb_Q_replace : ByteArray := prog_5_method_5_code
def ny_Q_replace : MethodName := ⟨"RadixShelf$Sequence", "replace", "(IJ)V"⟩
def nw_Q_replace : List Cond := .code ny_Q_replace nb_Q_replace 4 none :: nw_T
abbrev nb_L_at : ByteArray := method_6_code
def ny_L_at : MethodName := ⟨"RadixShelfLaw", "at", "(LRadixShelf;II[J)I"⟩
def nw_L_at : List Cond := .codeWith ny_L_at nb_L_at 5 (some FieldType.int) [(0, 9, 12, 13), (0, 9, 16, 24)] :: nw_T
abbrev nb_S_at : ByteArray := prog_1_method_5_code
def ny_S_at : MethodName := ⟨"RadixShelf", "at", "(II)J"⟩
def nw_S_at : List Cond := .code ny_S_at nb_S_at 3 (some FieldType.long) :: nw_T
abbrev nb_L_cut : ByteArray := method_7_code
def ny_L_cut : MethodName := ⟨"RadixShelfLaw", "cut", "(LRadixShelf;IIII[J)I"⟩
def nw_L_cut : List Cond := .codeWith ny_L_cut nb_L_cut 7 (some FieldType.int) [(0, 14, 17, 13), (0, 14, 21, 24)] :: nw_T
abbrev nb_S_cut : ByteArray := prog_1_method_6_code
def ny_S_cut : MethodName := ⟨"RadixShelf", "cut", "(IIII)I"⟩
def nw_S_cut : List Cond := .code ny_S_cut nb_S_cut 6 (some FieldType.int) :: nw_T
abbrev nb_S_checkNotNegative : ByteArray := prog_1_method_17_code
def ny_S_checkNotNegative : MethodName := ⟨"RadixShelf", "checkNotNegative", "(I)V"⟩
def nw_S_checkNotNegative : List Cond := .code ny_S_checkNotNegative nb_S_checkNotNegative 1 none :: nw_T
abbrev nb_Q_trim : ByteArray := prog_5_method_6_code
def ny_Q_trim : MethodName := ⟨"RadixShelf$Sequence", "trim", "(II)V"⟩
def nw_Q_trim : List Cond := .code ny_Q_trim nb_Q_trim 4 none :: nw_T
abbrev nb_L_fill : ByteArray := method_8_code
def ny_L_fill : MethodName := ⟨"RadixShelfLaw", "fill", "(LRadixShelf;IJJI[J)I"⟩
def nw_L_fill : List Cond := .codeWith ny_L_fill nb_L_fill 9 (some FieldType.int) [(0, 15, 18, 13)] :: nw_T
abbrev nb_S_fill : ByteArray := prog_1_method_7_code
def ny_S_fill : MethodName := ⟨"RadixShelf", "fill", "(IJJI)I"⟩
def nw_S_fill : List Cond := .code ny_S_fill nb_S_fill 11 (some FieldType.int) :: nw_T
abbrev nb_L_size : ByteArray := method_9_code
def ny_L_size : MethodName := ⟨"RadixShelfLaw", "size", "(LRadixShelf;I[J)I"⟩
def nw_L_size : List Cond := .codeWith ny_L_size nb_L_size 4 (some FieldType.int) [(0, 9, 12, 13)] :: nw_T
abbrev nb_S_size : ByteArray := prog_1_method_8_code
def ny_S_size : MethodName := ⟨"RadixShelf", "size", "(I)I"⟩
def nw_S_size : List Cond := .code ny_S_size nb_S_size 2 (some FieldType.int) :: nw_T
abbrev nb_L_hash : ByteArray := method_10_code
def ny_L_hash : MethodName := ⟨"RadixShelfLaw", "hash", "(LRadixShelf;I[J)I"⟩
def nw_L_hash : List Cond := .codeWith ny_L_hash nb_L_hash 4 (some FieldType.int) [(0, 8, 11, 13)] :: nw_T
abbrev nb_S_hash : ByteArray := prog_1_method_9_code
def ny_S_hash : MethodName := ⟨"RadixShelf", "hash", "(I)J"⟩
def nw_S_hash : List Cond := .code ny_S_hash nb_S_hash 6 (some FieldType.long) :: nw_T
abbrev nb_L_open : ByteArray := method_11_code
def ny_L_open : MethodName := ⟨"RadixShelfLaw", "\x6fpen", "(LRadixShelf;I)I"⟩
def nw_L_open : List Cond := .codeWith ny_L_open nb_L_open 3 (some FieldType.int) [(0, 5, 8, 13), (0, 5, 11, 50)] :: nw_T
abbrev nb_S_open : ByteArray := prog_1_method_10_code
def ny_S_open : MethodName := ⟨"RadixShelf", "\x6fpen", "(I)V"⟩
def nw_S_open : List Cond := .code ny_S_open nb_S_open 2 none :: nw_T
abbrev nb_L_build : ByteArray := method_12_code
def ny_L_build : MethodName := ⟨"RadixShelfLaw", "build", "(LRadixShelf;IIJ[J)I"⟩
def nw_L_build : List Cond := .codeWith ny_L_build nb_L_build 7 (some FieldType.int) [(0, 12, 15, 13), (0, 12, 19, 50), (0, 12, 23, 24), (0, 12, 27, 15)] :: nw_T
abbrev nb_S_build : ByteArray := prog_1_method_11_code
def ny_S_build : MethodName := ⟨"RadixShelf", "build", "(IIJ)I"⟩
def nw_S_build : List Cond := .code ny_S_build nb_S_build 6 (some FieldType.int) :: nw_T
abbrev nb_S_presentBuilder : ByteArray := prog_1_method_13_code
def ny_S_presentBuilder : MethodName := ⟨"RadixShelf", "presentBuilder", "()LRadixShelf$Sequence;"⟩
def nw_S_presentBuilder : List Cond := .code ny_S_presentBuilder nb_S_presentBuilder 1 (some (FieldType.object "RadixShelf$Sequence")) :: nw_T
abbrev nb_L_freeze : ByteArray := method_13_code
def ny_L_freeze : MethodName := ⟨"RadixShelfLaw", "freeze", "(LRadixShelf;I[J)I"⟩
def nw_L_freeze : List Cond := .codeWith ny_L_freeze nb_L_freeze 4 (some FieldType.int) [(0, 9, 12, 13), (0, 9, 15, 50)] :: nw_T
abbrev nb_S_freeze : ByteArray := prog_1_method_12_code
def ny_S_freeze : MethodName := ⟨"RadixShelf", "freeze", "(I)I"⟩
def nw_S_freeze : List Cond := .code ny_S_freeze nb_S_freeze 3 (some FieldType.int) :: nw_T
abbrev nb_M_init : ByteArray := prog_7_method_1_code
def ny_M_init : MethodName := ⟨"RadixShelfModel", "<init>", "()V"⟩
def nw_M_init : List Cond := .code ny_M_init nb_M_init 1 none :: nw_T
abbrev nb_M_thrown : ByteArray := prog_7_method_2_code
def ny_M_thrown : MethodName := ⟨"RadixShelfModel", "thrown", "()I"⟩
def nw_M_thrown : List Cond := .code ny_M_thrown nb_M_thrown 1 (some FieldType.int) :: nw_T
abbrev nb_M_add : ByteArray := prog_7_method_6_code
def ny_M_add : MethodName := ⟨"RadixShelfModel", "add", "(IIJ)I"⟩
def nw_M_add : List Cond := .code ny_M_add nb_M_add 5 (some FieldType.int) :: nw_T
abbrev nb_M_isSlot : ByteArray := prog_7_method_4_code
def ny_M_isSlot : MethodName := ⟨"RadixShelfModel", "isSlot", "(I)Z"⟩
def nw_M_isSlot : List Cond := .code ny_M_isSlot nb_M_isSlot 1 (some FieldType.boolean) :: nw_T
abbrev nb_M_good : ByteArray := prog_7_method_3_code
def ny_M_good : MethodName := ⟨"RadixShelfModel", "good", "(ZI)Z"⟩
def nw_M_good : List Cond := .code ny_M_good nb_M_good 3 (some FieldType.boolean) :: nw_T
abbrev nb_M_copy : ByteArray := prog_7_method_5_code
def ny_M_copy : MethodName := ⟨"RadixShelfModel", "copy", "(II)V"⟩
def nw_M_copy : List Cond := .code ny_M_copy nb_M_copy 4 none :: nw_T
abbrev nb_M_push : ByteArray := prog_7_method_7_code
def ny_M_push : MethodName := ⟨"RadixShelfModel", "push", "(IIJ)I"⟩
def nw_M_push : List Cond := .code ny_M_push nb_M_push 6 (some FieldType.int) :: nw_T
abbrev nb_M_set : ByteArray := prog_7_method_8_code
def ny_M_set : MethodName := ⟨"RadixShelfModel", "set", "(IIIJ)J"⟩
def nw_M_set : List Cond := .code ny_M_set nb_M_set 8 (some FieldType.long) :: nw_T
abbrev nb_M_at : ByteArray := prog_7_method_9_code
def ny_M_at : MethodName := ⟨"RadixShelfModel", "at", "(II)J"⟩
def nw_M_at : List Cond := .code ny_M_at nb_M_at 3 (some FieldType.long) :: nw_T
abbrev nb_M_cut : ByteArray := prog_7_method_10_code
def ny_M_cut : MethodName := ⟨"RadixShelfModel", "cut", "(IIII)I"⟩
def nw_M_cut : List Cond := .code ny_M_cut nb_M_cut 7 (some FieldType.int) :: nw_T
abbrev nb_M_fill : ByteArray := prog_7_method_11_code
def ny_M_fill : MethodName := ⟨"RadixShelfModel", "fill", "(IJJI)I"⟩
def nw_M_fill : List Cond := .code ny_M_fill nb_M_fill 8 (some FieldType.int) :: nw_T
abbrev nb_M_size : ByteArray := prog_7_method_12_code
def ny_M_size : MethodName := ⟨"RadixShelfModel", "size", "(I)I"⟩
def nw_M_size : List Cond := .code ny_M_size nb_M_size 2 (some FieldType.int) :: nw_T
abbrev nb_M_hash : ByteArray := prog_7_method_13_code
def ny_M_hash : MethodName := ⟨"RadixShelfModel", "hash", "(I)J"⟩
def nw_M_hash : List Cond := .code ny_M_hash nb_M_hash 5 (some FieldType.long) :: nw_T
abbrev nb_M_open : ByteArray := prog_7_method_14_code
def ny_M_open : MethodName := ⟨"RadixShelfModel", "\x6fpen", "(I)V"⟩
def nw_M_open : List Cond := .code ny_M_open nb_M_open 2 none :: nw_T
abbrev nb_M_build : ByteArray := prog_7_method_15_code
def ny_M_build : MethodName := ⟨"RadixShelfModel", "build", "(IIJ)I"⟩
def nw_M_build : List Cond := .code ny_M_build nb_M_build 6 (some FieldType.int) :: nw_T
abbrev nb_M_freeze : ByteArray := prog_7_method_16_code
def ny_M_freeze : MethodName := ⟨"RadixShelfModel", "freeze", "(I)I"⟩
def nw_M_freeze : List Cond := .code ny_M_freeze nb_M_freeze 2 (some FieldType.int) :: nw_T
abbrev nb_L_law : ByteArray := code
def ny_L_law : MethodName := ⟨"RadixShelfLaw", "law", "([I)Z"⟩
theorem nh_se_S_draftOf : (.selects "RadixShelf" ny_S_draftOf ny_S_draftOf : Cond) ∈ nw_T := nw_in (i := 1) (by decide +kernel) (by decide +kernel)
theorem nh_se_Q_position : (.selects "RadixShelf$Sequence" ny_Q_position ny_Q_position : Cond) ∈ nw_T := nw_in (i := 2) (by decide +kernel) (by decide +kernel)
theorem nh_se_Q_tailBlock : (.selects "RadixShelf$Sequence" ny_Q_tailBlock ny_Q_tailBlock : Cond) ∈ nw_T := nw_in (i := 3) (by decide +kernel) (by decide +kernel)
theorem nh_se_Q_hang : (.selects "RadixShelf$Sequence" ny_Q_hang ny_Q_hang : Cond) ∈ nw_T := nw_in (i := 4) (by decide +kernel) (by decide +kernel)
theorem nh_se_Q_write : (.selects "RadixShelf$Sequence" ny_Q_write ny_Q_write : Cond) ∈ nw_T := nw_in (i := 5) (by decide +kernel) (by decide +kernel)
theorem nh_se_Q_leafOf : (.selects "RadixShelf$Sequence" ny_Q_leafOf ny_Q_leafOf : Cond) ∈ nw_T := nw_in (i := 6) (by decide +kernel) (by decide +kernel)
theorem nh_se_S_presentBuilder : (.selects "RadixShelf" ny_S_presentBuilder ny_S_presentBuilder : Cond) ∈ nw_T := nw_in (i := 7) (by decide +kernel) (by decide +kernel)
theorem nh_se_M_good : (.selects "RadixShelfModel" ny_M_good ny_M_good : Cond) ∈ nw_T := nw_in (i := 8) (by decide +kernel) (by decide +kernel)
theorem nh_se_M_copy : (.selects "RadixShelfModel" ny_M_copy ny_M_copy : Cond) ∈ nw_T := nw_in (i := 9) (by decide +kernel) (by decide +kernel)
theorem nh_in_L : (.initialized "RadixShelfLaw" : Cond) ∈ nw_T := nw_in (i := 10) (by decide +kernel) (by decide +kernel)
theorem nh_in_S : (.initialized "RadixShelf" : Cond) ∈ nw_T := nw_in (i := 11) (by decide +kernel) (by decide +kernel)
theorem nh_in_F : (.initialized "RadixShelf$Leaf" : Cond) ∈ nw_T := nw_in (i := 12) (by decide +kernel) (by decide +kernel)
theorem nh_in_B : (.initialized "RadixShelf$Branch" : Cond) ∈ nw_T := nw_in (i := 13) (by decide +kernel) (by decide +kernel)
theorem nh_in_Q : (.initialized "RadixShelf$Sequence" : Cond) ∈ nw_T := nw_in (i := 14) (by decide +kernel) (by decide +kernel)
theorem nh_in_R : (.initialized "RadixShelf$Root" : Cond) ∈ nw_T := nw_in (i := 15) (by decide +kernel) (by decide +kernel)
theorem nh_in_M : (.initialized "RadixShelfModel" : Cond) ∈ nw_T := nw_in (i := 16) (by decide +kernel) (by decide +kernel)
theorem nh_in_IAE : (.initialized "java/lang/IllegalArgumentException" : Cond) ∈ nw_T := nw_in (i := 20) (by decide +kernel) (by decide +kernel)
theorem nh_in_IOB : (.initialized "java/lang/IndexOutOfBoundsException" : Cond) ∈ nw_T := nw_in (i := 21) (by decide +kernel) (by decide +kernel)
theorem nh_in_NSE : (.initialized "java/util/NoSuchElementException" : Cond) ∈ nw_T := nw_in (i := 22) (by decide +kernel) (by decide +kernel)
theorem nh_in_ISE : (.initialized "java/lang/IllegalStateException" : Cond) ∈ nw_T := nw_in (i := 23) (by decide +kernel) (by decide +kernel)
theorem nh_cl_L_8 : (.classLink "RadixShelfLaw" 8 "RadixShelf" : Cond) ∈ nw_T := nw_in (i := 24) (by decide +kernel) (by decide +kernel)
theorem nh_is_S : (.instantiable "RadixShelf" 4 : Cond) ∈ nw_T := nw_in (i := 25) (by decide +kernel) (by decide +kernel)
theorem nh_ml_L_58 : (.methodLink "RadixShelfLaw" 58 ny_S_init : Cond) ∈ nw_T := nw_in (i := 26) (by decide +kernel) (by decide +kernel)
theorem nh_im_S_init : (.instanceMethod ny_S_init : Cond) ∈ nw_T := nw_in (i := 27) (by decide +kernel) (by decide +kernel)
theorem nh_co_S_init : (.code ny_S_init nb_S_init 2 none : Cond) ∈ nw_T := nw_in (i := 28) (by decide +kernel) (by decide +kernel)
theorem nh_ml_S_3 : (.methodLink "RadixShelf" 3 ⟨"java/lang/Object", "<init>", "()V"⟩ : Cond) ∈ nw_T := nw_in (i := 29) (by decide +kernel) (by decide +kernel)
theorem nh_im_obj : (.instanceMethod objectInit : Cond) ∈ nw_T := nw_in (i := 30) (by decide +kernel) (by decide +kernel)
theorem nh_co_obj : (.code objectInit ⟨#[0xb1]⟩ 1 none : Cond) ∈ nw_T := nw_in (i := 31) (by decide +kernel) (by decide +kernel)
theorem nh_ml_S_9 : (.methodLink "RadixShelf" 9 ny_S_blankSequence : Cond) ∈ nw_T := nw_in (i := 32) (by decide +kernel) (by decide +kernel)
theorem nh_st_S_blankSequence : (.static ny_S_blankSequence : Cond) ∈ nw_T := nw_in (i := 33) (by decide +kernel) (by decide +kernel)
theorem nh_co_S_blankSequence : (.code ny_S_blankSequence nb_S_blankSequence 5 (some (FieldType.object "RadixShelf$Sequence")) : Cond) ∈ nw_T := nw_in (i := 34) (by decide +kernel) (by decide +kernel)
theorem nh_cl_S_122 : (.classLink "RadixShelf" 122 "RadixShelf$Leaf" : Cond) ∈ nw_T := nw_in (i := 35) (by decide +kernel) (by decide +kernel)
theorem nh_is_F : (.instantiable "RadixShelf$Leaf" 2 : Cond) ∈ nw_T := nw_in (i := 36) (by decide +kernel) (by decide +kernel)
theorem nh_ml_S_124 : (.methodLink "RadixShelf" 124 ny_F_init : Cond) ∈ nw_T := nw_in (i := 37) (by decide +kernel) (by decide +kernel)
theorem nh_im_F_init : (.instanceMethod ny_F_init : Cond) ∈ nw_T := nw_in (i := 38) (by decide +kernel) (by decide +kernel)
theorem nh_co_F_init : (.code ny_F_init nb_F_init 3 none : Cond) ∈ nw_T := nw_in (i := 39) (by decide +kernel) (by decide +kernel)
theorem nh_ml_F_1 : (.methodLink "RadixShelf$Leaf" 1 ⟨"java/lang/Object", "<init>", "()V"⟩ : Cond) ∈ nw_T := nw_in (i := 40) (by decide +kernel) (by decide +kernel)
theorem nh_fl_F_7 : (.fieldLink "RadixShelf$Leaf" 7 "RadixShelf$Leaf" "stamp" "I" : Cond) ∈ nw_T := nw_in (i := 41) (by decide +kernel) (by decide +kernel)
theorem nh_fl_F_13 : (.fieldLink "RadixShelf$Leaf" 13 "RadixShelf$Leaf" "values" "[J" : Cond) ∈ nw_T := nw_in (i := 42) (by decide +kernel) (by decide +kernel)
theorem nh_fl_Q_37 : (.fieldLink "RadixShelf$Sequence" 37 "RadixShelf$Leaf" "values" "[J" : Cond) ∈ nw_T := nw_in (i := 43) (by decide +kernel) (by decide +kernel)
theorem nh_ac_long : (.arrayClass FieldType.long : Cond) ∈ nw_T := nw_in (i := 49) (by decide +kernel) (by decide +kernel)
theorem nh_cl_S_127 : (.classLink "RadixShelf" 127 "RadixShelf$Branch" : Cond) ∈ nw_T := nw_in (i := 51) (by decide +kernel) (by decide +kernel)
theorem nh_is_B : (.instantiable "RadixShelf$Branch" 2 : Cond) ∈ nw_T := nw_in (i := 52) (by decide +kernel) (by decide +kernel)
theorem nh_ml_S_129 : (.methodLink "RadixShelf" 129 ny_B_init : Cond) ∈ nw_T := nw_in (i := 53) (by decide +kernel) (by decide +kernel)
theorem nh_im_B_init : (.instanceMethod ny_B_init : Cond) ∈ nw_T := nw_in (i := 54) (by decide +kernel) (by decide +kernel)
theorem nh_co_B_init : (.code ny_B_init nb_B_init 3 none : Cond) ∈ nw_T := nw_in (i := 55) (by decide +kernel) (by decide +kernel)
theorem nh_ml_B_1 : (.methodLink "RadixShelf$Branch" 1 ⟨"java/lang/Object", "<init>", "()V"⟩ : Cond) ∈ nw_T := nw_in (i := 56) (by decide +kernel) (by decide +kernel)
theorem nh_fl_B_7 : (.fieldLink "RadixShelf$Branch" 7 "RadixShelf$Branch" "stamp" "I" : Cond) ∈ nw_T := nw_in (i := 57) (by decide +kernel) (by decide +kernel)
theorem nh_fl_B_13 : (.fieldLink "RadixShelf$Branch" 13 "RadixShelf$Branch" "leaves" "[LRadixShelf$Leaf;" : Cond) ∈ nw_T := nw_in (i := 58) (by decide +kernel) (by decide +kernel)
theorem nh_fl_R_27 : (.fieldLink "RadixShelf$Root" 27 "RadixShelf$Branch" "leaves" "[LRadixShelf$Leaf;" : Cond) ∈ nw_T := nw_in (i := 59) (by decide +kernel) (by decide +kernel)
theorem nh_cl_S_17 : (.classLink "RadixShelf" 17 "RadixShelf$Sequence" : Cond) ∈ nw_T := nw_in (i := 66) (by decide +kernel) (by decide +kernel)
theorem nh_is_Q : (.instantiable "RadixShelf$Sequence" 5 : Cond) ∈ nw_T := nw_in (i := 67) (by decide +kernel) (by decide +kernel)
theorem nh_cl_S_132 : (.classLink "RadixShelf" 132 "RadixShelf$Root" : Cond) ∈ nw_T := nw_in (i := 68) (by decide +kernel) (by decide +kernel)
theorem nh_is_R : (.instantiable "RadixShelf$Root" 2 : Cond) ∈ nw_T := nw_in (i := 69) (by decide +kernel) (by decide +kernel)
theorem nh_ml_S_134 : (.methodLink "RadixShelf" 134 ny_R_init : Cond) ∈ nw_T := nw_in (i := 70) (by decide +kernel) (by decide +kernel)
theorem nh_im_R_init : (.instanceMethod ny_R_init : Cond) ∈ nw_T := nw_in (i := 71) (by decide +kernel) (by decide +kernel)
theorem nh_co_R_init : (.code ny_R_init nb_R_init 3 none : Cond) ∈ nw_T := nw_in (i := 72) (by decide +kernel) (by decide +kernel)
theorem nh_ml_R_3 : (.methodLink "RadixShelf$Root" 3 ⟨"java/lang/Object", "<init>", "()V"⟩ : Cond) ∈ nw_T := nw_in (i := 73) (by decide +kernel) (by decide +kernel)
theorem nh_fl_R_9 : (.fieldLink "RadixShelf$Root" 9 "RadixShelf$Root" "stamp" "I" : Cond) ∈ nw_T := nw_in (i := 74) (by decide +kernel) (by decide +kernel)
theorem nh_fl_R_15 : (.fieldLink "RadixShelf$Root" 15 "RadixShelf$Root" "branches" "[LRadixShelf$Branch;" : Cond) ∈ nw_T := nw_in (i := 75) (by decide +kernel) (by decide +kernel)
theorem nh_ml_S_105 : (.methodLink "RadixShelf" 105 ny_Q_init : Cond) ∈ nw_T := nw_in (i := 81) (by decide +kernel) (by decide +kernel)
theorem nh_im_Q_init : (.instanceMethod ny_Q_init : Cond) ∈ nw_T := nw_in (i := 82) (by decide +kernel) (by decide +kernel)
theorem nh_co_Q_init : (.code ny_Q_init nb_Q_init 6 none : Cond) ∈ nw_T := nw_in (i := 83) (by decide +kernel) (by decide +kernel)
theorem nh_ml_Q_3 : (.methodLink "RadixShelf$Sequence" 3 ⟨"java/lang/Object", "<init>", "()V"⟩ : Cond) ∈ nw_T := nw_in (i := 84) (by decide +kernel) (by decide +kernel)
theorem nh_fl_Q_9 : (.fieldLink "RadixShelf$Sequence" 9 "RadixShelf$Sequence" "stamp" "I" : Cond) ∈ nw_T := nw_in (i := 85) (by decide +kernel) (by decide +kernel)
theorem nh_fl_Q_15 : (.fieldLink "RadixShelf$Sequence" 15 "RadixShelf$Sequence" "root" "LRadixShelf$Root;" : Cond) ∈ nw_T := nw_in (i := 86) (by decide +kernel) (by decide +kernel)
theorem nh_fl_S_94 : (.fieldLink "RadixShelf" 94 "RadixShelf$Sequence" "root" "LRadixShelf$Root;" : Cond) ∈ nw_T := nw_in (i := 87) (by decide +kernel) (by decide +kernel)
theorem nh_fl_Q_19 : (.fieldLink "RadixShelf$Sequence" 19 "RadixShelf$Sequence" "tail" "LRadixShelf$Leaf;" : Cond) ∈ nw_T := nw_in (i := 88) (by decide +kernel) (by decide +kernel)
theorem nh_fl_S_98 : (.fieldLink "RadixShelf" 98 "RadixShelf$Sequence" "tail" "LRadixShelf$Leaf;" : Cond) ∈ nw_T := nw_in (i := 89) (by decide +kernel) (by decide +kernel)
theorem nh_fl_Q_23 : (.fieldLink "RadixShelf$Sequence" 23 "RadixShelf$Sequence" "offset" "I" : Cond) ∈ nw_T := nw_in (i := 90) (by decide +kernel) (by decide +kernel)
theorem nh_fl_S_102 : (.fieldLink "RadixShelf" 102 "RadixShelf$Sequence" "offset" "I" : Cond) ∈ nw_T := nw_in (i := 91) (by decide +kernel) (by decide +kernel)
theorem nh_fl_Q_26 : (.fieldLink "RadixShelf$Sequence" 26 "RadixShelf$Sequence" "count" "I" : Cond) ∈ nw_T := nw_in (i := 92) (by decide +kernel) (by decide +kernel)
theorem nh_fl_S_46 : (.fieldLink "RadixShelf" 46 "RadixShelf$Sequence" "count" "I" : Cond) ∈ nw_T := nw_in (i := 93) (by decide +kernel) (by decide +kernel)
theorem nh_fl_S_13 : (.fieldLink "RadixShelf" 13 "RadixShelf" "empty" "LRadixShelf$Sequence;" : Cond) ∈ nw_T := nw_in (i := 106) (by decide +kernel) (by decide +kernel)
theorem nh_fl_S_19 : (.fieldLink "RadixShelf" 19 "RadixShelf" "slots" "[LRadixShelf$Sequence;" : Cond) ∈ nw_T := nw_in (i := 107) (by decide +kernel) (by decide +kernel)
theorem nh_fl_S_23 : (.fieldLink "RadixShelf" 23 "RadixShelf" "builder" "LRadixShelf$Sequence;" : Cond) ∈ nw_T := nw_in (i := 108) (by decide +kernel) (by decide +kernel)
theorem nh_fl_S_26 : (.fieldLink "RadixShelf" 26 "RadixShelf" "lastStamp" "I" : Cond) ∈ nw_T := nw_in (i := 109) (by decide +kernel) (by decide +kernel)
theorem nh_ml_L_64 : (.methodLink "RadixShelfLaw" 64 ny_L_add : Cond) ∈ nw_T := nw_in (i := 119) (by decide +kernel) (by decide +kernel)
theorem nh_st_L_add : (.static ny_L_add : Cond) ∈ nw_T := nw_in (i := 120) (by decide +kernel) (by decide +kernel)
theorem nh_co_L_add : (.codeWith ny_L_add nb_L_add 7 (some FieldType.int) [(0, 12, 15, 13), (0, 12, 19, 15)] : Cond) ∈ nw_T := nw_in (i := 121) (by decide +kernel) (by decide +kernel)
theorem nh_cl_L_13 : (.classLink "RadixShelfLaw" 13 "java/lang/IllegalArgumentException" : Cond) ∈ nw_T := nw_in (i := 122) (by decide +kernel) (by decide +kernel)
theorem nh_cl_L_15 : (.classLink "RadixShelfLaw" 15 "java/lang/IndexOutOfBoundsException" : Cond) ∈ nw_T := nw_in (i := 123) (by decide +kernel) (by decide +kernel)
theorem nh_ml_L_7 : (.methodLink "RadixShelfLaw" 7 ny_S_add : Cond) ∈ nw_T := nw_in (i := 124) (by decide +kernel) (by decide +kernel)
theorem nh_im_S_add : (.instanceMethod ny_S_add : Cond) ∈ nw_T := nw_in (i := 125) (by decide +kernel) (by decide +kernel)
theorem nh_se_S_add : (.selects "RadixShelf" ny_S_add ny_S_add : Cond) ∈ nw_T := nw_in (i := 126) (by decide +kernel) (by decide +kernel)
theorem nh_co_S_add : (.code ny_S_add nb_S_add 6 (some FieldType.int) : Cond) ∈ nw_T := nw_in (i := 127) (by decide +kernel) (by decide +kernel)
theorem nh_ml_S_30 : (.methodLink "RadixShelf" 30 ny_S_checkSlot : Cond) ∈ nw_T := nw_in (i := 128) (by decide +kernel) (by decide +kernel)
theorem nh_st_S_checkSlot : (.static ny_S_checkSlot : Cond) ∈ nw_T := nw_in (i := 129) (by decide +kernel) (by decide +kernel)
theorem nh_co_S_checkSlot : (.code ny_S_checkSlot nb_S_checkSlot 1 none : Cond) ∈ nw_T := nw_in (i := 130) (by decide +kernel) (by decide +kernel)
theorem nh_ml_S_78 : (.methodLink "RadixShelf" 78 ny_S_checkRange : Cond) ∈ nw_T := nw_in (i := 131) (by decide +kernel) (by decide +kernel)
theorem nh_st_S_checkRange : (.static ny_S_checkRange : Cond) ∈ nw_T := nw_in (i := 132) (by decide +kernel) (by decide +kernel)
theorem nh_co_S_checkRange : (.code ny_S_checkRange nb_S_checkRange 3 none : Cond) ∈ nw_T := nw_in (i := 133) (by decide +kernel) (by decide +kernel)
theorem nh_cl_S_108 : (.classLink "RadixShelf" 108 "java/lang/IllegalArgumentException" : Cond) ∈ nw_T := nw_in (i := 134) (by decide +kernel) (by decide +kernel)
theorem nh_is_IAE : (.instantiable "java/lang/IllegalArgumentException" 6 : Cond) ∈ nw_T := nw_in (i := 135) (by decide +kernel) (by decide +kernel)
theorem nh_ml_S_112 : (.methodLink "RadixShelf" 112 ⟨"java/lang/IllegalArgumentException", "<init>", "(Ljava/lang/String;)V"⟩ : Cond) ∈ nw_T := nw_in (i := 177) (by decide +kernel) (by decide +kernel)
theorem nh_ac_byte : (.arrayClass FieldType.byte : Cond) ∈ nw_T := nw_in (i := 202) (by decide +kernel) (by decide +kernel)
theorem nh_ml_S_34 : (.methodLink "RadixShelf" 34 ny_S_checkRoom : Cond) ∈ nw_T := nw_in (i := 203) (by decide +kernel) (by decide +kernel)
theorem nh_st_S_checkRoom : (.static ny_S_checkRoom : Cond) ∈ nw_T := nw_in (i := 204) (by decide +kernel) (by decide +kernel)
theorem nh_co_S_checkRoom : (.code ny_S_checkRoom nb_S_checkRoom 1 none : Cond) ∈ nw_T := nw_in (i := 205) (by decide +kernel) (by decide +kernel)
theorem nh_cl_S_117 : (.classLink "RadixShelf" 117 "java/lang/IndexOutOfBoundsException" : Cond) ∈ nw_T := nw_in (i := 206) (by decide +kernel) (by decide +kernel)
theorem nh_is_IOB : (.instantiable "java/lang/IndexOutOfBoundsException" 6 : Cond) ∈ nw_T := nw_in (i := 207) (by decide +kernel) (by decide +kernel)
theorem nh_ml_S_121 : (.methodLink "RadixShelf" 121 ⟨"java/lang/IndexOutOfBoundsException", "<init>", "(Ljava/lang/String;)V"⟩ : Cond) ∈ nw_T := nw_in (i := 216) (by decide +kernel) (by decide +kernel)
theorem nh_ml_S_38 : (.methodLink "RadixShelf" 38 ny_S_draftOf : Cond) ∈ nw_T := nw_in (i := 222) (by decide +kernel) (by decide +kernel)
theorem nh_im_S_draftOf : (.instanceMethod ny_S_draftOf : Cond) ∈ nw_T := nw_in (i := 224) (by decide +kernel) (by decide +kernel)
theorem nh_co_S_draftOf : (.code ny_S_draftOf nb_S_draftOf 2 (some (FieldType.object "RadixShelf$Sequence")) : Cond) ∈ nw_T := nw_in (i := 225) (by decide +kernel) (by decide +kernel)
theorem nh_ml_S_42 : (.methodLink "RadixShelf" 42 ny_Q_append : Cond) ∈ nw_T := nw_in (i := 226) (by decide +kernel) (by decide +kernel)
theorem nh_im_Q_append : (.instanceMethod ny_Q_append : Cond) ∈ nw_T := nw_in (i := 227) (by decide +kernel) (by decide +kernel)
theorem nh_se_Q_append : (.selects "RadixShelf$Sequence" ny_Q_append ny_Q_append : Cond) ∈ nw_T := nw_in (i := 228) (by decide +kernel) (by decide +kernel)
theorem nh_co_Q_append : (.code ny_Q_append nb_Q_append 6 none : Cond) ∈ nw_T := nw_in (i := 229) (by decide +kernel) (by decide +kernel)
theorem nh_ml_Q_29 : (.methodLink "RadixShelf$Sequence" 29 ny_Q_position : Cond) ∈ nw_T := nw_in (i := 230) (by decide +kernel) (by decide +kernel)
theorem nh_im_Q_position : (.instanceMethod ny_Q_position : Cond) ∈ nw_T := nw_in (i := 232) (by decide +kernel) (by decide +kernel)
theorem nh_co_Q_position : (.code ny_Q_position nb_Q_position 2 (some FieldType.int) : Cond) ∈ nw_T := nw_in (i := 233) (by decide +kernel) (by decide +kernel)
theorem nh_ml_Q_43 : (.methodLink "RadixShelf$Sequence" 43 ny_Q_tailBlock : Cond) ∈ nw_T := nw_in (i := 234) (by decide +kernel) (by decide +kernel)
theorem nh_im_Q_tailBlock : (.instanceMethod ny_Q_tailBlock : Cond) ∈ nw_T := nw_in (i := 236) (by decide +kernel) (by decide +kernel)
theorem nh_co_Q_tailBlock : (.code ny_Q_tailBlock nb_Q_tailBlock 1 (some FieldType.int) : Cond) ∈ nw_T := nw_in (i := 237) (by decide +kernel) (by decide +kernel)
theorem nh_ml_Q_47 : (.methodLink "RadixShelf$Sequence" 47 ny_Q_hang : Cond) ∈ nw_T := nw_in (i := 238) (by decide +kernel) (by decide +kernel)
theorem nh_im_Q_hang : (.instanceMethod ny_Q_hang : Cond) ∈ nw_T := nw_in (i := 240) (by decide +kernel) (by decide +kernel)
theorem nh_co_Q_hang : (.code ny_Q_hang nb_Q_hang 3 none : Cond) ∈ nw_T := nw_in (i := 241) (by decide +kernel) (by decide +kernel)
theorem nh_ml_Q_61 : (.methodLink "RadixShelf$Sequence" 61 ny_R_ownedBy : Cond) ∈ nw_T := nw_in (i := 242) (by decide +kernel) (by decide +kernel)
theorem nh_im_R_ownedBy : (.instanceMethod ny_R_ownedBy : Cond) ∈ nw_T := nw_in (i := 243) (by decide +kernel) (by decide +kernel)
theorem nh_se_R_ownedBy : (.selects "RadixShelf$Root" ny_R_ownedBy ny_R_ownedBy : Cond) ∈ nw_T := nw_in (i := 244) (by decide +kernel) (by decide +kernel)
theorem nh_co_R_ownedBy : (.code ny_R_ownedBy nb_R_ownedBy 2 (some (FieldType.object "RadixShelf$Root")) : Cond) ∈ nw_T := nw_in (i := 245) (by decide +kernel) (by decide +kernel)
theorem nh_cl_R_10 : (.classLink "RadixShelf$Root" 10 "RadixShelf$Root" : Cond) ∈ nw_T := nw_in (i := 246) (by decide +kernel) (by decide +kernel)
theorem nh_ml_R_19 : (.methodLink "RadixShelf$Root" 19 ⟨"[LRadixShelf$Branch;", "clone", "()Ljava/lang/Object;"⟩ : Cond) ∈ nw_T := nw_in (i := 247) (by decide +kernel) (by decide +kernel)
theorem nh_sm_clone_B : (.sameMethod "[LRadixShelf$Branch;" "java/lang/Object" "clone" "()Ljava/lang/Object;" : Cond) ∈ nw_T := nw_in (i := 248) (by decide +kernel) (by decide +kernel)
theorem nh_na_clone : (.native ⟨"java/lang/Object", "clone", "()Ljava/lang/Object;"⟩ : Cond) ∈ nw_T := nw_in (i := 249) (by decide +kernel) (by decide +kernel)
theorem nh_im_clone : (.instanceMethod ⟨"java/lang/Object", "clone", "()Ljava/lang/Object;"⟩ : Cond) ∈ nw_T := nw_in (i := 250) (by decide +kernel) (by decide +kernel)
theorem nh_se_clone_B : (.selects "[LRadixShelf$Branch;" ⟨"[LRadixShelf$Branch;", "clone", "()Ljava/lang/Object;"⟩ ⟨"java/lang/Object", "clone", "()Ljava/lang/Object;"⟩ : Cond) ∈ nw_T := nw_in (i := 251) (by decide +kernel) (by decide +kernel)
theorem nh_cl_R_20 : (.classLink "RadixShelf$Root" 20 "[LRadixShelf$Branch;" : Cond) ∈ nw_T := nw_in (i := 253) (by decide +kernel) (by decide +kernel)
theorem nh_ml_R_24 : (.methodLink "RadixShelf$Root" 24 ny_R_init : Cond) ∈ nw_T := nw_in (i := 254) (by decide +kernel) (by decide +kernel)
theorem nh_ml_Q_64 : (.methodLink "RadixShelf$Sequence" 64 ny_R_hangOwned : Cond) ∈ nw_T := nw_in (i := 255) (by decide +kernel) (by decide +kernel)
theorem nh_im_R_hangOwned : (.instanceMethod ny_R_hangOwned : Cond) ∈ nw_T := nw_in (i := 256) (by decide +kernel) (by decide +kernel)
theorem nh_se_R_hangOwned : (.selects "RadixShelf$Root" ny_R_hangOwned ny_R_hangOwned : Cond) ∈ nw_T := nw_in (i := 257) (by decide +kernel) (by decide +kernel)
theorem nh_co_R_hangOwned : (.code ny_R_hangOwned nb_R_hangOwned 4 none : Cond) ∈ nw_T := nw_in (i := 258) (by decide +kernel) (by decide +kernel)
theorem nh_ml_R_33 : (.methodLink "RadixShelf$Root" 33 ny_B_ownedBy : Cond) ∈ nw_T := nw_in (i := 259) (by decide +kernel) (by decide +kernel)
theorem nh_im_B_ownedBy : (.instanceMethod ny_B_ownedBy : Cond) ∈ nw_T := nw_in (i := 260) (by decide +kernel) (by decide +kernel)
theorem nh_se_B_ownedBy : (.selects "RadixShelf$Branch" ny_B_ownedBy ny_B_ownedBy : Cond) ∈ nw_T := nw_in (i := 261) (by decide +kernel) (by decide +kernel)
theorem nh_co_B_ownedBy : (.code ny_B_ownedBy nb_B_ownedBy 2 (some (FieldType.object "RadixShelf$Branch")) : Cond) ∈ nw_T := nw_in (i := 262) (by decide +kernel) (by decide +kernel)
theorem nh_cl_B_8 : (.classLink "RadixShelf$Branch" 8 "RadixShelf$Branch" : Cond) ∈ nw_T := nw_in (i := 263) (by decide +kernel) (by decide +kernel)
theorem nh_ml_B_17 : (.methodLink "RadixShelf$Branch" 17 ⟨"[LRadixShelf$Leaf;", "clone", "()Ljava/lang/Object;"⟩ : Cond) ∈ nw_T := nw_in (i := 264) (by decide +kernel) (by decide +kernel)
theorem nh_sm_clone_F : (.sameMethod "[LRadixShelf$Leaf;" "java/lang/Object" "clone" "()Ljava/lang/Object;" : Cond) ∈ nw_T := nw_in (i := 265) (by decide +kernel) (by decide +kernel)
theorem nh_se_clone_F : (.selects "[LRadixShelf$Leaf;" ⟨"[LRadixShelf$Leaf;", "clone", "()Ljava/lang/Object;"⟩ ⟨"java/lang/Object", "clone", "()Ljava/lang/Object;"⟩ : Cond) ∈ nw_T := nw_in (i := 266) (by decide +kernel) (by decide +kernel)
theorem nh_cl_B_18 : (.classLink "RadixShelf$Branch" 18 "[LRadixShelf$Leaf;" : Cond) ∈ nw_T := nw_in (i := 268) (by decide +kernel) (by decide +kernel)
theorem nh_ml_B_22 : (.methodLink "RadixShelf$Branch" 22 ny_B_init : Cond) ∈ nw_T := nw_in (i := 269) (by decide +kernel) (by decide +kernel)
theorem nh_ml_Q_51 : (.methodLink "RadixShelf$Sequence" 51 ny_R_leafOf : Cond) ∈ nw_T := nw_in (i := 270) (by decide +kernel) (by decide +kernel)
theorem nh_im_R_leafOf : (.instanceMethod ny_R_leafOf : Cond) ∈ nw_T := nw_in (i := 271) (by decide +kernel) (by decide +kernel)
theorem nh_se_R_leafOf : (.selects "RadixShelf$Root" ny_R_leafOf ny_R_leafOf : Cond) ∈ nw_T := nw_in (i := 272) (by decide +kernel) (by decide +kernel)
theorem nh_co_R_leafOf : (.code ny_R_leafOf nb_R_leafOf 2 (some (FieldType.object "RadixShelf$Leaf")) : Cond) ∈ nw_T := nw_in (i := 273) (by decide +kernel) (by decide +kernel)
theorem nh_ml_Q_54 : (.methodLink "RadixShelf$Sequence" 54 ny_Q_write : Cond) ∈ nw_T := nw_in (i := 274) (by decide +kernel) (by decide +kernel)
theorem nh_im_Q_write : (.instanceMethod ny_Q_write : Cond) ∈ nw_T := nw_in (i := 276) (by decide +kernel) (by decide +kernel)
theorem nh_co_Q_write : (.code ny_Q_write nb_Q_write 6 none : Cond) ∈ nw_T := nw_in (i := 277) (by decide +kernel) (by decide +kernel)
theorem nh_ml_Q_33 : (.methodLink "RadixShelf$Sequence" 33 ny_Q_leafOf : Cond) ∈ nw_T := nw_in (i := 278) (by decide +kernel) (by decide +kernel)
theorem nh_im_Q_leafOf : (.instanceMethod ny_Q_leafOf : Cond) ∈ nw_T := nw_in (i := 280) (by decide +kernel) (by decide +kernel)
theorem nh_co_Q_leafOf : (.code ny_Q_leafOf nb_Q_leafOf 2 (some (FieldType.object "RadixShelf$Leaf")) : Cond) ∈ nw_T := nw_in (i := 281) (by decide +kernel) (by decide +kernel)
theorem nh_ml_Q_58 : (.methodLink "RadixShelf$Sequence" 58 ny_F_ownedBy : Cond) ∈ nw_T := nw_in (i := 282) (by decide +kernel) (by decide +kernel)
theorem nh_im_F_ownedBy : (.instanceMethod ny_F_ownedBy : Cond) ∈ nw_T := nw_in (i := 283) (by decide +kernel) (by decide +kernel)
theorem nh_se_F_ownedBy : (.selects "RadixShelf$Leaf" ny_F_ownedBy ny_F_ownedBy : Cond) ∈ nw_T := nw_in (i := 284) (by decide +kernel) (by decide +kernel)
theorem nh_co_F_ownedBy : (.code ny_F_ownedBy nb_F_ownedBy 2 (some (FieldType.object "RadixShelf$Leaf")) : Cond) ∈ nw_T := nw_in (i := 285) (by decide +kernel) (by decide +kernel)
theorem nh_cl_F_8 : (.classLink "RadixShelf$Leaf" 8 "RadixShelf$Leaf" : Cond) ∈ nw_T := nw_in (i := 286) (by decide +kernel) (by decide +kernel)
theorem nh_ml_F_17 : (.methodLink "RadixShelf$Leaf" 17 ⟨"[J", "clone", "()Ljava/lang/Object;"⟩ : Cond) ∈ nw_T := nw_in (i := 287) (by decide +kernel) (by decide +kernel)
theorem nh_sm_clone_J : (.sameMethod "[J" "java/lang/Object" "clone" "()Ljava/lang/Object;" : Cond) ∈ nw_T := nw_in (i := 288) (by decide +kernel) (by decide +kernel)
theorem nh_se_clone_J : (.selects "[J" ⟨"[J", "clone", "()Ljava/lang/Object;"⟩ ⟨"java/lang/Object", "clone", "()Ljava/lang/Object;"⟩ : Cond) ∈ nw_T := nw_in (i := 289) (by decide +kernel) (by decide +kernel)
theorem nh_cl_F_18 : (.classLink "RadixShelf$Leaf" 18 "[J" : Cond) ∈ nw_T := nw_in (i := 291) (by decide +kernel) (by decide +kernel)
theorem nh_ml_F_22 : (.methodLink "RadixShelf$Leaf" 22 ny_F_init : Cond) ∈ nw_T := nw_in (i := 292) (by decide +kernel) (by decide +kernel)
theorem nh_ml_L_74 : (.methodLink "RadixShelfLaw" 74 ny_L_push : Cond) ∈ nw_T := nw_in (i := 293) (by decide +kernel) (by decide +kernel)
theorem nh_st_L_push : (.static ny_L_push : Cond) ∈ nw_T := nw_in (i := 294) (by decide +kernel) (by decide +kernel)
theorem nh_co_L_push : (.codeWith ny_L_push nb_L_push 7 (some FieldType.int) [(0, 12, 15, 13), (0, 12, 19, 15)] : Cond) ∈ nw_T := nw_in (i := 295) (by decide +kernel) (by decide +kernel)
theorem nh_ml_L_17 : (.methodLink "RadixShelfLaw" 17 ny_S_push : Cond) ∈ nw_T := nw_in (i := 296) (by decide +kernel) (by decide +kernel)
theorem nh_im_S_push : (.instanceMethod ny_S_push : Cond) ∈ nw_T := nw_in (i := 297) (by decide +kernel) (by decide +kernel)
theorem nh_se_S_push : (.selects "RadixShelf" ny_S_push ny_S_push : Cond) ∈ nw_T := nw_in (i := 298) (by decide +kernel) (by decide +kernel)
theorem nh_co_S_push : (.code ny_S_push nb_S_push 6 (some FieldType.int) : Cond) ∈ nw_T := nw_in (i := 299) (by decide +kernel) (by decide +kernel)
theorem nh_ml_S_49 : (.methodLink "RadixShelf" 49 ny_Q_prepend : Cond) ∈ nw_T := nw_in (i := 300) (by decide +kernel) (by decide +kernel)
theorem nh_im_Q_prepend : (.instanceMethod ny_Q_prepend : Cond) ∈ nw_T := nw_in (i := 301) (by decide +kernel) (by decide +kernel)
theorem nh_se_Q_prepend : (.selects "RadixShelf$Sequence" ny_Q_prepend ny_Q_prepend : Cond) ∈ nw_T := nw_in (i := 302) (by decide +kernel) (by decide +kernel)
theorem nh_co_Q_prepend : (.code ny_Q_prepend nb_Q_prepend 3 none : Cond) ∈ nw_T := nw_in (i := 303) (by decide +kernel) (by decide +kernel)
theorem nh_ml_L_77 : (.methodLink "RadixShelfLaw" 77 ny_L_set : Cond) ∈ nw_T := nw_in (i := 304) (by decide +kernel) (by decide +kernel)
theorem nh_st_L_set : (.static ny_L_set : Cond) ∈ nw_T := nw_in (i := 305) (by decide +kernel) (by decide +kernel)
theorem nh_co_L_set : (.codeWith ny_L_set nb_L_set 8 (some FieldType.int) [(0, 13, 16, 13), (0, 13, 20, 24)] : Cond) ∈ nw_T := nw_in (i := 306) (by decide +kernel) (by decide +kernel)
theorem nh_cl_L_24 : (.classLink "RadixShelfLaw" 24 "java/util/NoSuchElementException" : Cond) ∈ nw_T := nw_in (i := 307) (by decide +kernel) (by decide +kernel)
theorem nh_ml_L_20 : (.methodLink "RadixShelfLaw" 20 ny_S_set : Cond) ∈ nw_T := nw_in (i := 308) (by decide +kernel) (by decide +kernel)
theorem nh_im_S_set : (.instanceMethod ny_S_set : Cond) ∈ nw_T := nw_in (i := 309) (by decide +kernel) (by decide +kernel)
theorem nh_se_S_set : (.selects "RadixShelf" ny_S_set ny_S_set : Cond) ∈ nw_T := nw_in (i := 310) (by decide +kernel) (by decide +kernel)
theorem nh_co_S_set : (.code ny_S_set nb_S_set 9 (some FieldType.long) : Cond) ∈ nw_T := nw_in (i := 311) (by decide +kernel) (by decide +kernel)
theorem nh_ml_S_52 : (.methodLink "RadixShelf" 52 ny_S_checkElement : Cond) ∈ nw_T := nw_in (i := 312) (by decide +kernel) (by decide +kernel)
theorem nh_st_S_checkElement : (.static ny_S_checkElement : Cond) ∈ nw_T := nw_in (i := 313) (by decide +kernel) (by decide +kernel)
theorem nh_co_S_checkElement : (.code ny_S_checkElement nb_S_checkElement 2 none : Cond) ∈ nw_T := nw_in (i := 314) (by decide +kernel) (by decide +kernel)
theorem nh_cl_S_67 : (.classLink "RadixShelf" 67 "java/util/NoSuchElementException" : Cond) ∈ nw_T := nw_in (i := 315) (by decide +kernel) (by decide +kernel)
theorem nh_is_NSE : (.instantiable "java/util/NoSuchElementException" 6 : Cond) ∈ nw_T := nw_in (i := 316) (by decide +kernel) (by decide +kernel)
theorem nh_ml_S_71 : (.methodLink "RadixShelf" 71 ⟨"java/util/NoSuchElementException", "<init>", "(Ljava/lang/String;)V"⟩ : Cond) ∈ nw_T := nw_in (i := 325) (by decide +kernel) (by decide +kernel)
theorem nh_ml_S_56 : (.methodLink "RadixShelf" 56 ny_Q_element : Cond) ∈ nw_T := nw_in (i := 331) (by decide +kernel) (by decide +kernel)
theorem nh_im_Q_element : (.instanceMethod ny_Q_element : Cond) ∈ nw_T := nw_in (i := 332) (by decide +kernel) (by decide +kernel)
theorem nh_se_Q_element : (.selects "RadixShelf$Sequence" ny_Q_element ny_Q_element : Cond) ∈ nw_T := nw_in (i := 333) (by decide +kernel) (by decide +kernel)
theorem nh_co_Q_element : (.code ny_Q_element nb_Q_element 3 (some FieldType.long) : Cond) ∈ nw_T := nw_in (i := 334) (by decide +kernel) (by decide +kernel)
theorem nh_ml_S_60 : (.methodLink "RadixShelf" 60 ny_Q_replace : Cond) ∈ nw_T := nw_in (i := 335) (by decide +kernel) (by decide +kernel)
theorem nh_im_Q_replace : (.instanceMethod ny_Q_replace : Cond) ∈ nw_T := nw_in (i := 336) (by decide +kernel) (by decide +kernel)
theorem nh_se_Q_replace : (.selects "RadixShelf$Sequence" ny_Q_replace ny_Q_replace : Cond) ∈ nw_T := nw_in (i := 337) (by decide +kernel) (by decide +kernel)
theorem nh_co_Q_replace : (.code ny_Q_replace nb_Q_replace 4 none : Cond) ∈ nw_T := nw_in (i := 338) (by decide +kernel) (by decide +kernel)
theorem nh_ml_L_81 : (.methodLink "RadixShelfLaw" 81 ny_L_at : Cond) ∈ nw_T := nw_in (i := 339) (by decide +kernel) (by decide +kernel)
theorem nh_st_L_at : (.static ny_L_at : Cond) ∈ nw_T := nw_in (i := 340) (by decide +kernel) (by decide +kernel)
theorem nh_co_L_at : (.codeWith ny_L_at nb_L_at 5 (some FieldType.int) [(0, 9, 12, 13), (0, 9, 16, 24)] : Cond) ∈ nw_T := nw_in (i := 341) (by decide +kernel) (by decide +kernel)
theorem nh_ml_L_26 : (.methodLink "RadixShelfLaw" 26 ny_S_at : Cond) ∈ nw_T := nw_in (i := 342) (by decide +kernel) (by decide +kernel)
theorem nh_im_S_at : (.instanceMethod ny_S_at : Cond) ∈ nw_T := nw_in (i := 343) (by decide +kernel) (by decide +kernel)
theorem nh_se_S_at : (.selects "RadixShelf" ny_S_at ny_S_at : Cond) ∈ nw_T := nw_in (i := 344) (by decide +kernel) (by decide +kernel)
theorem nh_co_S_at : (.code ny_S_at nb_S_at 3 (some FieldType.long) : Cond) ∈ nw_T := nw_in (i := 345) (by decide +kernel) (by decide +kernel)
theorem nh_ml_L_85 : (.methodLink "RadixShelfLaw" 85 ny_L_cut : Cond) ∈ nw_T := nw_in (i := 346) (by decide +kernel) (by decide +kernel)
theorem nh_st_L_cut : (.static ny_L_cut : Cond) ∈ nw_T := nw_in (i := 347) (by decide +kernel) (by decide +kernel)
theorem nh_co_L_cut : (.codeWith ny_L_cut nb_L_cut 7 (some FieldType.int) [(0, 14, 17, 13), (0, 14, 21, 24)] : Cond) ∈ nw_T := nw_in (i := 348) (by decide +kernel) (by decide +kernel)
theorem nh_ml_L_30 : (.methodLink "RadixShelfLaw" 30 ny_S_cut : Cond) ∈ nw_T := nw_in (i := 349) (by decide +kernel) (by decide +kernel)
theorem nh_im_S_cut : (.instanceMethod ny_S_cut : Cond) ∈ nw_T := nw_in (i := 350) (by decide +kernel) (by decide +kernel)
theorem nh_se_S_cut : (.selects "RadixShelf" ny_S_cut ny_S_cut : Cond) ∈ nw_T := nw_in (i := 351) (by decide +kernel) (by decide +kernel)
theorem nh_co_S_cut : (.code ny_S_cut nb_S_cut 6 (some FieldType.int) : Cond) ∈ nw_T := nw_in (i := 352) (by decide +kernel) (by decide +kernel)
theorem nh_ml_S_64 : (.methodLink "RadixShelf" 64 ny_S_checkNotNegative : Cond) ∈ nw_T := nw_in (i := 353) (by decide +kernel) (by decide +kernel)
theorem nh_st_S_checkNotNegative : (.static ny_S_checkNotNegative : Cond) ∈ nw_T := nw_in (i := 354) (by decide +kernel) (by decide +kernel)
theorem nh_co_S_checkNotNegative : (.code ny_S_checkNotNegative nb_S_checkNotNegative 1 none : Cond) ∈ nw_T := nw_in (i := 355) (by decide +kernel) (by decide +kernel)
theorem nh_ml_S_74 : (.methodLink "RadixShelf" 74 ny_Q_trim : Cond) ∈ nw_T := nw_in (i := 358) (by decide +kernel) (by decide +kernel)
theorem nh_im_Q_trim : (.instanceMethod ny_Q_trim : Cond) ∈ nw_T := nw_in (i := 359) (by decide +kernel) (by decide +kernel)
theorem nh_se_Q_trim : (.selects "RadixShelf$Sequence" ny_Q_trim ny_Q_trim : Cond) ∈ nw_T := nw_in (i := 360) (by decide +kernel) (by decide +kernel)
theorem nh_co_Q_trim : (.code ny_Q_trim nb_Q_trim 4 none : Cond) ∈ nw_T := nw_in (i := 361) (by decide +kernel) (by decide +kernel)
theorem nh_ml_L_89 : (.methodLink "RadixShelfLaw" 89 ny_L_fill : Cond) ∈ nw_T := nw_in (i := 362) (by decide +kernel) (by decide +kernel)
theorem nh_st_L_fill : (.static ny_L_fill : Cond) ∈ nw_T := nw_in (i := 363) (by decide +kernel) (by decide +kernel)
theorem nh_co_L_fill : (.codeWith ny_L_fill nb_L_fill 9 (some FieldType.int) [(0, 15, 18, 13)] : Cond) ∈ nw_T := nw_in (i := 364) (by decide +kernel) (by decide +kernel)
theorem nh_ml_L_34 : (.methodLink "RadixShelfLaw" 34 ny_S_fill : Cond) ∈ nw_T := nw_in (i := 365) (by decide +kernel) (by decide +kernel)
theorem nh_im_S_fill : (.instanceMethod ny_S_fill : Cond) ∈ nw_T := nw_in (i := 366) (by decide +kernel) (by decide +kernel)
theorem nh_se_S_fill : (.selects "RadixShelf" ny_S_fill ny_S_fill : Cond) ∈ nw_T := nw_in (i := 367) (by decide +kernel) (by decide +kernel)
theorem nh_co_S_fill : (.code ny_S_fill nb_S_fill 11 (some FieldType.int) : Cond) ∈ nw_T := nw_in (i := 368) (by decide +kernel) (by decide +kernel)
theorem nh_ml_L_93 : (.methodLink "RadixShelfLaw" 93 ny_L_size : Cond) ∈ nw_T := nw_in (i := 369) (by decide +kernel) (by decide +kernel)
theorem nh_st_L_size : (.static ny_L_size : Cond) ∈ nw_T := nw_in (i := 370) (by decide +kernel) (by decide +kernel)
theorem nh_co_L_size : (.codeWith ny_L_size nb_L_size 4 (some FieldType.int) [(0, 9, 12, 13)] : Cond) ∈ nw_T := nw_in (i := 371) (by decide +kernel) (by decide +kernel)
theorem nh_ml_L_38 : (.methodLink "RadixShelfLaw" 38 ny_S_size : Cond) ∈ nw_T := nw_in (i := 372) (by decide +kernel) (by decide +kernel)
theorem nh_im_S_size : (.instanceMethod ny_S_size : Cond) ∈ nw_T := nw_in (i := 373) (by decide +kernel) (by decide +kernel)
theorem nh_se_S_size : (.selects "RadixShelf" ny_S_size ny_S_size : Cond) ∈ nw_T := nw_in (i := 374) (by decide +kernel) (by decide +kernel)
theorem nh_co_S_size : (.code ny_S_size nb_S_size 2 (some FieldType.int) : Cond) ∈ nw_T := nw_in (i := 375) (by decide +kernel) (by decide +kernel)
theorem nh_ml_L_97 : (.methodLink "RadixShelfLaw" 97 ny_L_hash : Cond) ∈ nw_T := nw_in (i := 376) (by decide +kernel) (by decide +kernel)
theorem nh_st_L_hash : (.static ny_L_hash : Cond) ∈ nw_T := nw_in (i := 377) (by decide +kernel) (by decide +kernel)
theorem nh_co_L_hash : (.codeWith ny_L_hash nb_L_hash 4 (some FieldType.int) [(0, 8, 11, 13)] : Cond) ∈ nw_T := nw_in (i := 378) (by decide +kernel) (by decide +kernel)
theorem nh_ml_L_42 : (.methodLink "RadixShelfLaw" 42 ny_S_hash : Cond) ∈ nw_T := nw_in (i := 379) (by decide +kernel) (by decide +kernel)
theorem nh_im_S_hash : (.instanceMethod ny_S_hash : Cond) ∈ nw_T := nw_in (i := 380) (by decide +kernel) (by decide +kernel)
theorem nh_se_S_hash : (.selects "RadixShelf" ny_S_hash ny_S_hash : Cond) ∈ nw_T := nw_in (i := 381) (by decide +kernel) (by decide +kernel)
theorem nh_co_S_hash : (.code ny_S_hash nb_S_hash 6 (some FieldType.long) : Cond) ∈ nw_T := nw_in (i := 382) (by decide +kernel) (by decide +kernel)
theorem nh_kl_S_82 : (.constantLong "RadixShelf" 82 31 : Cond) ∈ nw_T := nw_in (i := 383) (by decide +kernel) (by decide +kernel)
theorem nh_ml_L_100 : (.methodLink "RadixShelfLaw" 100 ny_L_open : Cond) ∈ nw_T := nw_in (i := 384) (by decide +kernel) (by decide +kernel)
theorem nh_st_L_open : (.static ny_L_open : Cond) ∈ nw_T := nw_in (i := 385) (by decide +kernel) (by decide +kernel)
theorem nh_co_L_open : (.codeWith ny_L_open nb_L_open 3 (some FieldType.int) [(0, 5, 8, 13), (0, 5, 11, 50)] : Cond) ∈ nw_T := nw_in (i := 386) (by decide +kernel) (by decide +kernel)
theorem nh_cl_L_50 : (.classLink "RadixShelfLaw" 50 "java/lang/IllegalStateException" : Cond) ∈ nw_T := nw_in (i := 387) (by decide +kernel) (by decide +kernel)
theorem nh_ml_L_46 : (.methodLink "RadixShelfLaw" 46 ny_S_open : Cond) ∈ nw_T := nw_in (i := 388) (by decide +kernel) (by decide +kernel)
theorem nh_im_S_open : (.instanceMethod ny_S_open : Cond) ∈ nw_T := nw_in (i := 389) (by decide +kernel) (by decide +kernel)
theorem nh_se_S_open : (.selects "RadixShelf" ny_S_open ny_S_open : Cond) ∈ nw_T := nw_in (i := 390) (by decide +kernel) (by decide +kernel)
theorem nh_co_S_open : (.code ny_S_open nb_S_open 2 none : Cond) ∈ nw_T := nw_in (i := 391) (by decide +kernel) (by decide +kernel)
theorem nh_cl_S_84 : (.classLink "RadixShelf" 84 "java/lang/IllegalStateException" : Cond) ∈ nw_T := nw_in (i := 392) (by decide +kernel) (by decide +kernel)
theorem nh_is_ISE : (.instantiable "java/lang/IllegalStateException" 6 : Cond) ∈ nw_T := nw_in (i := 393) (by decide +kernel) (by decide +kernel)
theorem nh_ml_S_88 : (.methodLink "RadixShelf" 88 ⟨"java/lang/IllegalStateException", "<init>", "(Ljava/lang/String;)V"⟩ : Cond) ∈ nw_T := nw_in (i := 402) (by decide +kernel) (by decide +kernel)
theorem nh_ml_L_104 : (.methodLink "RadixShelfLaw" 104 ny_L_build : Cond) ∈ nw_T := nw_in (i := 408) (by decide +kernel) (by decide +kernel)
theorem nh_st_L_build : (.static ny_L_build : Cond) ∈ nw_T := nw_in (i := 409) (by decide +kernel) (by decide +kernel)
theorem nh_co_L_build : (.codeWith ny_L_build nb_L_build 7 (some FieldType.int) [(0, 12, 15, 13), (0, 12, 19, 50), (0, 12, 23, 24), (0, 12, 27, 15)] : Cond) ∈ nw_T := nw_in (i := 410) (by decide +kernel) (by decide +kernel)
theorem nh_ml_L_52 : (.methodLink "RadixShelfLaw" 52 ny_S_build : Cond) ∈ nw_T := nw_in (i := 411) (by decide +kernel) (by decide +kernel)
theorem nh_im_S_build : (.instanceMethod ny_S_build : Cond) ∈ nw_T := nw_in (i := 412) (by decide +kernel) (by decide +kernel)
theorem nh_se_S_build : (.selects "RadixShelf" ny_S_build ny_S_build : Cond) ∈ nw_T := nw_in (i := 413) (by decide +kernel) (by decide +kernel)
theorem nh_co_S_build : (.code ny_S_build nb_S_build 6 (some FieldType.int) : Cond) ∈ nw_T := nw_in (i := 414) (by decide +kernel) (by decide +kernel)
theorem nh_ml_S_89 : (.methodLink "RadixShelf" 89 ny_S_presentBuilder : Cond) ∈ nw_T := nw_in (i := 415) (by decide +kernel) (by decide +kernel)
theorem nh_im_S_presentBuilder : (.instanceMethod ny_S_presentBuilder : Cond) ∈ nw_T := nw_in (i := 417) (by decide +kernel) (by decide +kernel)
theorem nh_co_S_presentBuilder : (.code ny_S_presentBuilder nb_S_presentBuilder 1 (some (FieldType.object "RadixShelf$Sequence")) : Cond) ∈ nw_T := nw_in (i := 418) (by decide +kernel) (by decide +kernel)
theorem nh_ml_L_107 : (.methodLink "RadixShelfLaw" 107 ny_L_freeze : Cond) ∈ nw_T := nw_in (i := 420) (by decide +kernel) (by decide +kernel)
theorem nh_st_L_freeze : (.static ny_L_freeze : Cond) ∈ nw_T := nw_in (i := 421) (by decide +kernel) (by decide +kernel)
theorem nh_co_L_freeze : (.codeWith ny_L_freeze nb_L_freeze 4 (some FieldType.int) [(0, 9, 12, 13), (0, 9, 15, 50)] : Cond) ∈ nw_T := nw_in (i := 422) (by decide +kernel) (by decide +kernel)
theorem nh_ml_L_55 : (.methodLink "RadixShelfLaw" 55 ny_S_freeze : Cond) ∈ nw_T := nw_in (i := 423) (by decide +kernel) (by decide +kernel)
theorem nh_im_S_freeze : (.instanceMethod ny_S_freeze : Cond) ∈ nw_T := nw_in (i := 424) (by decide +kernel) (by decide +kernel)
theorem nh_se_S_freeze : (.selects "RadixShelf" ny_S_freeze ny_S_freeze : Cond) ∈ nw_T := nw_in (i := 425) (by decide +kernel) (by decide +kernel)
theorem nh_co_S_freeze : (.code ny_S_freeze nb_S_freeze 3 (some FieldType.int) : Cond) ∈ nw_T := nw_in (i := 426) (by decide +kernel) (by decide +kernel)
theorem nh_cl_L_59 : (.classLink "RadixShelfLaw" 59 "RadixShelfModel" : Cond) ∈ nw_T := nw_in (i := 427) (by decide +kernel) (by decide +kernel)
theorem nh_is_M : (.instantiable "RadixShelfModel" 4 : Cond) ∈ nw_T := nw_in (i := 428) (by decide +kernel) (by decide +kernel)
theorem nh_ml_L_61 : (.methodLink "RadixShelfLaw" 61 ny_M_init : Cond) ∈ nw_T := nw_in (i := 429) (by decide +kernel) (by decide +kernel)
theorem nh_im_M_init : (.instanceMethod ny_M_init : Cond) ∈ nw_T := nw_in (i := 430) (by decide +kernel) (by decide +kernel)
theorem nh_co_M_init : (.code ny_M_init nb_M_init 1 none : Cond) ∈ nw_T := nw_in (i := 431) (by decide +kernel) (by decide +kernel)
theorem nh_ml_M_1 : (.methodLink "RadixShelfModel" 1 ⟨"java/lang/Object", "<init>", "()V"⟩ : Cond) ∈ nw_T := nw_in (i := 432) (by decide +kernel) (by decide +kernel)
theorem nh_cl_M_9 : (.classLink "RadixShelfModel" 9 "[[J" : Cond) ∈ nw_T := nw_in (i := 433) (by decide +kernel) (by decide +kernel)
theorem nh_fl_M_11 : (.fieldLink "RadixShelfModel" 11 "RadixShelfModel" "rows" "[[J" : Cond) ∈ nw_T := nw_in (i := 435) (by decide +kernel) (by decide +kernel)
theorem nh_fl_M_14 : (.fieldLink "RadixShelfModel" 14 "RadixShelfModel" "sizes" "[I" : Cond) ∈ nw_T := nw_in (i := 436) (by decide +kernel) (by decide +kernel)
theorem nh_fl_M_36 : (.fieldLink "RadixShelfModel" 36 "RadixShelfModel" "\x6fpen" "Z" : Cond) ∈ nw_T := nw_in (i := 437) (by decide +kernel) (by decide +kernel)
theorem nh_fl_M_18 : (.fieldLink "RadixShelfModel" 18 "RadixShelfModel" "code" "I" : Cond) ∈ nw_T := nw_in (i := 438) (by decide +kernel) (by decide +kernel)
theorem nh_ac_int : (.arrayClass FieldType.int : Cond) ∈ nw_T := nw_in (i := 448) (by decide +kernel) (by decide +kernel)
theorem nh_ml_L_70 : (.methodLink "RadixShelfLaw" 70 ny_M_thrown : Cond) ∈ nw_T := nw_in (i := 449) (by decide +kernel) (by decide +kernel)
theorem nh_im_M_thrown : (.instanceMethod ny_M_thrown : Cond) ∈ nw_T := nw_in (i := 450) (by decide +kernel) (by decide +kernel)
theorem nh_se_M_thrown : (.selects "RadixShelfModel" ny_M_thrown ny_M_thrown : Cond) ∈ nw_T := nw_in (i := 451) (by decide +kernel) (by decide +kernel)
theorem nh_co_M_thrown : (.code ny_M_thrown nb_M_thrown 1 (some FieldType.int) : Cond) ∈ nw_T := nw_in (i := 452) (by decide +kernel) (by decide +kernel)
theorem nh_ml_L_69 : (.methodLink "RadixShelfLaw" 69 ny_M_add : Cond) ∈ nw_T := nw_in (i := 453) (by decide +kernel) (by decide +kernel)
theorem nh_im_M_add : (.instanceMethod ny_M_add : Cond) ∈ nw_T := nw_in (i := 454) (by decide +kernel) (by decide +kernel)
theorem nh_se_M_add : (.selects "RadixShelfModel" ny_M_add ny_M_add : Cond) ∈ nw_T := nw_in (i := 455) (by decide +kernel) (by decide +kernel)
theorem nh_co_M_add : (.code ny_M_add nb_M_add 5 (some FieldType.int) : Cond) ∈ nw_T := nw_in (i := 456) (by decide +kernel) (by decide +kernel)
theorem nh_ml_M_22 : (.methodLink "RadixShelfModel" 22 ny_M_isSlot : Cond) ∈ nw_T := nw_in (i := 457) (by decide +kernel) (by decide +kernel)
theorem nh_st_M_isSlot : (.static ny_M_isSlot : Cond) ∈ nw_T := nw_in (i := 458) (by decide +kernel) (by decide +kernel)
theorem nh_co_M_isSlot : (.code ny_M_isSlot nb_M_isSlot 1 (some FieldType.boolean) : Cond) ∈ nw_T := nw_in (i := 459) (by decide +kernel) (by decide +kernel)
theorem nh_ml_M_26 : (.methodLink "RadixShelfModel" 26 ny_M_good : Cond) ∈ nw_T := nw_in (i := 460) (by decide +kernel) (by decide +kernel)
theorem nh_im_M_good : (.instanceMethod ny_M_good : Cond) ∈ nw_T := nw_in (i := 462) (by decide +kernel) (by decide +kernel)
theorem nh_co_M_good : (.code ny_M_good nb_M_good 3 (some FieldType.boolean) : Cond) ∈ nw_T := nw_in (i := 463) (by decide +kernel) (by decide +kernel)
theorem nh_ml_M_30 : (.methodLink "RadixShelfModel" 30 ny_M_copy : Cond) ∈ nw_T := nw_in (i := 464) (by decide +kernel) (by decide +kernel)
theorem nh_im_M_copy : (.instanceMethod ny_M_copy : Cond) ∈ nw_T := nw_in (i := 466) (by decide +kernel) (by decide +kernel)
theorem nh_co_M_copy : (.code ny_M_copy nb_M_copy 4 none : Cond) ∈ nw_T := nw_in (i := 467) (by decide +kernel) (by decide +kernel)
theorem nh_ml_L_76 : (.methodLink "RadixShelfLaw" 76 ny_M_push : Cond) ∈ nw_T := nw_in (i := 468) (by decide +kernel) (by decide +kernel)
theorem nh_im_M_push : (.instanceMethod ny_M_push : Cond) ∈ nw_T := nw_in (i := 469) (by decide +kernel) (by decide +kernel)
theorem nh_se_M_push : (.selects "RadixShelfModel" ny_M_push ny_M_push : Cond) ∈ nw_T := nw_in (i := 470) (by decide +kernel) (by decide +kernel)
theorem nh_co_M_push : (.code ny_M_push nb_M_push 6 (some FieldType.int) : Cond) ∈ nw_T := nw_in (i := 471) (by decide +kernel) (by decide +kernel)
theorem nh_ml_L_80 : (.methodLink "RadixShelfLaw" 80 ny_M_set : Cond) ∈ nw_T := nw_in (i := 472) (by decide +kernel) (by decide +kernel)
theorem nh_im_M_set : (.instanceMethod ny_M_set : Cond) ∈ nw_T := nw_in (i := 473) (by decide +kernel) (by decide +kernel)
theorem nh_se_M_set : (.selects "RadixShelfModel" ny_M_set ny_M_set : Cond) ∈ nw_T := nw_in (i := 474) (by decide +kernel) (by decide +kernel)
theorem nh_co_M_set : (.code ny_M_set nb_M_set 8 (some FieldType.long) : Cond) ∈ nw_T := nw_in (i := 475) (by decide +kernel) (by decide +kernel)
theorem nh_ml_L_84 : (.methodLink "RadixShelfLaw" 84 ny_M_at : Cond) ∈ nw_T := nw_in (i := 476) (by decide +kernel) (by decide +kernel)
theorem nh_im_M_at : (.instanceMethod ny_M_at : Cond) ∈ nw_T := nw_in (i := 477) (by decide +kernel) (by decide +kernel)
theorem nh_se_M_at : (.selects "RadixShelfModel" ny_M_at ny_M_at : Cond) ∈ nw_T := nw_in (i := 478) (by decide +kernel) (by decide +kernel)
theorem nh_co_M_at : (.code ny_M_at nb_M_at 3 (some FieldType.long) : Cond) ∈ nw_T := nw_in (i := 479) (by decide +kernel) (by decide +kernel)
theorem nh_ml_L_88 : (.methodLink "RadixShelfLaw" 88 ny_M_cut : Cond) ∈ nw_T := nw_in (i := 480) (by decide +kernel) (by decide +kernel)
theorem nh_im_M_cut : (.instanceMethod ny_M_cut : Cond) ∈ nw_T := nw_in (i := 481) (by decide +kernel) (by decide +kernel)
theorem nh_se_M_cut : (.selects "RadixShelfModel" ny_M_cut ny_M_cut : Cond) ∈ nw_T := nw_in (i := 482) (by decide +kernel) (by decide +kernel)
theorem nh_co_M_cut : (.code ny_M_cut nb_M_cut 7 (some FieldType.int) : Cond) ∈ nw_T := nw_in (i := 483) (by decide +kernel) (by decide +kernel)
theorem nh_ml_L_92 : (.methodLink "RadixShelfLaw" 92 ny_M_fill : Cond) ∈ nw_T := nw_in (i := 484) (by decide +kernel) (by decide +kernel)
theorem nh_im_M_fill : (.instanceMethod ny_M_fill : Cond) ∈ nw_T := nw_in (i := 485) (by decide +kernel) (by decide +kernel)
theorem nh_se_M_fill : (.selects "RadixShelfModel" ny_M_fill ny_M_fill : Cond) ∈ nw_T := nw_in (i := 486) (by decide +kernel) (by decide +kernel)
theorem nh_co_M_fill : (.code ny_M_fill nb_M_fill 8 (some FieldType.int) : Cond) ∈ nw_T := nw_in (i := 487) (by decide +kernel) (by decide +kernel)
theorem nh_ml_L_96 : (.methodLink "RadixShelfLaw" 96 ny_M_size : Cond) ∈ nw_T := nw_in (i := 488) (by decide +kernel) (by decide +kernel)
theorem nh_im_M_size : (.instanceMethod ny_M_size : Cond) ∈ nw_T := nw_in (i := 489) (by decide +kernel) (by decide +kernel)
theorem nh_se_M_size : (.selects "RadixShelfModel" ny_M_size ny_M_size : Cond) ∈ nw_T := nw_in (i := 490) (by decide +kernel) (by decide +kernel)
theorem nh_co_M_size : (.code ny_M_size nb_M_size 2 (some FieldType.int) : Cond) ∈ nw_T := nw_in (i := 491) (by decide +kernel) (by decide +kernel)
theorem nh_ml_L_99 : (.methodLink "RadixShelfLaw" 99 ny_M_hash : Cond) ∈ nw_T := nw_in (i := 492) (by decide +kernel) (by decide +kernel)
theorem nh_im_M_hash : (.instanceMethod ny_M_hash : Cond) ∈ nw_T := nw_in (i := 493) (by decide +kernel) (by decide +kernel)
theorem nh_se_M_hash : (.selects "RadixShelfModel" ny_M_hash ny_M_hash : Cond) ∈ nw_T := nw_in (i := 494) (by decide +kernel) (by decide +kernel)
theorem nh_co_M_hash : (.code ny_M_hash nb_M_hash 5 (some FieldType.long) : Cond) ∈ nw_T := nw_in (i := 495) (by decide +kernel) (by decide +kernel)
theorem nh_kl_M_34 : (.constantLong "RadixShelfModel" 34 31 : Cond) ∈ nw_T := nw_in (i := 496) (by decide +kernel) (by decide +kernel)
theorem nh_ml_L_103 : (.methodLink "RadixShelfLaw" 103 ny_M_open : Cond) ∈ nw_T := nw_in (i := 497) (by decide +kernel) (by decide +kernel)
theorem nh_im_M_open : (.instanceMethod ny_M_open : Cond) ∈ nw_T := nw_in (i := 498) (by decide +kernel) (by decide +kernel)
theorem nh_se_M_open : (.selects "RadixShelfModel" ny_M_open ny_M_open : Cond) ∈ nw_T := nw_in (i := 499) (by decide +kernel) (by decide +kernel)
theorem nh_co_M_open : (.code ny_M_open nb_M_open 2 none : Cond) ∈ nw_T := nw_in (i := 500) (by decide +kernel) (by decide +kernel)
theorem nh_ml_L_106 : (.methodLink "RadixShelfLaw" 106 ny_M_build : Cond) ∈ nw_T := nw_in (i := 501) (by decide +kernel) (by decide +kernel)
theorem nh_im_M_build : (.instanceMethod ny_M_build : Cond) ∈ nw_T := nw_in (i := 502) (by decide +kernel) (by decide +kernel)
theorem nh_se_M_build : (.selects "RadixShelfModel" ny_M_build ny_M_build : Cond) ∈ nw_T := nw_in (i := 503) (by decide +kernel) (by decide +kernel)
theorem nh_co_M_build : (.code ny_M_build nb_M_build 6 (some FieldType.int) : Cond) ∈ nw_T := nw_in (i := 504) (by decide +kernel) (by decide +kernel)
theorem nh_ml_L_109 : (.methodLink "RadixShelfLaw" 109 ny_M_freeze : Cond) ∈ nw_T := nw_in (i := 505) (by decide +kernel) (by decide +kernel)
theorem nh_im_M_freeze : (.instanceMethod ny_M_freeze : Cond) ∈ nw_T := nw_in (i := 506) (by decide +kernel) (by decide +kernel)
theorem nh_se_M_freeze : (.selects "RadixShelfModel" ny_M_freeze ny_M_freeze : Cond) ∈ nw_T := nw_in (i := 507) (by decide +kernel) (by decide +kernel)
theorem nh_co_M_freeze : (.code ny_M_freeze nb_M_freeze 2 (some FieldType.int) : Cond) ∈ nw_T := nw_in (i := 508) (by decide +kernel) (by decide +kernel)
theorem nh_kl_L_62 : (.constantLong "RadixShelfLaw" 62 4294967295 : Cond) ∈ nw_T := nw_in (i := 509) (by decide +kernel) (by decide +kernel)
theorem nu_B : ∀ w ∈ u_ws nR_B nT_B 2, w ∈ nw_T := fun w hw => by
  have h : (u_ws nR_B nT_B 2).all (fun w => decide (w ∈ lw_tbl) && goodWord w) = true := by decide +kernel
  have h1 := List.all_eq_true.mp h w hw
  simp only [Bool.and_eq_true, decide_eq_true_eq] at h1
  exact List.mem_filter.mpr h1
theorem nu_F : ∀ w ∈ u_ws nR_F nT_F 2, w ∈ nw_T := fun w hw => by
  have h : (u_ws nR_F nT_F 2).all (fun w => decide (w ∈ lw_tbl) && goodWord w) = true := by decide +kernel
  have h1 := List.all_eq_true.mp h w hw
  simp only [Bool.and_eq_true, decide_eq_true_eq] at h1
  exact List.mem_filter.mpr h1
theorem nu_R : ∀ w ∈ u_ws nR_R nT_R 2, w ∈ nw_T := fun w hw => by
  have h : (u_ws nR_R nT_R 2).all (fun w => decide (w ∈ lw_tbl) && goodWord w) = true := by decide +kernel
  have h1 := List.all_eq_true.mp h w hw
  simp only [Bool.and_eq_true, decide_eq_true_eq] at h1
  exact List.mem_filter.mpr h1
theorem nu_Q : ∀ w ∈ u_ws nR_Q nT_Q 5, w ∈ nw_T := fun w hw => by
  have h : (u_ws nR_Q nT_Q 5).all (fun w => decide (w ∈ lw_tbl) && goodWord w) = true := by decide +kernel
  have h1 := List.all_eq_true.mp h w hw
  simp only [Bool.and_eq_true, decide_eq_true_eq] at h1
  exact List.mem_filter.mpr h1
theorem nu_S : ∀ w ∈ u_ws nR_S nT_S 4, w ∈ nw_T := fun w hw => by
  have h : (u_ws nR_S nT_S 4).all (fun w => decide (w ∈ lw_tbl) && goodWord w) = true := by decide +kernel
  have h1 := List.all_eq_true.mp h w hw
  simp only [Bool.and_eq_true, decide_eq_true_eq] at h1
  exact List.mem_filter.mpr h1
theorem nu_M : ∀ w ∈ u_ws nR_M nT_M 4, w ∈ nw_T := fun w hw => by
  have h : (u_ws nR_M nT_M 4).all (fun w => decide (w ∈ lw_tbl) && goodWord w) = true := by decide +kernel
  have h1 := List.all_eq_true.mp h w hw
  simp only [Bool.and_eq_true, decide_eq_true_eq] at h1
  exact List.mem_filter.mpr h1
end
section
theorem nd_S_init_0 : decode nb_S_init 0 = .ok (.aload_n 0, 1) := by decide +kernel
theorem nd_S_init_1 : decode nb_S_init 1 = .ok (.invokespecial 3, 3) := by decide +kernel
theorem nd_S_init_4 : decode nb_S_init 4 = .ok (.aload_n 0, 1) := by decide +kernel
theorem nd_S_init_5 : decode nb_S_init 5 = .ok (.invokestatic 9, 3) := by decide +kernel
theorem nd_S_init_8 : decode nb_S_init 8 = .ok (.putfield 13, 3) := by decide +kernel
theorem nd_S_init_11 : decode nb_S_init 11 = .ok (.aload_n 0, 1) := by decide +kernel
theorem nd_S_init_12 : decode nb_S_init 12 = .ok (.bipush 16, 2) := by decide +kernel
theorem nd_S_init_14 : decode nb_S_init 14 = .ok (.anewarray 17, 3) := by decide +kernel
theorem nd_S_init_17 : decode nb_S_init 17 = .ok (.putfield 19, 3) := by decide +kernel
theorem nd_S_init_20 : decode nb_S_init 20 = .ok (.iconst 0, 1) := by decide +kernel
theorem nd_S_init_21 : decode nb_S_init 21 = .ok (.istore_n 1, 1) := by decide +kernel
theorem nd_S_init_22 : decode nb_S_init 22 = .ok (.iload_n 1, 1) := by decide +kernel
theorem nd_S_init_23 : decode nb_S_init 23 = .ok (.bipush 16, 2) := by decide +kernel
theorem nd_S_init_25 : decode nb_S_init 25 = .ok (.if_icmp .ge 19, 3) := by decide +kernel
theorem nd_S_init_28 : decode nb_S_init 28 = .ok (.aload_n 0, 1) := by decide +kernel
theorem nd_S_init_29 : decode nb_S_init 29 = .ok (.getfield 19, 3) := by decide +kernel
theorem nd_S_init_32 : decode nb_S_init 32 = .ok (.iload_n 1, 1) := by decide +kernel
theorem nd_S_init_33 : decode nb_S_init 33 = .ok (.aload_n 0, 1) := by decide +kernel
theorem nd_S_init_34 : decode nb_S_init 34 = .ok (.getfield 13, 3) := by decide +kernel
theorem nd_S_init_37 : decode nb_S_init 37 = .ok (.aastore, 1) := by decide +kernel
theorem nd_S_init_38 : decode nb_S_init 38 = .ok (.iinc 1 1, 3) := by decide +kernel
theorem nd_S_init_41 : decode nb_S_init 41 = .ok (.goto (-19), 3) := by decide +kernel
theorem nd_S_init_44 : decode nb_S_init 44 = .ok (.aload_n 0, 1) := by decide +kernel
theorem nd_S_init_45 : decode nb_S_init 45 = .ok (.aconst_null, 1) := by decide +kernel
theorem nd_S_init_46 : decode nb_S_init 46 = .ok (.putfield 23, 3) := by decide +kernel
theorem nd_S_init_49 : decode nb_S_init 49 = .ok (.aload_n 0, 1) := by decide +kernel
theorem nd_S_init_50 : decode nb_S_init 50 = .ok (.iconst 0, 1) := by decide +kernel
theorem nd_S_init_51 : decode nb_S_init 51 = .ok (.putfield 26, 3) := by decide +kernel
theorem nd_S_init_54 : decode nb_S_init 54 = .ok (.return_, 1) := by decide +kernel
theorem nd_S_blankSequence_0 : decode nb_S_blankSequence 0 = .ok (.new 122, 3) := by decide +kernel
theorem nd_S_blankSequence_3 : decode nb_S_blankSequence 3 = .ok (.dup, 1) := by decide +kernel
theorem nd_S_blankSequence_4 : decode nb_S_blankSequence 4 = .ok (.iconst 0, 1) := by decide +kernel
theorem nd_S_blankSequence_5 : decode nb_S_blankSequence 5 = .ok (.bipush 32, 2) := by decide +kernel
theorem nd_S_blankSequence_7 : decode nb_S_blankSequence 7 = .ok (.newarray .long, 2) := by decide +kernel
theorem nd_S_blankSequence_9 : decode nb_S_blankSequence 9 = .ok (.invokespecial 124, 3) := by decide +kernel
theorem nd_S_blankSequence_12 : decode nb_S_blankSequence 12 = .ok (.astore_n 0, 1) := by decide +kernel
theorem nd_S_blankSequence_13 : decode nb_S_blankSequence 13 = .ok (.bipush 32, 2) := by decide +kernel
theorem nd_S_blankSequence_15 : decode nb_S_blankSequence 15 = .ok (.anewarray 122, 3) := by decide +kernel
theorem nd_S_blankSequence_18 : decode nb_S_blankSequence 18 = .ok (.astore_n 1, 1) := by decide +kernel
theorem nd_S_blankSequence_19 : decode nb_S_blankSequence 19 = .ok (.iconst 0, 1) := by decide +kernel
theorem nd_S_blankSequence_20 : decode nb_S_blankSequence 20 = .ok (.istore_n 2, 1) := by decide +kernel
theorem nd_S_blankSequence_21 : decode nb_S_blankSequence 21 = .ok (.iload_n 2, 1) := by decide +kernel
theorem nd_S_blankSequence_22 : decode nb_S_blankSequence 22 = .ok (.bipush 32, 2) := by decide +kernel
theorem nd_S_blankSequence_24 : decode nb_S_blankSequence 24 = .ok (.if_icmp .ge 13, 3) := by decide +kernel
theorem nd_S_blankSequence_27 : decode nb_S_blankSequence 27 = .ok (.aload_n 1, 1) := by decide +kernel
theorem nd_S_blankSequence_28 : decode nb_S_blankSequence 28 = .ok (.iload_n 2, 1) := by decide +kernel
theorem nd_S_blankSequence_29 : decode nb_S_blankSequence 29 = .ok (.aload_n 0, 1) := by decide +kernel
theorem nd_S_blankSequence_30 : decode nb_S_blankSequence 30 = .ok (.aastore, 1) := by decide +kernel
theorem nd_S_blankSequence_31 : decode nb_S_blankSequence 31 = .ok (.iinc 2 1, 3) := by decide +kernel
theorem nd_S_blankSequence_34 : decode nb_S_blankSequence 34 = .ok (.goto (-13), 3) := by decide +kernel
theorem nd_S_blankSequence_37 : decode nb_S_blankSequence 37 = .ok (.new 127, 3) := by decide +kernel
theorem nd_S_blankSequence_40 : decode nb_S_blankSequence 40 = .ok (.dup, 1) := by decide +kernel
theorem nd_S_blankSequence_41 : decode nb_S_blankSequence 41 = .ok (.iconst 0, 1) := by decide +kernel
theorem nd_S_blankSequence_42 : decode nb_S_blankSequence 42 = .ok (.aload_n 1, 1) := by decide +kernel
theorem nd_S_blankSequence_43 : decode nb_S_blankSequence 43 = .ok (.invokespecial 129, 3) := by decide +kernel
theorem nd_S_blankSequence_46 : decode nb_S_blankSequence 46 = .ok (.astore_n 2, 1) := by decide +kernel
theorem nd_S_blankSequence_47 : decode nb_S_blankSequence 47 = .ok (.bipush 32, 2) := by decide +kernel
theorem nd_S_blankSequence_49 : decode nb_S_blankSequence 49 = .ok (.anewarray 127, 3) := by decide +kernel
theorem nd_S_blankSequence_52 : decode nb_S_blankSequence 52 = .ok (.astore_n 3, 1) := by decide +kernel
theorem nd_S_blankSequence_53 : decode nb_S_blankSequence 53 = .ok (.iconst 0, 1) := by decide +kernel
theorem nd_S_blankSequence_54 : decode nb_S_blankSequence 54 = .ok (.istore 4, 2) := by decide +kernel
theorem nd_S_blankSequence_56 : decode nb_S_blankSequence 56 = .ok (.iload 4, 2) := by decide +kernel
theorem nd_S_blankSequence_58 : decode nb_S_blankSequence 58 = .ok (.bipush 32, 2) := by decide +kernel
theorem nd_S_blankSequence_60 : decode nb_S_blankSequence 60 = .ok (.if_icmp .ge 14, 3) := by decide +kernel
theorem nd_S_blankSequence_63 : decode nb_S_blankSequence 63 = .ok (.aload_n 3, 1) := by decide +kernel
theorem nd_S_blankSequence_64 : decode nb_S_blankSequence 64 = .ok (.iload 4, 2) := by decide +kernel
theorem nd_S_blankSequence_66 : decode nb_S_blankSequence 66 = .ok (.aload_n 2, 1) := by decide +kernel
theorem nd_S_blankSequence_67 : decode nb_S_blankSequence 67 = .ok (.aastore, 1) := by decide +kernel
theorem nd_S_blankSequence_68 : decode nb_S_blankSequence 68 = .ok (.iinc 4 1, 3) := by decide +kernel
theorem nd_S_blankSequence_71 : decode nb_S_blankSequence 71 = .ok (.goto (-15), 3) := by decide +kernel
theorem nd_S_blankSequence_74 : decode nb_S_blankSequence 74 = .ok (.new 17, 3) := by decide +kernel
theorem nd_S_blankSequence_77 : decode nb_S_blankSequence 77 = .ok (.dup, 1) := by decide +kernel
theorem nd_S_blankSequence_78 : decode nb_S_blankSequence 78 = .ok (.iconst 0, 1) := by decide +kernel
theorem nd_S_blankSequence_79 : decode nb_S_blankSequence 79 = .ok (.new 132, 3) := by decide +kernel
theorem nd_S_blankSequence_82 : decode nb_S_blankSequence 82 = .ok (.dup, 1) := by decide +kernel
theorem nd_S_blankSequence_83 : decode nb_S_blankSequence 83 = .ok (.iconst 0, 1) := by decide +kernel
theorem nd_S_blankSequence_84 : decode nb_S_blankSequence 84 = .ok (.aload_n 3, 1) := by decide +kernel
theorem nd_S_blankSequence_85 : decode nb_S_blankSequence 85 = .ok (.invokespecial 134, 3) := by decide +kernel
theorem nd_S_blankSequence_88 : decode nb_S_blankSequence 88 = .ok (.aload_n 0, 1) := by decide +kernel
theorem nd_S_blankSequence_89 : decode nb_S_blankSequence 89 = .ok (.iconst 0, 1) := by decide +kernel
theorem nd_S_blankSequence_90 : decode nb_S_blankSequence 90 = .ok (.iconst 0, 1) := by decide +kernel
theorem nd_S_blankSequence_91 : decode nb_S_blankSequence 91 = .ok (.invokespecial 105, 3) := by decide +kernel
theorem nd_S_blankSequence_94 : decode nb_S_blankSequence 94 = .ok (.areturn, 1) := by decide +kernel
theorem nd_F_init_0 : decode nb_F_init 0 = .ok (.aload_n 0, 1) := by decide +kernel
theorem nd_F_init_1 : decode nb_F_init 1 = .ok (.invokespecial 1, 3) := by decide +kernel
theorem nd_F_init_4 : decode nb_F_init 4 = .ok (.aload_n 0, 1) := by decide +kernel
theorem nd_F_init_5 : decode nb_F_init 5 = .ok (.iload_n 1, 1) := by decide +kernel
theorem nd_F_init_6 : decode nb_F_init 6 = .ok (.putfield 7, 3) := by decide +kernel
theorem nd_F_init_9 : decode nb_F_init 9 = .ok (.aload_n 0, 1) := by decide +kernel
theorem nd_F_init_10 : decode nb_F_init 10 = .ok (.aload_n 2, 1) := by decide +kernel
theorem nd_F_init_11 : decode nb_F_init 11 = .ok (.putfield 13, 3) := by decide +kernel
theorem nd_F_init_14 : decode nb_F_init 14 = .ok (.return_, 1) := by decide +kernel
theorem nd_B_init_0 : decode nb_B_init 0 = .ok (.aload_n 0, 1) := by decide +kernel
theorem nd_B_init_1 : decode nb_B_init 1 = .ok (.invokespecial 1, 3) := by decide +kernel
theorem nd_B_init_4 : decode nb_B_init 4 = .ok (.aload_n 0, 1) := by decide +kernel
theorem nd_B_init_5 : decode nb_B_init 5 = .ok (.iload_n 1, 1) := by decide +kernel
theorem nd_B_init_6 : decode nb_B_init 6 = .ok (.putfield 7, 3) := by decide +kernel
theorem nd_B_init_9 : decode nb_B_init 9 = .ok (.aload_n 0, 1) := by decide +kernel
theorem nd_B_init_10 : decode nb_B_init 10 = .ok (.aload_n 2, 1) := by decide +kernel
theorem nd_B_init_11 : decode nb_B_init 11 = .ok (.putfield 13, 3) := by decide +kernel
theorem nd_B_init_14 : decode nb_B_init 14 = .ok (.return_, 1) := by decide +kernel
theorem nd_R_init_0 : decode nb_R_init 0 = .ok (.aload_n 0, 1) := by decide +kernel
theorem nd_R_init_1 : decode nb_R_init 1 = .ok (.invokespecial 3, 3) := by decide +kernel
theorem nd_R_init_4 : decode nb_R_init 4 = .ok (.aload_n 0, 1) := by decide +kernel
theorem nd_R_init_5 : decode nb_R_init 5 = .ok (.iload_n 1, 1) := by decide +kernel
theorem nd_R_init_6 : decode nb_R_init 6 = .ok (.putfield 9, 3) := by decide +kernel
theorem nd_R_init_9 : decode nb_R_init 9 = .ok (.aload_n 0, 1) := by decide +kernel
theorem nd_R_init_10 : decode nb_R_init 10 = .ok (.aload_n 2, 1) := by decide +kernel
theorem nd_R_init_11 : decode nb_R_init 11 = .ok (.putfield 15, 3) := by decide +kernel
theorem nd_R_init_14 : decode nb_R_init 14 = .ok (.return_, 1) := by decide +kernel
theorem nd_Q_init_0 : decode nb_Q_init 0 = .ok (.aload_n 0, 1) := by decide +kernel
theorem nd_Q_init_1 : decode nb_Q_init 1 = .ok (.invokespecial 3, 3) := by decide +kernel
theorem nd_Q_init_4 : decode nb_Q_init 4 = .ok (.aload_n 0, 1) := by decide +kernel
theorem nd_Q_init_5 : decode nb_Q_init 5 = .ok (.iload_n 1, 1) := by decide +kernel
theorem nd_Q_init_6 : decode nb_Q_init 6 = .ok (.putfield 9, 3) := by decide +kernel
theorem nd_Q_init_9 : decode nb_Q_init 9 = .ok (.aload_n 0, 1) := by decide +kernel
theorem nd_Q_init_10 : decode nb_Q_init 10 = .ok (.aload_n 2, 1) := by decide +kernel
theorem nd_Q_init_11 : decode nb_Q_init 11 = .ok (.putfield 15, 3) := by decide +kernel
theorem nd_Q_init_14 : decode nb_Q_init 14 = .ok (.aload_n 0, 1) := by decide +kernel
theorem nd_Q_init_15 : decode nb_Q_init 15 = .ok (.aload_n 3, 1) := by decide +kernel
theorem nd_Q_init_16 : decode nb_Q_init 16 = .ok (.putfield 19, 3) := by decide +kernel
theorem nd_Q_init_19 : decode nb_Q_init 19 = .ok (.aload_n 0, 1) := by decide +kernel
theorem nd_Q_init_20 : decode nb_Q_init 20 = .ok (.iload 4, 2) := by decide +kernel
theorem nd_Q_init_22 : decode nb_Q_init 22 = .ok (.putfield 23, 3) := by decide +kernel
theorem nd_Q_init_25 : decode nb_Q_init 25 = .ok (.aload_n 0, 1) := by decide +kernel
theorem nd_Q_init_26 : decode nb_Q_init 26 = .ok (.iload 5, 2) := by decide +kernel
theorem nd_Q_init_28 : decode nb_Q_init 28 = .ok (.putfield 26, 3) := by decide +kernel
theorem nd_Q_init_31 : decode nb_Q_init 31 = .ok (.return_, 1) := by decide +kernel
theorem nd_L_add_0 : decode nb_L_add 0 = .ok (.aload 5, 2) := by decide +kernel
theorem nd_L_add_2 : decode nb_L_add 2 = .ok (.iconst 0, 1) := by decide +kernel
theorem nd_L_add_3 : decode nb_L_add 3 = .ok (.aload_n 0, 1) := by decide +kernel
theorem nd_L_add_4 : decode nb_L_add 4 = .ok (.iload_n 1, 1) := by decide +kernel
theorem nd_L_add_5 : decode nb_L_add 5 = .ok (.iload_n 2, 1) := by decide +kernel
theorem nd_L_add_6 : decode nb_L_add 6 = .ok (.lload_n 3, 1) := by decide +kernel
theorem nd_L_add_7 : decode nb_L_add 7 = .ok (.invokevirtual 7, 3) := by decide +kernel
theorem nd_L_add_10 : decode nb_L_add 10 = .ok (.i2l, 1) := by decide +kernel
theorem nd_L_add_11 : decode nb_L_add 11 = .ok (.lastore, 1) := by decide +kernel
theorem nd_L_add_12 : decode nb_L_add 12 = .ok (.goto 11, 3) := by decide +kernel
theorem nd_L_add_15 : decode nb_L_add 15 = .ok (.astore 6, 2) := by decide +kernel
theorem nd_L_add_17 : decode nb_L_add 17 = .ok (.iconst 1, 1) := by decide +kernel
theorem nd_L_add_18 : decode nb_L_add 18 = .ok (.ireturn, 1) := by decide +kernel
theorem nd_L_add_19 : decode nb_L_add 19 = .ok (.astore 6, 2) := by decide +kernel
theorem nd_L_add_21 : decode nb_L_add 21 = .ok (.iconst 2, 1) := by decide +kernel
theorem nd_L_add_22 : decode nb_L_add 22 = .ok (.ireturn, 1) := by decide +kernel
theorem nd_L_add_23 : decode nb_L_add 23 = .ok (.iconst 0, 1) := by decide +kernel
theorem nd_L_add_24 : decode nb_L_add 24 = .ok (.ireturn, 1) := by decide +kernel
theorem nd_S_add_0 : decode nb_S_add 0 = .ok (.iload_n 1, 1) := by decide +kernel
theorem nd_S_add_1 : decode nb_S_add 1 = .ok (.invokestatic 30, 3) := by decide +kernel
theorem nd_S_add_4 : decode nb_S_add 4 = .ok (.iload_n 2, 1) := by decide +kernel
theorem nd_S_add_5 : decode nb_S_add 5 = .ok (.invokestatic 30, 3) := by decide +kernel
theorem nd_S_add_8 : decode nb_S_add 8 = .ok (.aload_n 0, 1) := by decide +kernel
theorem nd_S_add_9 : decode nb_S_add 9 = .ok (.getfield 19, 3) := by decide +kernel
theorem nd_S_add_12 : decode nb_S_add 12 = .ok (.iload_n 2, 1) := by decide +kernel
theorem nd_S_add_13 : decode nb_S_add 13 = .ok (.aaload, 1) := by decide +kernel
theorem nd_S_add_14 : decode nb_S_add 14 = .ok (.invokestatic 34, 3) := by decide +kernel
theorem nd_S_add_17 : decode nb_S_add 17 = .ok (.aload_n 0, 1) := by decide +kernel
theorem nd_S_add_18 : decode nb_S_add 18 = .ok (.aload_n 0, 1) := by decide +kernel
theorem nd_S_add_19 : decode nb_S_add 19 = .ok (.getfield 19, 3) := by decide +kernel
theorem nd_S_add_22 : decode nb_S_add 22 = .ok (.iload_n 2, 1) := by decide +kernel
theorem nd_S_add_23 : decode nb_S_add 23 = .ok (.aaload, 1) := by decide +kernel
theorem nd_S_add_24 : decode nb_S_add 24 = .ok (.invokevirtual 38, 3) := by decide +kernel
theorem nd_S_add_27 : decode nb_S_add 27 = .ok (.astore 5, 2) := by decide +kernel
theorem nd_S_add_29 : decode nb_S_add 29 = .ok (.aload 5, 2) := by decide +kernel
theorem nd_S_add_31 : decode nb_S_add 31 = .ok (.lload_n 3, 1) := by decide +kernel
theorem nd_S_add_32 : decode nb_S_add 32 = .ok (.invokevirtual 42, 3) := by decide +kernel
theorem nd_S_add_35 : decode nb_S_add 35 = .ok (.aload_n 0, 1) := by decide +kernel
theorem nd_S_add_36 : decode nb_S_add 36 = .ok (.getfield 19, 3) := by decide +kernel
theorem nd_S_add_39 : decode nb_S_add 39 = .ok (.iload_n 1, 1) := by decide +kernel
theorem nd_S_add_40 : decode nb_S_add 40 = .ok (.aload 5, 2) := by decide +kernel
theorem nd_S_add_42 : decode nb_S_add 42 = .ok (.aastore, 1) := by decide +kernel
theorem nd_S_add_43 : decode nb_S_add 43 = .ok (.aload 5, 2) := by decide +kernel
theorem nd_S_add_45 : decode nb_S_add 45 = .ok (.getfield 46, 3) := by decide +kernel
theorem nd_S_add_48 : decode nb_S_add 48 = .ok (.ireturn, 1) := by decide +kernel
theorem nd_S_checkSlot_0 : decode nb_S_checkSlot 0 = .ok (.iload_n 0, 1) := by decide +kernel
theorem nd_S_checkSlot_1 : decode nb_S_checkSlot 1 = .ok (.iconst 0, 1) := by decide +kernel
theorem nd_S_checkSlot_2 : decode nb_S_checkSlot 2 = .ok (.bipush 15, 2) := by decide +kernel
theorem nd_S_checkSlot_4 : decode nb_S_checkSlot 4 = .ok (.invokestatic 78, 3) := by decide +kernel
theorem nd_S_checkSlot_7 : decode nb_S_checkSlot 7 = .ok (.return_, 1) := by decide +kernel
theorem nd_S_checkRange_0 : decode nb_S_checkRange 0 = .ok (.iload_n 0, 1) := by decide +kernel
theorem nd_S_checkRange_1 : decode nb_S_checkRange 1 = .ok (.iload_n 1, 1) := by decide +kernel
theorem nd_S_checkRange_2 : decode nb_S_checkRange 2 = .ok (.if_icmp .lt 8, 3) := by decide +kernel
theorem nd_S_checkRange_5 : decode nb_S_checkRange 5 = .ok (.iload_n 0, 1) := by decide +kernel
theorem nd_S_checkRange_6 : decode nb_S_checkRange 6 = .ok (.iload_n 2, 1) := by decide +kernel
theorem nd_S_checkRange_7 : decode nb_S_checkRange 7 = .ok (.if_icmp .le 13, 3) := by decide +kernel
theorem nd_S_checkRange_10 : decode nb_S_checkRange 10 = .ok (.new 108, 3) := by decide +kernel
theorem nd_S_checkRange_13 : decode nb_S_checkRange 13 = .ok (.dup, 1) := by decide +kernel
theorem nd_S_checkRange_14 : decode nb_S_checkRange 14 = .ok (.ldc 110, 2) := by decide +kernel
theorem nd_S_checkRange_16 : decode nb_S_checkRange 16 = .ok (.invokespecial 112, 3) := by decide +kernel
theorem nd_S_checkRange_19 : decode nb_S_checkRange 19 = .ok (.athrow, 1) := by decide +kernel
theorem nd_S_checkRange_20 : decode nb_S_checkRange 20 = .ok (.return_, 1) := by decide +kernel
theorem nd_S_checkRoom_0 : decode nb_S_checkRoom 0 = .ok (.aload_n 0, 1) := by decide +kernel
theorem nd_S_checkRoom_1 : decode nb_S_checkRoom 1 = .ok (.getfield 46, 3) := by decide +kernel
theorem nd_S_checkRoom_4 : decode nb_S_checkRoom 4 = .ok (.sipush 3000, 3) := by decide +kernel
theorem nd_S_checkRoom_7 : decode nb_S_checkRoom 7 = .ok (.if_icmp .lt 13, 3) := by decide +kernel
theorem nd_S_checkRoom_10 : decode nb_S_checkRoom 10 = .ok (.new 117, 3) := by decide +kernel
theorem nd_S_checkRoom_13 : decode nb_S_checkRoom 13 = .ok (.dup, 1) := by decide +kernel
theorem nd_S_checkRoom_14 : decode nb_S_checkRoom 14 = .ok (.ldc 119, 2) := by decide +kernel
theorem nd_S_checkRoom_16 : decode nb_S_checkRoom 16 = .ok (.invokespecial 121, 3) := by decide +kernel
theorem nd_S_checkRoom_19 : decode nb_S_checkRoom 19 = .ok (.athrow, 1) := by decide +kernel
theorem nd_S_checkRoom_20 : decode nb_S_checkRoom 20 = .ok (.return_, 1) := by decide +kernel
theorem nd_S_draftOf_0 : decode nb_S_draftOf 0 = .ok (.aload_n 0, 1) := by decide +kernel
theorem nd_S_draftOf_1 : decode nb_S_draftOf 1 = .ok (.dup, 1) := by decide +kernel
theorem nd_S_draftOf_2 : decode nb_S_draftOf 2 = .ok (.getfield 26, 3) := by decide +kernel
theorem nd_S_draftOf_5 : decode nb_S_draftOf 5 = .ok (.iconst 1, 1) := by decide +kernel
theorem nd_S_draftOf_6 : decode nb_S_draftOf 6 = .ok (.iadd, 1) := by decide +kernel
theorem nd_S_draftOf_7 : decode nb_S_draftOf 7 = .ok (.putfield 26, 3) := by decide +kernel
theorem nd_S_draftOf_10 : decode nb_S_draftOf 10 = .ok (.new 17, 3) := by decide +kernel
theorem nd_S_draftOf_13 : decode nb_S_draftOf 13 = .ok (.dup, 1) := by decide +kernel
theorem nd_S_draftOf_14 : decode nb_S_draftOf 14 = .ok (.aload_n 0, 1) := by decide +kernel
theorem nd_S_draftOf_15 : decode nb_S_draftOf 15 = .ok (.getfield 26, 3) := by decide +kernel
theorem nd_S_draftOf_18 : decode nb_S_draftOf 18 = .ok (.aload_n 1, 1) := by decide +kernel
theorem nd_S_draftOf_19 : decode nb_S_draftOf 19 = .ok (.getfield 94, 3) := by decide +kernel
theorem nd_S_draftOf_22 : decode nb_S_draftOf 22 = .ok (.aload_n 1, 1) := by decide +kernel
theorem nd_S_draftOf_23 : decode nb_S_draftOf 23 = .ok (.getfield 98, 3) := by decide +kernel
theorem nd_S_draftOf_26 : decode nb_S_draftOf 26 = .ok (.aload_n 1, 1) := by decide +kernel
theorem nd_S_draftOf_27 : decode nb_S_draftOf 27 = .ok (.getfield 102, 3) := by decide +kernel
theorem nd_S_draftOf_30 : decode nb_S_draftOf 30 = .ok (.aload_n 1, 1) := by decide +kernel
theorem nd_S_draftOf_31 : decode nb_S_draftOf 31 = .ok (.getfield 46, 3) := by decide +kernel
theorem nd_S_draftOf_34 : decode nb_S_draftOf 34 = .ok (.invokespecial 105, 3) := by decide +kernel
theorem nd_S_draftOf_37 : decode nb_S_draftOf 37 = .ok (.areturn, 1) := by decide +kernel
theorem nd_Q_append_0 : decode nb_Q_append 0 = .ok (.aload_n 0, 1) := by decide +kernel
theorem nd_Q_append_1 : decode nb_Q_append 1 = .ok (.aload_n 0, 1) := by decide +kernel
theorem nd_Q_append_2 : decode nb_Q_append 2 = .ok (.getfield 26, 3) := by decide +kernel
theorem nd_Q_append_5 : decode nb_Q_append 5 = .ok (.invokevirtual 29, 3) := by decide +kernel
theorem nd_Q_append_8 : decode nb_Q_append 8 = .ok (.istore_n 3, 1) := by decide +kernel
theorem nd_Q_append_9 : decode nb_Q_append 9 = .ok (.iload_n 3, 1) := by decide +kernel
theorem nd_Q_append_10 : decode nb_Q_append 10 = .ok (.iconst 5, 1) := by decide +kernel
theorem nd_Q_append_11 : decode nb_Q_append 11 = .ok (.iushr, 1) := by decide +kernel
theorem nd_Q_append_12 : decode nb_Q_append 12 = .ok (.istore 4, 2) := by decide +kernel
theorem nd_Q_append_14 : decode nb_Q_append 14 = .ok (.aload_n 0, 1) := by decide +kernel
theorem nd_Q_append_15 : decode nb_Q_append 15 = .ok (.invokevirtual 43, 3) := by decide +kernel
theorem nd_Q_append_18 : decode nb_Q_append 18 = .ok (.istore 5, 2) := by decide +kernel
theorem nd_Q_append_20 : decode nb_Q_append 20 = .ok (.aload_n 0, 1) := by decide +kernel
theorem nd_Q_append_21 : decode nb_Q_append 21 = .ok (.dup, 1) := by decide +kernel
theorem nd_Q_append_22 : decode nb_Q_append 22 = .ok (.getfield 26, 3) := by decide +kernel
theorem nd_Q_append_25 : decode nb_Q_append 25 = .ok (.iconst 1, 1) := by decide +kernel
theorem nd_Q_append_26 : decode nb_Q_append 26 = .ok (.iadd, 1) := by decide +kernel
theorem nd_Q_append_27 : decode nb_Q_append 27 = .ok (.putfield 26, 3) := by decide +kernel
theorem nd_Q_append_30 : decode nb_Q_append 30 = .ok (.iload 4, 2) := by decide +kernel
theorem nd_Q_append_32 : decode nb_Q_append 32 = .ok (.iload 5, 2) := by decide +kernel
theorem nd_Q_append_34 : decode nb_Q_append 34 = .ok (.if_icmp .eq 26, 3) := by decide +kernel
theorem nd_Q_append_37 : decode nb_Q_append 37 = .ok (.aload_n 0, 1) := by decide +kernel
theorem nd_Q_append_38 : decode nb_Q_append 38 = .ok (.iload 5, 2) := by decide +kernel
theorem nd_Q_append_40 : decode nb_Q_append 40 = .ok (.aload_n 0, 1) := by decide +kernel
theorem nd_Q_append_41 : decode nb_Q_append 41 = .ok (.getfield 19, 3) := by decide +kernel
theorem nd_Q_append_44 : decode nb_Q_append 44 = .ok (.invokevirtual 47, 3) := by decide +kernel
theorem nd_Q_append_47 : decode nb_Q_append 47 = .ok (.aload_n 0, 1) := by decide +kernel
theorem nd_Q_append_48 : decode nb_Q_append 48 = .ok (.aload_n 0, 1) := by decide +kernel
theorem nd_Q_append_49 : decode nb_Q_append 49 = .ok (.getfield 15, 3) := by decide +kernel
theorem nd_Q_append_52 : decode nb_Q_append 52 = .ok (.iload 4, 2) := by decide +kernel
theorem nd_Q_append_54 : decode nb_Q_append 54 = .ok (.invokevirtual 51, 3) := by decide +kernel
theorem nd_Q_append_57 : decode nb_Q_append 57 = .ok (.putfield 19, 3) := by decide +kernel
theorem nd_Q_append_60 : decode nb_Q_append 60 = .ok (.aload_n 0, 1) := by decide +kernel
theorem nd_Q_append_61 : decode nb_Q_append 61 = .ok (.iload_n 3, 1) := by decide +kernel
theorem nd_Q_append_62 : decode nb_Q_append 62 = .ok (.lload_n 1, 1) := by decide +kernel
theorem nd_Q_append_63 : decode nb_Q_append 63 = .ok (.invokevirtual 54, 3) := by decide +kernel
theorem nd_Q_append_66 : decode nb_Q_append 66 = .ok (.return_, 1) := by decide +kernel
theorem nd_Q_position_0 : decode nb_Q_position 0 = .ok (.aload_n 0, 1) := by decide +kernel
theorem nd_Q_position_1 : decode nb_Q_position 1 = .ok (.getfield 23, 3) := by decide +kernel
theorem nd_Q_position_4 : decode nb_Q_position 4 = .ok (.iload_n 1, 1) := by decide +kernel
theorem nd_Q_position_5 : decode nb_Q_position 5 = .ok (.iadd, 1) := by decide +kernel
theorem nd_Q_position_6 : decode nb_Q_position 6 = .ok (.sipush 32767, 3) := by decide +kernel
theorem nd_Q_position_9 : decode nb_Q_position 9 = .ok (.iand, 1) := by decide +kernel
theorem nd_Q_position_10 : decode nb_Q_position 10 = .ok (.ireturn, 1) := by decide +kernel
theorem nd_Q_tailBlock_0 : decode nb_Q_tailBlock 0 = .ok (.aload_n 0, 1) := by decide +kernel
theorem nd_Q_tailBlock_1 : decode nb_Q_tailBlock 1 = .ok (.aload_n 0, 1) := by decide +kernel
theorem nd_Q_tailBlock_2 : decode nb_Q_tailBlock 2 = .ok (.getfield 26, 3) := by decide +kernel
theorem nd_Q_tailBlock_5 : decode nb_Q_tailBlock 5 = .ok (.iconst 1, 1) := by decide +kernel
theorem nd_Q_tailBlock_6 : decode nb_Q_tailBlock 6 = .ok (.isub, 1) := by decide +kernel
theorem nd_Q_tailBlock_7 : decode nb_Q_tailBlock 7 = .ok (.invokevirtual 29, 3) := by decide +kernel
theorem nd_Q_tailBlock_10 : decode nb_Q_tailBlock 10 = .ok (.iconst 5, 1) := by decide +kernel
theorem nd_Q_tailBlock_11 : decode nb_Q_tailBlock 11 = .ok (.iushr, 1) := by decide +kernel
theorem nd_Q_tailBlock_12 : decode nb_Q_tailBlock 12 = .ok (.ireturn, 1) := by decide +kernel
theorem nd_Q_hang_0 : decode nb_Q_hang 0 = .ok (.aload_n 0, 1) := by decide +kernel
theorem nd_Q_hang_1 : decode nb_Q_hang 1 = .ok (.aload_n 0, 1) := by decide +kernel
theorem nd_Q_hang_2 : decode nb_Q_hang 2 = .ok (.getfield 15, 3) := by decide +kernel
theorem nd_Q_hang_5 : decode nb_Q_hang 5 = .ok (.aload_n 0, 1) := by decide +kernel
theorem nd_Q_hang_6 : decode nb_Q_hang 6 = .ok (.getfield 9, 3) := by decide +kernel
theorem nd_Q_hang_9 : decode nb_Q_hang 9 = .ok (.invokevirtual 61, 3) := by decide +kernel
theorem nd_Q_hang_12 : decode nb_Q_hang 12 = .ok (.putfield 15, 3) := by decide +kernel
theorem nd_Q_hang_15 : decode nb_Q_hang 15 = .ok (.aload_n 0, 1) := by decide +kernel
theorem nd_Q_hang_16 : decode nb_Q_hang 16 = .ok (.getfield 15, 3) := by decide +kernel
theorem nd_Q_hang_19 : decode nb_Q_hang 19 = .ok (.iload_n 1, 1) := by decide +kernel
theorem nd_Q_hang_20 : decode nb_Q_hang 20 = .ok (.aload_n 2, 1) := by decide +kernel
theorem nd_Q_hang_21 : decode nb_Q_hang 21 = .ok (.invokevirtual 64, 3) := by decide +kernel
theorem nd_Q_hang_24 : decode nb_Q_hang 24 = .ok (.return_, 1) := by decide +kernel
theorem nd_R_ownedBy_0 : decode nb_R_ownedBy 0 = .ok (.aload_n 0, 1) := by decide +kernel
theorem nd_R_ownedBy_1 : decode nb_R_ownedBy 1 = .ok (.getfield 9, 3) := by decide +kernel
theorem nd_R_ownedBy_4 : decode nb_R_ownedBy 4 = .ok (.iload_n 1, 1) := by decide +kernel
theorem nd_R_ownedBy_5 : decode nb_R_ownedBy 5 = .ok (.if_icmp .ne 7, 3) := by decide +kernel
theorem nd_R_ownedBy_8 : decode nb_R_ownedBy 8 = .ok (.aload_n 0, 1) := by decide +kernel
theorem nd_R_ownedBy_9 : decode nb_R_ownedBy 9 = .ok (.goto 21, 3) := by decide +kernel
theorem nd_R_ownedBy_12 : decode nb_R_ownedBy 12 = .ok (.new 10, 3) := by decide +kernel
theorem nd_R_ownedBy_15 : decode nb_R_ownedBy 15 = .ok (.dup, 1) := by decide +kernel
theorem nd_R_ownedBy_16 : decode nb_R_ownedBy 16 = .ok (.iload_n 1, 1) := by decide +kernel
theorem nd_R_ownedBy_17 : decode nb_R_ownedBy 17 = .ok (.aload_n 0, 1) := by decide +kernel
theorem nd_R_ownedBy_18 : decode nb_R_ownedBy 18 = .ok (.getfield 15, 3) := by decide +kernel
theorem nd_R_ownedBy_21 : decode nb_R_ownedBy 21 = .ok (.invokevirtual 19, 3) := by decide +kernel
theorem nd_R_ownedBy_24 : decode nb_R_ownedBy 24 = .ok (.checkcast 20, 3) := by decide +kernel
theorem nd_R_ownedBy_27 : decode nb_R_ownedBy 27 = .ok (.invokespecial 24, 3) := by decide +kernel
theorem nd_R_ownedBy_30 : decode nb_R_ownedBy 30 = .ok (.areturn, 1) := by decide +kernel
theorem nd_R_hangOwned_0 : decode nb_R_hangOwned 0 = .ok (.aload_n 0, 1) := by decide +kernel
theorem nd_R_hangOwned_1 : decode nb_R_hangOwned 1 = .ok (.getfield 15, 3) := by decide +kernel
theorem nd_R_hangOwned_4 : decode nb_R_hangOwned 4 = .ok (.iload_n 1, 1) := by decide +kernel
theorem nd_R_hangOwned_5 : decode nb_R_hangOwned 5 = .ok (.iconst 5, 1) := by decide +kernel
theorem nd_R_hangOwned_6 : decode nb_R_hangOwned 6 = .ok (.iushr, 1) := by decide +kernel
theorem nd_R_hangOwned_7 : decode nb_R_hangOwned 7 = .ok (.aaload, 1) := by decide +kernel
theorem nd_R_hangOwned_8 : decode nb_R_hangOwned 8 = .ok (.aload_n 0, 1) := by decide +kernel
theorem nd_R_hangOwned_9 : decode nb_R_hangOwned 9 = .ok (.getfield 9, 3) := by decide +kernel
theorem nd_R_hangOwned_12 : decode nb_R_hangOwned 12 = .ok (.invokevirtual 33, 3) := by decide +kernel
theorem nd_R_hangOwned_15 : decode nb_R_hangOwned 15 = .ok (.astore_n 3, 1) := by decide +kernel
theorem nd_R_hangOwned_16 : decode nb_R_hangOwned 16 = .ok (.aload_n 3, 1) := by decide +kernel
theorem nd_R_hangOwned_17 : decode nb_R_hangOwned 17 = .ok (.getfield 27, 3) := by decide +kernel
theorem nd_R_hangOwned_20 : decode nb_R_hangOwned 20 = .ok (.iload_n 1, 1) := by decide +kernel
theorem nd_R_hangOwned_21 : decode nb_R_hangOwned 21 = .ok (.bipush 31, 2) := by decide +kernel
theorem nd_R_hangOwned_23 : decode nb_R_hangOwned 23 = .ok (.iand, 1) := by decide +kernel
theorem nd_R_hangOwned_24 : decode nb_R_hangOwned 24 = .ok (.aload_n 2, 1) := by decide +kernel
theorem nd_R_hangOwned_25 : decode nb_R_hangOwned 25 = .ok (.aastore, 1) := by decide +kernel
theorem nd_R_hangOwned_26 : decode nb_R_hangOwned 26 = .ok (.aload_n 0, 1) := by decide +kernel
theorem nd_R_hangOwned_27 : decode nb_R_hangOwned 27 = .ok (.getfield 15, 3) := by decide +kernel
theorem nd_R_hangOwned_30 : decode nb_R_hangOwned 30 = .ok (.iload_n 1, 1) := by decide +kernel
theorem nd_R_hangOwned_31 : decode nb_R_hangOwned 31 = .ok (.iconst 5, 1) := by decide +kernel
theorem nd_R_hangOwned_32 : decode nb_R_hangOwned 32 = .ok (.iushr, 1) := by decide +kernel
theorem nd_R_hangOwned_33 : decode nb_R_hangOwned 33 = .ok (.aload_n 3, 1) := by decide +kernel
theorem nd_R_hangOwned_34 : decode nb_R_hangOwned 34 = .ok (.aastore, 1) := by decide +kernel
theorem nd_R_hangOwned_35 : decode nb_R_hangOwned 35 = .ok (.return_, 1) := by decide +kernel
theorem nd_B_ownedBy_0 : decode nb_B_ownedBy 0 = .ok (.aload_n 0, 1) := by decide +kernel
theorem nd_B_ownedBy_1 : decode nb_B_ownedBy 1 = .ok (.getfield 7, 3) := by decide +kernel
theorem nd_B_ownedBy_4 : decode nb_B_ownedBy 4 = .ok (.iload_n 1, 1) := by decide +kernel
theorem nd_B_ownedBy_5 : decode nb_B_ownedBy 5 = .ok (.if_icmp .ne 7, 3) := by decide +kernel
theorem nd_B_ownedBy_8 : decode nb_B_ownedBy 8 = .ok (.aload_n 0, 1) := by decide +kernel
theorem nd_B_ownedBy_9 : decode nb_B_ownedBy 9 = .ok (.goto 21, 3) := by decide +kernel
theorem nd_B_ownedBy_12 : decode nb_B_ownedBy 12 = .ok (.new 8, 3) := by decide +kernel
theorem nd_B_ownedBy_15 : decode nb_B_ownedBy 15 = .ok (.dup, 1) := by decide +kernel
theorem nd_B_ownedBy_16 : decode nb_B_ownedBy 16 = .ok (.iload_n 1, 1) := by decide +kernel
theorem nd_B_ownedBy_17 : decode nb_B_ownedBy 17 = .ok (.aload_n 0, 1) := by decide +kernel
theorem nd_B_ownedBy_18 : decode nb_B_ownedBy 18 = .ok (.getfield 13, 3) := by decide +kernel
theorem nd_B_ownedBy_21 : decode nb_B_ownedBy 21 = .ok (.invokevirtual 17, 3) := by decide +kernel
theorem nd_B_ownedBy_24 : decode nb_B_ownedBy 24 = .ok (.checkcast 18, 3) := by decide +kernel
theorem nd_B_ownedBy_27 : decode nb_B_ownedBy 27 = .ok (.invokespecial 22, 3) := by decide +kernel
theorem nd_B_ownedBy_30 : decode nb_B_ownedBy 30 = .ok (.areturn, 1) := by decide +kernel
theorem nd_R_leafOf_0 : decode nb_R_leafOf 0 = .ok (.aload_n 0, 1) := by decide +kernel
theorem nd_R_leafOf_1 : decode nb_R_leafOf 1 = .ok (.getfield 15, 3) := by decide +kernel
theorem nd_R_leafOf_4 : decode nb_R_leafOf 4 = .ok (.iload_n 1, 1) := by decide +kernel
theorem nd_R_leafOf_5 : decode nb_R_leafOf 5 = .ok (.iconst 5, 1) := by decide +kernel
theorem nd_R_leafOf_6 : decode nb_R_leafOf 6 = .ok (.iushr, 1) := by decide +kernel
theorem nd_R_leafOf_7 : decode nb_R_leafOf 7 = .ok (.aaload, 1) := by decide +kernel
theorem nd_R_leafOf_8 : decode nb_R_leafOf 8 = .ok (.getfield 27, 3) := by decide +kernel
theorem nd_R_leafOf_11 : decode nb_R_leafOf 11 = .ok (.iload_n 1, 1) := by decide +kernel
theorem nd_R_leafOf_12 : decode nb_R_leafOf 12 = .ok (.bipush 31, 2) := by decide +kernel
theorem nd_R_leafOf_14 : decode nb_R_leafOf 14 = .ok (.iand, 1) := by decide +kernel
theorem nd_R_leafOf_15 : decode nb_R_leafOf 15 = .ok (.aaload, 1) := by decide +kernel
theorem nd_R_leafOf_16 : decode nb_R_leafOf 16 = .ok (.areturn, 1) := by decide +kernel
theorem nd_Q_write_0 : decode nb_Q_write 0 = .ok (.iload_n 1, 1) := by decide +kernel
theorem nd_Q_write_1 : decode nb_Q_write 1 = .ok (.iconst 5, 1) := by decide +kernel
theorem nd_Q_write_2 : decode nb_Q_write 2 = .ok (.iushr, 1) := by decide +kernel
theorem nd_Q_write_3 : decode nb_Q_write 3 = .ok (.istore 4, 2) := by decide +kernel
theorem nd_Q_write_5 : decode nb_Q_write 5 = .ok (.aload_n 0, 1) := by decide +kernel
theorem nd_Q_write_6 : decode nb_Q_write 6 = .ok (.iload 4, 2) := by decide +kernel
theorem nd_Q_write_8 : decode nb_Q_write 8 = .ok (.invokevirtual 33, 3) := by decide +kernel
theorem nd_Q_write_11 : decode nb_Q_write 11 = .ok (.aload_n 0, 1) := by decide +kernel
theorem nd_Q_write_12 : decode nb_Q_write 12 = .ok (.getfield 9, 3) := by decide +kernel
theorem nd_Q_write_15 : decode nb_Q_write 15 = .ok (.invokevirtual 58, 3) := by decide +kernel
theorem nd_Q_write_18 : decode nb_Q_write 18 = .ok (.astore 5, 2) := by decide +kernel
theorem nd_Q_write_20 : decode nb_Q_write 20 = .ok (.aload 5, 2) := by decide +kernel
theorem nd_Q_write_22 : decode nb_Q_write 22 = .ok (.getfield 37, 3) := by decide +kernel
theorem nd_Q_write_25 : decode nb_Q_write 25 = .ok (.iload_n 1, 1) := by decide +kernel
theorem nd_Q_write_26 : decode nb_Q_write 26 = .ok (.bipush 31, 2) := by decide +kernel
theorem nd_Q_write_28 : decode nb_Q_write 28 = .ok (.iand, 1) := by decide +kernel
theorem nd_Q_write_29 : decode nb_Q_write 29 = .ok (.lload_n 2, 1) := by decide +kernel
theorem nd_Q_write_30 : decode nb_Q_write 30 = .ok (.lastore, 1) := by decide +kernel
theorem nd_Q_write_31 : decode nb_Q_write 31 = .ok (.iload 4, 2) := by decide +kernel
theorem nd_Q_write_33 : decode nb_Q_write 33 = .ok (.aload_n 0, 1) := by decide +kernel
theorem nd_Q_write_34 : decode nb_Q_write 34 = .ok (.invokevirtual 43, 3) := by decide +kernel
theorem nd_Q_write_37 : decode nb_Q_write 37 = .ok (.if_icmp .ne 12, 3) := by decide +kernel
theorem nd_Q_write_40 : decode nb_Q_write 40 = .ok (.aload_n 0, 1) := by decide +kernel
theorem nd_Q_write_41 : decode nb_Q_write 41 = .ok (.aload 5, 2) := by decide +kernel
theorem nd_Q_write_43 : decode nb_Q_write 43 = .ok (.putfield 19, 3) := by decide +kernel
theorem nd_Q_write_46 : decode nb_Q_write 46 = .ok (.goto 11, 3) := by decide +kernel
theorem nd_Q_write_49 : decode nb_Q_write 49 = .ok (.aload_n 0, 1) := by decide +kernel
theorem nd_Q_write_50 : decode nb_Q_write 50 = .ok (.iload 4, 2) := by decide +kernel
theorem nd_Q_write_52 : decode nb_Q_write 52 = .ok (.aload 5, 2) := by decide +kernel
theorem nd_Q_write_54 : decode nb_Q_write 54 = .ok (.invokevirtual 47, 3) := by decide +kernel
theorem nd_Q_write_57 : decode nb_Q_write 57 = .ok (.return_, 1) := by decide +kernel
theorem nd_Q_leafOf_0 : decode nb_Q_leafOf 0 = .ok (.iload_n 1, 1) := by decide +kernel
theorem nd_Q_leafOf_1 : decode nb_Q_leafOf 1 = .ok (.aload_n 0, 1) := by decide +kernel
theorem nd_Q_leafOf_2 : decode nb_Q_leafOf 2 = .ok (.invokevirtual 43, 3) := by decide +kernel
theorem nd_Q_leafOf_5 : decode nb_Q_leafOf 5 = .ok (.if_icmp .ne 10, 3) := by decide +kernel
theorem nd_Q_leafOf_8 : decode nb_Q_leafOf 8 = .ok (.aload_n 0, 1) := by decide +kernel
theorem nd_Q_leafOf_9 : decode nb_Q_leafOf 9 = .ok (.getfield 19, 3) := by decide +kernel
theorem nd_Q_leafOf_12 : decode nb_Q_leafOf 12 = .ok (.goto 11, 3) := by decide +kernel
theorem nd_Q_leafOf_15 : decode nb_Q_leafOf 15 = .ok (.aload_n 0, 1) := by decide +kernel
theorem nd_Q_leafOf_16 : decode nb_Q_leafOf 16 = .ok (.getfield 15, 3) := by decide +kernel
theorem nd_Q_leafOf_19 : decode nb_Q_leafOf 19 = .ok (.iload_n 1, 1) := by decide +kernel
theorem nd_Q_leafOf_20 : decode nb_Q_leafOf 20 = .ok (.invokevirtual 51, 3) := by decide +kernel
theorem nd_Q_leafOf_23 : decode nb_Q_leafOf 23 = .ok (.areturn, 1) := by decide +kernel
theorem nd_F_ownedBy_0 : decode nb_F_ownedBy 0 = .ok (.aload_n 0, 1) := by decide +kernel
theorem nd_F_ownedBy_1 : decode nb_F_ownedBy 1 = .ok (.getfield 7, 3) := by decide +kernel
theorem nd_F_ownedBy_4 : decode nb_F_ownedBy 4 = .ok (.iload_n 1, 1) := by decide +kernel
theorem nd_F_ownedBy_5 : decode nb_F_ownedBy 5 = .ok (.if_icmp .ne 7, 3) := by decide +kernel
theorem nd_F_ownedBy_8 : decode nb_F_ownedBy 8 = .ok (.aload_n 0, 1) := by decide +kernel
theorem nd_F_ownedBy_9 : decode nb_F_ownedBy 9 = .ok (.goto 21, 3) := by decide +kernel
theorem nd_F_ownedBy_12 : decode nb_F_ownedBy 12 = .ok (.new 8, 3) := by decide +kernel
theorem nd_F_ownedBy_15 : decode nb_F_ownedBy 15 = .ok (.dup, 1) := by decide +kernel
theorem nd_F_ownedBy_16 : decode nb_F_ownedBy 16 = .ok (.iload_n 1, 1) := by decide +kernel
theorem nd_F_ownedBy_17 : decode nb_F_ownedBy 17 = .ok (.aload_n 0, 1) := by decide +kernel
theorem nd_F_ownedBy_18 : decode nb_F_ownedBy 18 = .ok (.getfield 13, 3) := by decide +kernel
theorem nd_F_ownedBy_21 : decode nb_F_ownedBy 21 = .ok (.invokevirtual 17, 3) := by decide +kernel
theorem nd_F_ownedBy_24 : decode nb_F_ownedBy 24 = .ok (.checkcast 18, 3) := by decide +kernel
theorem nd_F_ownedBy_27 : decode nb_F_ownedBy 27 = .ok (.invokespecial 22, 3) := by decide +kernel
theorem nd_F_ownedBy_30 : decode nb_F_ownedBy 30 = .ok (.areturn, 1) := by decide +kernel
theorem nd_L_push_0 : decode nb_L_push 0 = .ok (.aload 5, 2) := by decide +kernel
theorem nd_L_push_2 : decode nb_L_push 2 = .ok (.iconst 0, 1) := by decide +kernel
theorem nd_L_push_3 : decode nb_L_push 3 = .ok (.aload_n 0, 1) := by decide +kernel
theorem nd_L_push_4 : decode nb_L_push 4 = .ok (.iload_n 1, 1) := by decide +kernel
theorem nd_L_push_5 : decode nb_L_push 5 = .ok (.iload_n 2, 1) := by decide +kernel
theorem nd_L_push_6 : decode nb_L_push 6 = .ok (.lload_n 3, 1) := by decide +kernel
theorem nd_L_push_7 : decode nb_L_push 7 = .ok (.invokevirtual 17, 3) := by decide +kernel
theorem nd_L_push_10 : decode nb_L_push 10 = .ok (.i2l, 1) := by decide +kernel
theorem nd_L_push_11 : decode nb_L_push 11 = .ok (.lastore, 1) := by decide +kernel
theorem nd_L_push_12 : decode nb_L_push 12 = .ok (.goto 11, 3) := by decide +kernel
theorem nd_L_push_15 : decode nb_L_push 15 = .ok (.astore 6, 2) := by decide +kernel
theorem nd_L_push_17 : decode nb_L_push 17 = .ok (.iconst 1, 1) := by decide +kernel
theorem nd_L_push_18 : decode nb_L_push 18 = .ok (.ireturn, 1) := by decide +kernel
theorem nd_L_push_19 : decode nb_L_push 19 = .ok (.astore 6, 2) := by decide +kernel
theorem nd_L_push_21 : decode nb_L_push 21 = .ok (.iconst 2, 1) := by decide +kernel
theorem nd_L_push_22 : decode nb_L_push 22 = .ok (.ireturn, 1) := by decide +kernel
theorem nd_L_push_23 : decode nb_L_push 23 = .ok (.iconst 0, 1) := by decide +kernel
theorem nd_L_push_24 : decode nb_L_push 24 = .ok (.ireturn, 1) := by decide +kernel
theorem nd_S_push_0 : decode nb_S_push 0 = .ok (.iload_n 1, 1) := by decide +kernel
theorem nd_S_push_1 : decode nb_S_push 1 = .ok (.invokestatic 30, 3) := by decide +kernel
theorem nd_S_push_4 : decode nb_S_push 4 = .ok (.iload_n 2, 1) := by decide +kernel
theorem nd_S_push_5 : decode nb_S_push 5 = .ok (.invokestatic 30, 3) := by decide +kernel
theorem nd_S_push_8 : decode nb_S_push 8 = .ok (.aload_n 0, 1) := by decide +kernel
theorem nd_S_push_9 : decode nb_S_push 9 = .ok (.getfield 19, 3) := by decide +kernel
theorem nd_S_push_12 : decode nb_S_push 12 = .ok (.iload_n 2, 1) := by decide +kernel
theorem nd_S_push_13 : decode nb_S_push 13 = .ok (.aaload, 1) := by decide +kernel
theorem nd_S_push_14 : decode nb_S_push 14 = .ok (.invokestatic 34, 3) := by decide +kernel
theorem nd_S_push_17 : decode nb_S_push 17 = .ok (.aload_n 0, 1) := by decide +kernel
theorem nd_S_push_18 : decode nb_S_push 18 = .ok (.aload_n 0, 1) := by decide +kernel
theorem nd_S_push_19 : decode nb_S_push 19 = .ok (.getfield 19, 3) := by decide +kernel
theorem nd_S_push_22 : decode nb_S_push 22 = .ok (.iload_n 2, 1) := by decide +kernel
theorem nd_S_push_23 : decode nb_S_push 23 = .ok (.aaload, 1) := by decide +kernel
theorem nd_S_push_24 : decode nb_S_push 24 = .ok (.invokevirtual 38, 3) := by decide +kernel
theorem nd_S_push_27 : decode nb_S_push 27 = .ok (.astore 5, 2) := by decide +kernel
theorem nd_S_push_29 : decode nb_S_push 29 = .ok (.aload 5, 2) := by decide +kernel
theorem nd_S_push_31 : decode nb_S_push 31 = .ok (.lload_n 3, 1) := by decide +kernel
theorem nd_S_push_32 : decode nb_S_push 32 = .ok (.invokevirtual 49, 3) := by decide +kernel
theorem nd_S_push_35 : decode nb_S_push 35 = .ok (.aload_n 0, 1) := by decide +kernel
theorem nd_S_push_36 : decode nb_S_push 36 = .ok (.getfield 19, 3) := by decide +kernel
theorem nd_S_push_39 : decode nb_S_push 39 = .ok (.iload_n 1, 1) := by decide +kernel
theorem nd_S_push_40 : decode nb_S_push 40 = .ok (.aload 5, 2) := by decide +kernel
theorem nd_S_push_42 : decode nb_S_push 42 = .ok (.aastore, 1) := by decide +kernel
theorem nd_S_push_43 : decode nb_S_push 43 = .ok (.aload 5, 2) := by decide +kernel
theorem nd_S_push_45 : decode nb_S_push 45 = .ok (.getfield 46, 3) := by decide +kernel
theorem nd_S_push_48 : decode nb_S_push 48 = .ok (.ireturn, 1) := by decide +kernel
theorem nd_Q_prepend_0 : decode nb_Q_prepend 0 = .ok (.aload_n 0, 1) := by decide +kernel
theorem nd_Q_prepend_1 : decode nb_Q_prepend 1 = .ok (.aload_n 0, 1) := by decide +kernel
theorem nd_Q_prepend_2 : decode nb_Q_prepend 2 = .ok (.iconst (-1), 1) := by decide +kernel
theorem nd_Q_prepend_3 : decode nb_Q_prepend 3 = .ok (.invokevirtual 29, 3) := by decide +kernel
theorem nd_Q_prepend_6 : decode nb_Q_prepend 6 = .ok (.putfield 23, 3) := by decide +kernel
theorem nd_Q_prepend_9 : decode nb_Q_prepend 9 = .ok (.aload_n 0, 1) := by decide +kernel
theorem nd_Q_prepend_10 : decode nb_Q_prepend 10 = .ok (.dup, 1) := by decide +kernel
theorem nd_Q_prepend_11 : decode nb_Q_prepend 11 = .ok (.getfield 26, 3) := by decide +kernel
theorem nd_Q_prepend_14 : decode nb_Q_prepend 14 = .ok (.iconst 1, 1) := by decide +kernel
theorem nd_Q_prepend_15 : decode nb_Q_prepend 15 = .ok (.iadd, 1) := by decide +kernel
theorem nd_Q_prepend_16 : decode nb_Q_prepend 16 = .ok (.putfield 26, 3) := by decide +kernel
theorem nd_Q_prepend_19 : decode nb_Q_prepend 19 = .ok (.aload_n 0, 1) := by decide +kernel
theorem nd_Q_prepend_20 : decode nb_Q_prepend 20 = .ok (.aload_n 0, 1) := by decide +kernel
theorem nd_Q_prepend_21 : decode nb_Q_prepend 21 = .ok (.getfield 23, 3) := by decide +kernel
theorem nd_Q_prepend_24 : decode nb_Q_prepend 24 = .ok (.lload_n 1, 1) := by decide +kernel
theorem nd_Q_prepend_25 : decode nb_Q_prepend 25 = .ok (.invokevirtual 54, 3) := by decide +kernel
theorem nd_Q_prepend_28 : decode nb_Q_prepend 28 = .ok (.return_, 1) := by decide +kernel
theorem nd_L_set_0 : decode nb_L_set 0 = .ok (.aload 6, 2) := by decide +kernel
theorem nd_L_set_2 : decode nb_L_set 2 = .ok (.iconst 0, 1) := by decide +kernel
theorem nd_L_set_3 : decode nb_L_set 3 = .ok (.aload_n 0, 1) := by decide +kernel
theorem nd_L_set_4 : decode nb_L_set 4 = .ok (.iload_n 1, 1) := by decide +kernel
theorem nd_L_set_5 : decode nb_L_set 5 = .ok (.iload_n 2, 1) := by decide +kernel
theorem nd_L_set_6 : decode nb_L_set 6 = .ok (.iload_n 3, 1) := by decide +kernel
theorem nd_L_set_7 : decode nb_L_set 7 = .ok (.lload 4, 2) := by decide +kernel
theorem nd_L_set_9 : decode nb_L_set 9 = .ok (.invokevirtual 20, 3) := by decide +kernel
theorem nd_L_set_12 : decode nb_L_set 12 = .ok (.lastore, 1) := by decide +kernel
theorem nd_L_set_13 : decode nb_L_set 13 = .ok (.goto 11, 3) := by decide +kernel
theorem nd_L_set_16 : decode nb_L_set 16 = .ok (.astore 7, 2) := by decide +kernel
theorem nd_L_set_18 : decode nb_L_set 18 = .ok (.iconst 1, 1) := by decide +kernel
theorem nd_L_set_19 : decode nb_L_set 19 = .ok (.ireturn, 1) := by decide +kernel
theorem nd_L_set_20 : decode nb_L_set 20 = .ok (.astore 7, 2) := by decide +kernel
theorem nd_L_set_22 : decode nb_L_set 22 = .ok (.iconst 2, 1) := by decide +kernel
theorem nd_L_set_23 : decode nb_L_set 23 = .ok (.ireturn, 1) := by decide +kernel
theorem nd_L_set_24 : decode nb_L_set 24 = .ok (.iconst 0, 1) := by decide +kernel
theorem nd_L_set_25 : decode nb_L_set 25 = .ok (.ireturn, 1) := by decide +kernel
theorem nd_S_set_0 : decode nb_S_set 0 = .ok (.iload_n 1, 1) := by decide +kernel
theorem nd_S_set_1 : decode nb_S_set 1 = .ok (.invokestatic 30, 3) := by decide +kernel
theorem nd_S_set_4 : decode nb_S_set 4 = .ok (.iload_n 2, 1) := by decide +kernel
theorem nd_S_set_5 : decode nb_S_set 5 = .ok (.invokestatic 30, 3) := by decide +kernel
theorem nd_S_set_8 : decode nb_S_set 8 = .ok (.aload_n 0, 1) := by decide +kernel
theorem nd_S_set_9 : decode nb_S_set 9 = .ok (.getfield 19, 3) := by decide +kernel
theorem nd_S_set_12 : decode nb_S_set 12 = .ok (.iload_n 2, 1) := by decide +kernel
theorem nd_S_set_13 : decode nb_S_set 13 = .ok (.aaload, 1) := by decide +kernel
theorem nd_S_set_14 : decode nb_S_set 14 = .ok (.iload_n 3, 1) := by decide +kernel
theorem nd_S_set_15 : decode nb_S_set 15 = .ok (.invokestatic 52, 3) := by decide +kernel
theorem nd_S_set_18 : decode nb_S_set 18 = .ok (.aload_n 0, 1) := by decide +kernel
theorem nd_S_set_19 : decode nb_S_set 19 = .ok (.getfield 19, 3) := by decide +kernel
theorem nd_S_set_22 : decode nb_S_set 22 = .ok (.iload_n 2, 1) := by decide +kernel
theorem nd_S_set_23 : decode nb_S_set 23 = .ok (.aaload, 1) := by decide +kernel
theorem nd_S_set_24 : decode nb_S_set 24 = .ok (.iload_n 3, 1) := by decide +kernel
theorem nd_S_set_25 : decode nb_S_set 25 = .ok (.invokevirtual 56, 3) := by decide +kernel
theorem nd_S_set_28 : decode nb_S_set 28 = .ok (.lstore 6, 2) := by decide +kernel
theorem nd_S_set_30 : decode nb_S_set 30 = .ok (.aload_n 0, 1) := by decide +kernel
theorem nd_S_set_31 : decode nb_S_set 31 = .ok (.aload_n 0, 1) := by decide +kernel
theorem nd_S_set_32 : decode nb_S_set 32 = .ok (.getfield 19, 3) := by decide +kernel
theorem nd_S_set_35 : decode nb_S_set 35 = .ok (.iload_n 2, 1) := by decide +kernel
theorem nd_S_set_36 : decode nb_S_set 36 = .ok (.aaload, 1) := by decide +kernel
theorem nd_S_set_37 : decode nb_S_set 37 = .ok (.invokevirtual 38, 3) := by decide +kernel
theorem nd_S_set_40 : decode nb_S_set 40 = .ok (.astore 8, 2) := by decide +kernel
theorem nd_S_set_42 : decode nb_S_set 42 = .ok (.aload 8, 2) := by decide +kernel
theorem nd_S_set_44 : decode nb_S_set 44 = .ok (.iload_n 3, 1) := by decide +kernel
theorem nd_S_set_45 : decode nb_S_set 45 = .ok (.lload 4, 2) := by decide +kernel
theorem nd_S_set_47 : decode nb_S_set 47 = .ok (.invokevirtual 60, 3) := by decide +kernel
theorem nd_S_set_50 : decode nb_S_set 50 = .ok (.aload_n 0, 1) := by decide +kernel
theorem nd_S_set_51 : decode nb_S_set 51 = .ok (.getfield 19, 3) := by decide +kernel
theorem nd_S_set_54 : decode nb_S_set 54 = .ok (.iload_n 1, 1) := by decide +kernel
theorem nd_S_set_55 : decode nb_S_set 55 = .ok (.aload 8, 2) := by decide +kernel
theorem nd_S_set_57 : decode nb_S_set 57 = .ok (.aastore, 1) := by decide +kernel
theorem nd_S_set_58 : decode nb_S_set 58 = .ok (.lload 6, 2) := by decide +kernel
theorem nd_S_set_60 : decode nb_S_set 60 = .ok (.lreturn, 1) := by decide +kernel
theorem nd_S_checkElement_0 : decode nb_S_checkElement 0 = .ok (.iload_n 1, 1) := by decide +kernel
theorem nd_S_checkElement_1 : decode nb_S_checkElement 1 = .ok (.ifCond .lt 11, 3) := by decide +kernel
theorem nd_S_checkElement_4 : decode nb_S_checkElement 4 = .ok (.iload_n 1, 1) := by decide +kernel
theorem nd_S_checkElement_5 : decode nb_S_checkElement 5 = .ok (.aload_n 0, 1) := by decide +kernel
theorem nd_S_checkElement_6 : decode nb_S_checkElement 6 = .ok (.getfield 46, 3) := by decide +kernel
theorem nd_S_checkElement_9 : decode nb_S_checkElement 9 = .ok (.if_icmp .lt 13, 3) := by decide +kernel
theorem nd_S_checkElement_12 : decode nb_S_checkElement 12 = .ok (.new 67, 3) := by decide +kernel
theorem nd_S_checkElement_15 : decode nb_S_checkElement 15 = .ok (.dup, 1) := by decide +kernel
theorem nd_S_checkElement_16 : decode nb_S_checkElement 16 = .ok (.ldc 115, 2) := by decide +kernel
theorem nd_S_checkElement_18 : decode nb_S_checkElement 18 = .ok (.invokespecial 71, 3) := by decide +kernel
theorem nd_S_checkElement_21 : decode nb_S_checkElement 21 = .ok (.athrow, 1) := by decide +kernel
theorem nd_S_checkElement_22 : decode nb_S_checkElement 22 = .ok (.return_, 1) := by decide +kernel
theorem nd_Q_element_0 : decode nb_Q_element 0 = .ok (.aload_n 0, 1) := by decide +kernel
theorem nd_Q_element_1 : decode nb_Q_element 1 = .ok (.iload_n 1, 1) := by decide +kernel
theorem nd_Q_element_2 : decode nb_Q_element 2 = .ok (.invokevirtual 29, 3) := by decide +kernel
theorem nd_Q_element_5 : decode nb_Q_element 5 = .ok (.istore_n 2, 1) := by decide +kernel
theorem nd_Q_element_6 : decode nb_Q_element 6 = .ok (.aload_n 0, 1) := by decide +kernel
theorem nd_Q_element_7 : decode nb_Q_element 7 = .ok (.iload_n 2, 1) := by decide +kernel
theorem nd_Q_element_8 : decode nb_Q_element 8 = .ok (.iconst 5, 1) := by decide +kernel
theorem nd_Q_element_9 : decode nb_Q_element 9 = .ok (.iushr, 1) := by decide +kernel
theorem nd_Q_element_10 : decode nb_Q_element 10 = .ok (.invokevirtual 33, 3) := by decide +kernel
theorem nd_Q_element_13 : decode nb_Q_element 13 = .ok (.getfield 37, 3) := by decide +kernel
theorem nd_Q_element_16 : decode nb_Q_element 16 = .ok (.iload_n 2, 1) := by decide +kernel
theorem nd_Q_element_17 : decode nb_Q_element 17 = .ok (.bipush 31, 2) := by decide +kernel
theorem nd_Q_element_19 : decode nb_Q_element 19 = .ok (.iand, 1) := by decide +kernel
theorem nd_Q_element_20 : decode nb_Q_element 20 = .ok (.laload, 1) := by decide +kernel
theorem nd_Q_element_21 : decode nb_Q_element 21 = .ok (.lreturn, 1) := by decide +kernel
theorem nd_Q_replace_0 : decode nb_Q_replace 0 = .ok (.aload_n 0, 1) := by decide +kernel
theorem nd_Q_replace_1 : decode nb_Q_replace 1 = .ok (.aload_n 0, 1) := by decide +kernel
theorem nd_Q_replace_2 : decode nb_Q_replace 2 = .ok (.iload_n 1, 1) := by decide +kernel
theorem nd_Q_replace_3 : decode nb_Q_replace 3 = .ok (.invokevirtual 29, 3) := by decide +kernel
theorem nd_Q_replace_6 : decode nb_Q_replace 6 = .ok (.lload_n 2, 1) := by decide +kernel
theorem nd_Q_replace_7 : decode nb_Q_replace 7 = .ok (.invokevirtual 54, 3) := by decide +kernel
theorem nd_Q_replace_10 : decode nb_Q_replace 10 = .ok (.return_, 1) := by decide +kernel
theorem nd_L_at_0 : decode nb_L_at 0 = .ok (.aload_n 3, 1) := by decide +kernel
theorem nd_L_at_1 : decode nb_L_at 1 = .ok (.iconst 0, 1) := by decide +kernel
theorem nd_L_at_2 : decode nb_L_at 2 = .ok (.aload_n 0, 1) := by decide +kernel
theorem nd_L_at_3 : decode nb_L_at 3 = .ok (.iload_n 1, 1) := by decide +kernel
theorem nd_L_at_4 : decode nb_L_at 4 = .ok (.iload_n 2, 1) := by decide +kernel
theorem nd_L_at_5 : decode nb_L_at 5 = .ok (.invokevirtual 26, 3) := by decide +kernel
theorem nd_L_at_8 : decode nb_L_at 8 = .ok (.lastore, 1) := by decide +kernel
theorem nd_L_at_9 : decode nb_L_at 9 = .ok (.goto 11, 3) := by decide +kernel
theorem nd_L_at_12 : decode nb_L_at 12 = .ok (.astore 4, 2) := by decide +kernel
theorem nd_L_at_14 : decode nb_L_at 14 = .ok (.iconst 1, 1) := by decide +kernel
theorem nd_L_at_15 : decode nb_L_at 15 = .ok (.ireturn, 1) := by decide +kernel
theorem nd_L_at_16 : decode nb_L_at 16 = .ok (.astore 4, 2) := by decide +kernel
theorem nd_L_at_18 : decode nb_L_at 18 = .ok (.iconst 2, 1) := by decide +kernel
theorem nd_L_at_19 : decode nb_L_at 19 = .ok (.ireturn, 1) := by decide +kernel
theorem nd_L_at_20 : decode nb_L_at 20 = .ok (.iconst 0, 1) := by decide +kernel
theorem nd_L_at_21 : decode nb_L_at 21 = .ok (.ireturn, 1) := by decide +kernel
theorem nd_S_at_0 : decode nb_S_at 0 = .ok (.iload_n 1, 1) := by decide +kernel
theorem nd_S_at_1 : decode nb_S_at 1 = .ok (.invokestatic 30, 3) := by decide +kernel
theorem nd_S_at_4 : decode nb_S_at 4 = .ok (.aload_n 0, 1) := by decide +kernel
theorem nd_S_at_5 : decode nb_S_at 5 = .ok (.getfield 19, 3) := by decide +kernel
theorem nd_S_at_8 : decode nb_S_at 8 = .ok (.iload_n 1, 1) := by decide +kernel
theorem nd_S_at_9 : decode nb_S_at 9 = .ok (.aaload, 1) := by decide +kernel
theorem nd_S_at_10 : decode nb_S_at 10 = .ok (.iload_n 2, 1) := by decide +kernel
theorem nd_S_at_11 : decode nb_S_at 11 = .ok (.invokestatic 52, 3) := by decide +kernel
theorem nd_S_at_14 : decode nb_S_at 14 = .ok (.aload_n 0, 1) := by decide +kernel
theorem nd_S_at_15 : decode nb_S_at 15 = .ok (.getfield 19, 3) := by decide +kernel
theorem nd_S_at_18 : decode nb_S_at 18 = .ok (.iload_n 1, 1) := by decide +kernel
theorem nd_S_at_19 : decode nb_S_at 19 = .ok (.aaload, 1) := by decide +kernel
theorem nd_S_at_20 : decode nb_S_at 20 = .ok (.iload_n 2, 1) := by decide +kernel
theorem nd_S_at_21 : decode nb_S_at 21 = .ok (.invokevirtual 56, 3) := by decide +kernel
theorem nd_S_at_24 : decode nb_S_at 24 = .ok (.lreturn, 1) := by decide +kernel
theorem nd_L_cut_0 : decode nb_L_cut 0 = .ok (.aload 5, 2) := by decide +kernel
theorem nd_L_cut_2 : decode nb_L_cut 2 = .ok (.iconst 0, 1) := by decide +kernel
theorem nd_L_cut_3 : decode nb_L_cut 3 = .ok (.aload_n 0, 1) := by decide +kernel
theorem nd_L_cut_4 : decode nb_L_cut 4 = .ok (.iload_n 1, 1) := by decide +kernel
theorem nd_L_cut_5 : decode nb_L_cut 5 = .ok (.iload_n 2, 1) := by decide +kernel
theorem nd_L_cut_6 : decode nb_L_cut 6 = .ok (.iload_n 3, 1) := by decide +kernel
theorem nd_L_cut_7 : decode nb_L_cut 7 = .ok (.iload 4, 2) := by decide +kernel
theorem nd_L_cut_9 : decode nb_L_cut 9 = .ok (.invokevirtual 30, 3) := by decide +kernel
theorem nd_L_cut_12 : decode nb_L_cut 12 = .ok (.i2l, 1) := by decide +kernel
theorem nd_L_cut_13 : decode nb_L_cut 13 = .ok (.lastore, 1) := by decide +kernel
theorem nd_L_cut_14 : decode nb_L_cut 14 = .ok (.goto 11, 3) := by decide +kernel
theorem nd_L_cut_17 : decode nb_L_cut 17 = .ok (.astore 6, 2) := by decide +kernel
theorem nd_L_cut_19 : decode nb_L_cut 19 = .ok (.iconst 1, 1) := by decide +kernel
theorem nd_L_cut_20 : decode nb_L_cut 20 = .ok (.ireturn, 1) := by decide +kernel
theorem nd_L_cut_21 : decode nb_L_cut 21 = .ok (.astore 6, 2) := by decide +kernel
theorem nd_L_cut_23 : decode nb_L_cut 23 = .ok (.iconst 2, 1) := by decide +kernel
theorem nd_L_cut_24 : decode nb_L_cut 24 = .ok (.ireturn, 1) := by decide +kernel
theorem nd_L_cut_25 : decode nb_L_cut 25 = .ok (.iconst 0, 1) := by decide +kernel
theorem nd_L_cut_26 : decode nb_L_cut 26 = .ok (.ireturn, 1) := by decide +kernel
theorem nd_S_cut_0 : decode nb_S_cut 0 = .ok (.iload_n 1, 1) := by decide +kernel
theorem nd_S_cut_1 : decode nb_S_cut 1 = .ok (.invokestatic 30, 3) := by decide +kernel
theorem nd_S_cut_4 : decode nb_S_cut 4 = .ok (.iload_n 2, 1) := by decide +kernel
theorem nd_S_cut_5 : decode nb_S_cut 5 = .ok (.invokestatic 30, 3) := by decide +kernel
theorem nd_S_cut_8 : decode nb_S_cut 8 = .ok (.iload_n 3, 1) := by decide +kernel
theorem nd_S_cut_9 : decode nb_S_cut 9 = .ok (.invokestatic 64, 3) := by decide +kernel
theorem nd_S_cut_12 : decode nb_S_cut 12 = .ok (.iload 4, 2) := by decide +kernel
theorem nd_S_cut_14 : decode nb_S_cut 14 = .ok (.invokestatic 64, 3) := by decide +kernel
theorem nd_S_cut_17 : decode nb_S_cut 17 = .ok (.iload_n 3, 1) := by decide +kernel
theorem nd_S_cut_18 : decode nb_S_cut 18 = .ok (.i2l, 1) := by decide +kernel
theorem nd_S_cut_19 : decode nb_S_cut 19 = .ok (.iload 4, 2) := by decide +kernel
theorem nd_S_cut_21 : decode nb_S_cut 21 = .ok (.i2l, 1) := by decide +kernel
theorem nd_S_cut_22 : decode nb_S_cut 22 = .ok (.ladd, 1) := by decide +kernel
theorem nd_S_cut_23 : decode nb_S_cut 23 = .ok (.aload_n 0, 1) := by decide +kernel
theorem nd_S_cut_24 : decode nb_S_cut 24 = .ok (.getfield 19, 3) := by decide +kernel
theorem nd_S_cut_27 : decode nb_S_cut 27 = .ok (.iload_n 2, 1) := by decide +kernel
theorem nd_S_cut_28 : decode nb_S_cut 28 = .ok (.aaload, 1) := by decide +kernel
theorem nd_S_cut_29 : decode nb_S_cut 29 = .ok (.getfield 46, 3) := by decide +kernel
theorem nd_S_cut_32 : decode nb_S_cut 32 = .ok (.i2l, 1) := by decide +kernel
theorem nd_S_cut_33 : decode nb_S_cut 33 = .ok (.lcmp, 1) := by decide +kernel
theorem nd_S_cut_34 : decode nb_S_cut 34 = .ok (.ifCond .le 13, 3) := by decide +kernel
theorem nd_S_cut_37 : decode nb_S_cut 37 = .ok (.new 67, 3) := by decide +kernel
theorem nd_S_cut_40 : decode nb_S_cut 40 = .ok (.dup, 1) := by decide +kernel
theorem nd_S_cut_41 : decode nb_S_cut 41 = .ok (.ldc 69, 2) := by decide +kernel
theorem nd_S_cut_43 : decode nb_S_cut 43 = .ok (.invokespecial 71, 3) := by decide +kernel
theorem nd_S_cut_46 : decode nb_S_cut 46 = .ok (.athrow, 1) := by decide +kernel
theorem nd_S_cut_47 : decode nb_S_cut 47 = .ok (.aload_n 0, 1) := by decide +kernel
theorem nd_S_cut_48 : decode nb_S_cut 48 = .ok (.aload_n 0, 1) := by decide +kernel
theorem nd_S_cut_49 : decode nb_S_cut 49 = .ok (.getfield 19, 3) := by decide +kernel
theorem nd_S_cut_52 : decode nb_S_cut 52 = .ok (.iload_n 2, 1) := by decide +kernel
theorem nd_S_cut_53 : decode nb_S_cut 53 = .ok (.aaload, 1) := by decide +kernel
theorem nd_S_cut_54 : decode nb_S_cut 54 = .ok (.invokevirtual 38, 3) := by decide +kernel
theorem nd_S_cut_57 : decode nb_S_cut 57 = .ok (.astore 5, 2) := by decide +kernel
theorem nd_S_cut_59 : decode nb_S_cut 59 = .ok (.aload 5, 2) := by decide +kernel
theorem nd_S_cut_61 : decode nb_S_cut 61 = .ok (.iload_n 3, 1) := by decide +kernel
theorem nd_S_cut_62 : decode nb_S_cut 62 = .ok (.iload 4, 2) := by decide +kernel
theorem nd_S_cut_64 : decode nb_S_cut 64 = .ok (.invokevirtual 74, 3) := by decide +kernel
theorem nd_S_cut_67 : decode nb_S_cut 67 = .ok (.aload_n 0, 1) := by decide +kernel
theorem nd_S_cut_68 : decode nb_S_cut 68 = .ok (.getfield 19, 3) := by decide +kernel
theorem nd_S_cut_71 : decode nb_S_cut 71 = .ok (.iload_n 1, 1) := by decide +kernel
theorem nd_S_cut_72 : decode nb_S_cut 72 = .ok (.aload 5, 2) := by decide +kernel
theorem nd_S_cut_74 : decode nb_S_cut 74 = .ok (.aastore, 1) := by decide +kernel
theorem nd_S_cut_75 : decode nb_S_cut 75 = .ok (.aload 5, 2) := by decide +kernel
theorem nd_S_cut_77 : decode nb_S_cut 77 = .ok (.getfield 46, 3) := by decide +kernel
theorem nd_S_cut_80 : decode nb_S_cut 80 = .ok (.ireturn, 1) := by decide +kernel
theorem nd_S_checkNotNegative_0 : decode nb_S_checkNotNegative 0 = .ok (.iload_n 0, 1) := by decide +kernel
theorem nd_S_checkNotNegative_1 : decode nb_S_checkNotNegative 1 = .ok (.ifCond .ge 13, 3) := by decide +kernel
theorem nd_S_checkNotNegative_4 : decode nb_S_checkNotNegative 4 = .ok (.new 108, 3) := by decide +kernel
theorem nd_S_checkNotNegative_7 : decode nb_S_checkNotNegative 7 = .ok (.dup, 1) := by decide +kernel
theorem nd_S_checkNotNegative_8 : decode nb_S_checkNotNegative 8 = .ok (.ldc 113, 2) := by decide +kernel
theorem nd_S_checkNotNegative_10 : decode nb_S_checkNotNegative 10 = .ok (.invokespecial 112, 3) := by decide +kernel
theorem nd_S_checkNotNegative_13 : decode nb_S_checkNotNegative 13 = .ok (.athrow, 1) := by decide +kernel
theorem nd_S_checkNotNegative_14 : decode nb_S_checkNotNegative 14 = .ok (.return_, 1) := by decide +kernel
theorem nd_Q_trim_0 : decode nb_Q_trim 0 = .ok (.aload_n 0, 1) := by decide +kernel
theorem nd_Q_trim_1 : decode nb_Q_trim 1 = .ok (.invokevirtual 43, 3) := by decide +kernel
theorem nd_Q_trim_4 : decode nb_Q_trim 4 = .ok (.istore_n 3, 1) := by decide +kernel
theorem nd_Q_trim_5 : decode nb_Q_trim 5 = .ok (.aload_n 0, 1) := by decide +kernel
theorem nd_Q_trim_6 : decode nb_Q_trim 6 = .ok (.aload_n 0, 1) := by decide +kernel
theorem nd_Q_trim_7 : decode nb_Q_trim 7 = .ok (.iload_n 1, 1) := by decide +kernel
theorem nd_Q_trim_8 : decode nb_Q_trim 8 = .ok (.invokevirtual 29, 3) := by decide +kernel
theorem nd_Q_trim_11 : decode nb_Q_trim 11 = .ok (.putfield 23, 3) := by decide +kernel
theorem nd_Q_trim_14 : decode nb_Q_trim 14 = .ok (.aload_n 0, 1) := by decide +kernel
theorem nd_Q_trim_15 : decode nb_Q_trim 15 = .ok (.dup, 1) := by decide +kernel
theorem nd_Q_trim_16 : decode nb_Q_trim 16 = .ok (.getfield 26, 3) := by decide +kernel
theorem nd_Q_trim_19 : decode nb_Q_trim 19 = .ok (.iload_n 1, 1) := by decide +kernel
theorem nd_Q_trim_20 : decode nb_Q_trim 20 = .ok (.iload_n 2, 1) := by decide +kernel
theorem nd_Q_trim_21 : decode nb_Q_trim 21 = .ok (.iadd, 1) := by decide +kernel
theorem nd_Q_trim_22 : decode nb_Q_trim 22 = .ok (.isub, 1) := by decide +kernel
theorem nd_Q_trim_23 : decode nb_Q_trim 23 = .ok (.putfield 26, 3) := by decide +kernel
theorem nd_Q_trim_26 : decode nb_Q_trim 26 = .ok (.aload_n 0, 1) := by decide +kernel
theorem nd_Q_trim_27 : decode nb_Q_trim 27 = .ok (.invokevirtual 43, 3) := by decide +kernel
theorem nd_Q_trim_30 : decode nb_Q_trim 30 = .ok (.iload_n 3, 1) := by decide +kernel
theorem nd_Q_trim_31 : decode nb_Q_trim 31 = .ok (.if_icmp .eq 18, 3) := by decide +kernel
theorem nd_Q_trim_34 : decode nb_Q_trim 34 = .ok (.aload_n 0, 1) := by decide +kernel
theorem nd_Q_trim_35 : decode nb_Q_trim 35 = .ok (.aload_n 0, 1) := by decide +kernel
theorem nd_Q_trim_36 : decode nb_Q_trim 36 = .ok (.getfield 15, 3) := by decide +kernel
theorem nd_Q_trim_39 : decode nb_Q_trim 39 = .ok (.aload_n 0, 1) := by decide +kernel
theorem nd_Q_trim_40 : decode nb_Q_trim 40 = .ok (.invokevirtual 43, 3) := by decide +kernel
theorem nd_Q_trim_43 : decode nb_Q_trim 43 = .ok (.invokevirtual 51, 3) := by decide +kernel
theorem nd_Q_trim_46 : decode nb_Q_trim 46 = .ok (.putfield 19, 3) := by decide +kernel
theorem nd_Q_trim_49 : decode nb_Q_trim 49 = .ok (.return_, 1) := by decide +kernel
theorem nd_L_fill_0 : decode nb_L_fill 0 = .ok (.aload 7, 2) := by decide +kernel
theorem nd_L_fill_2 : decode nb_L_fill 2 = .ok (.iconst 0, 1) := by decide +kernel
theorem nd_L_fill_3 : decode nb_L_fill 3 = .ok (.aload_n 0, 1) := by decide +kernel
theorem nd_L_fill_4 : decode nb_L_fill 4 = .ok (.iload_n 1, 1) := by decide +kernel
theorem nd_L_fill_5 : decode nb_L_fill 5 = .ok (.lload_n 2, 1) := by decide +kernel
theorem nd_L_fill_6 : decode nb_L_fill 6 = .ok (.lload 4, 2) := by decide +kernel
theorem nd_L_fill_8 : decode nb_L_fill 8 = .ok (.iload 6, 2) := by decide +kernel
theorem nd_L_fill_10 : decode nb_L_fill 10 = .ok (.invokevirtual 34, 3) := by decide +kernel
theorem nd_L_fill_13 : decode nb_L_fill 13 = .ok (.i2l, 1) := by decide +kernel
theorem nd_L_fill_14 : decode nb_L_fill 14 = .ok (.lastore, 1) := by decide +kernel
theorem nd_L_fill_15 : decode nb_L_fill 15 = .ok (.goto 7, 3) := by decide +kernel
theorem nd_L_fill_18 : decode nb_L_fill 18 = .ok (.astore 8, 2) := by decide +kernel
theorem nd_L_fill_20 : decode nb_L_fill 20 = .ok (.iconst 1, 1) := by decide +kernel
theorem nd_L_fill_21 : decode nb_L_fill 21 = .ok (.ireturn, 1) := by decide +kernel
theorem nd_L_fill_22 : decode nb_L_fill 22 = .ok (.iconst 0, 1) := by decide +kernel
theorem nd_L_fill_23 : decode nb_L_fill 23 = .ok (.ireturn, 1) := by decide +kernel
theorem nd_S_fill_0 : decode nb_S_fill 0 = .ok (.iload_n 1, 1) := by decide +kernel
theorem nd_S_fill_1 : decode nb_S_fill 1 = .ok (.invokestatic 30, 3) := by decide +kernel
theorem nd_S_fill_4 : decode nb_S_fill 4 = .ok (.iload 6, 2) := by decide +kernel
theorem nd_S_fill_6 : decode nb_S_fill 6 = .ok (.iconst 0, 1) := by decide +kernel
theorem nd_S_fill_7 : decode nb_S_fill 7 = .ok (.sipush 2000, 3) := by decide +kernel
theorem nd_S_fill_10 : decode nb_S_fill 10 = .ok (.invokestatic 78, 3) := by decide +kernel
theorem nd_S_fill_13 : decode nb_S_fill 13 = .ok (.aload_n 0, 1) := by decide +kernel
theorem nd_S_fill_14 : decode nb_S_fill 14 = .ok (.aload_n 0, 1) := by decide +kernel
theorem nd_S_fill_15 : decode nb_S_fill 15 = .ok (.getfield 13, 3) := by decide +kernel
theorem nd_S_fill_18 : decode nb_S_fill 18 = .ok (.invokevirtual 38, 3) := by decide +kernel
theorem nd_S_fill_21 : decode nb_S_fill 21 = .ok (.astore 7, 2) := by decide +kernel
theorem nd_S_fill_23 : decode nb_S_fill 23 = .ok (.lload_n 2, 1) := by decide +kernel
theorem nd_S_fill_24 : decode nb_S_fill 24 = .ok (.lstore 8, 2) := by decide +kernel
theorem nd_S_fill_26 : decode nb_S_fill 26 = .ok (.iconst 0, 1) := by decide +kernel
theorem nd_S_fill_27 : decode nb_S_fill 27 = .ok (.istore 10, 2) := by decide +kernel
theorem nd_S_fill_29 : decode nb_S_fill 29 = .ok (.iload 10, 2) := by decide +kernel
theorem nd_S_fill_31 : decode nb_S_fill 31 = .ok (.iload 6, 2) := by decide +kernel
theorem nd_S_fill_33 : decode nb_S_fill 33 = .ok (.if_icmp .ge 23, 3) := by decide +kernel
theorem nd_S_fill_36 : decode nb_S_fill 36 = .ok (.aload 7, 2) := by decide +kernel
theorem nd_S_fill_38 : decode nb_S_fill 38 = .ok (.lload 8, 2) := by decide +kernel
theorem nd_S_fill_40 : decode nb_S_fill 40 = .ok (.invokevirtual 42, 3) := by decide +kernel
theorem nd_S_fill_43 : decode nb_S_fill 43 = .ok (.lload 8, 2) := by decide +kernel
theorem nd_S_fill_45 : decode nb_S_fill 45 = .ok (.lload 4, 2) := by decide +kernel
theorem nd_S_fill_47 : decode nb_S_fill 47 = .ok (.ladd, 1) := by decide +kernel
theorem nd_S_fill_48 : decode nb_S_fill 48 = .ok (.lstore 8, 2) := by decide +kernel
theorem nd_S_fill_50 : decode nb_S_fill 50 = .ok (.iinc 10 1, 3) := by decide +kernel
theorem nd_S_fill_53 : decode nb_S_fill 53 = .ok (.goto (-24), 3) := by decide +kernel
theorem nd_S_fill_56 : decode nb_S_fill 56 = .ok (.aload_n 0, 1) := by decide +kernel
theorem nd_S_fill_57 : decode nb_S_fill 57 = .ok (.getfield 19, 3) := by decide +kernel
theorem nd_S_fill_60 : decode nb_S_fill 60 = .ok (.iload_n 1, 1) := by decide +kernel
theorem nd_S_fill_61 : decode nb_S_fill 61 = .ok (.aload 7, 2) := by decide +kernel
theorem nd_S_fill_63 : decode nb_S_fill 63 = .ok (.aastore, 1) := by decide +kernel
theorem nd_S_fill_64 : decode nb_S_fill 64 = .ok (.iload 6, 2) := by decide +kernel
theorem nd_S_fill_66 : decode nb_S_fill 66 = .ok (.ireturn, 1) := by decide +kernel
theorem nd_L_size_0 : decode nb_L_size 0 = .ok (.aload_n 2, 1) := by decide +kernel
theorem nd_L_size_1 : decode nb_L_size 1 = .ok (.iconst 0, 1) := by decide +kernel
theorem nd_L_size_2 : decode nb_L_size 2 = .ok (.aload_n 0, 1) := by decide +kernel
theorem nd_L_size_3 : decode nb_L_size 3 = .ok (.iload_n 1, 1) := by decide +kernel
theorem nd_L_size_4 : decode nb_L_size 4 = .ok (.invokevirtual 38, 3) := by decide +kernel
theorem nd_L_size_7 : decode nb_L_size 7 = .ok (.i2l, 1) := by decide +kernel
theorem nd_L_size_8 : decode nb_L_size 8 = .ok (.lastore, 1) := by decide +kernel
theorem nd_L_size_9 : decode nb_L_size 9 = .ok (.goto 6, 3) := by decide +kernel
theorem nd_L_size_12 : decode nb_L_size 12 = .ok (.astore_n 3, 1) := by decide +kernel
theorem nd_L_size_13 : decode nb_L_size 13 = .ok (.iconst 1, 1) := by decide +kernel
theorem nd_L_size_14 : decode nb_L_size 14 = .ok (.ireturn, 1) := by decide +kernel
theorem nd_L_size_15 : decode nb_L_size 15 = .ok (.iconst 0, 1) := by decide +kernel
theorem nd_L_size_16 : decode nb_L_size 16 = .ok (.ireturn, 1) := by decide +kernel
theorem nd_S_size_0 : decode nb_S_size 0 = .ok (.iload_n 1, 1) := by decide +kernel
theorem nd_S_size_1 : decode nb_S_size 1 = .ok (.invokestatic 30, 3) := by decide +kernel
theorem nd_S_size_4 : decode nb_S_size 4 = .ok (.aload_n 0, 1) := by decide +kernel
theorem nd_S_size_5 : decode nb_S_size 5 = .ok (.getfield 19, 3) := by decide +kernel
theorem nd_S_size_8 : decode nb_S_size 8 = .ok (.iload_n 1, 1) := by decide +kernel
theorem nd_S_size_9 : decode nb_S_size 9 = .ok (.aaload, 1) := by decide +kernel
theorem nd_S_size_10 : decode nb_S_size 10 = .ok (.getfield 46, 3) := by decide +kernel
theorem nd_S_size_13 : decode nb_S_size 13 = .ok (.ireturn, 1) := by decide +kernel
theorem nd_L_hash_0 : decode nb_L_hash 0 = .ok (.aload_n 2, 1) := by decide +kernel
theorem nd_L_hash_1 : decode nb_L_hash 1 = .ok (.iconst 0, 1) := by decide +kernel
theorem nd_L_hash_2 : decode nb_L_hash 2 = .ok (.aload_n 0, 1) := by decide +kernel
theorem nd_L_hash_3 : decode nb_L_hash 3 = .ok (.iload_n 1, 1) := by decide +kernel
theorem nd_L_hash_4 : decode nb_L_hash 4 = .ok (.invokevirtual 42, 3) := by decide +kernel
theorem nd_L_hash_7 : decode nb_L_hash 7 = .ok (.lastore, 1) := by decide +kernel
theorem nd_L_hash_8 : decode nb_L_hash 8 = .ok (.goto 6, 3) := by decide +kernel
theorem nd_L_hash_11 : decode nb_L_hash 11 = .ok (.astore_n 3, 1) := by decide +kernel
theorem nd_L_hash_12 : decode nb_L_hash 12 = .ok (.iconst 1, 1) := by decide +kernel
theorem nd_L_hash_13 : decode nb_L_hash 13 = .ok (.ireturn, 1) := by decide +kernel
theorem nd_L_hash_14 : decode nb_L_hash 14 = .ok (.iconst 0, 1) := by decide +kernel
theorem nd_L_hash_15 : decode nb_L_hash 15 = .ok (.ireturn, 1) := by decide +kernel
theorem nd_S_hash_0 : decode nb_S_hash 0 = .ok (.iload_n 1, 1) := by decide +kernel
theorem nd_S_hash_1 : decode nb_S_hash 1 = .ok (.invokestatic 30, 3) := by decide +kernel
theorem nd_S_hash_4 : decode nb_S_hash 4 = .ok (.aload_n 0, 1) := by decide +kernel
theorem nd_S_hash_5 : decode nb_S_hash 5 = .ok (.getfield 19, 3) := by decide +kernel
theorem nd_S_hash_8 : decode nb_S_hash 8 = .ok (.iload_n 1, 1) := by decide +kernel
theorem nd_S_hash_9 : decode nb_S_hash 9 = .ok (.aaload, 1) := by decide +kernel
theorem nd_S_hash_10 : decode nb_S_hash 10 = .ok (.astore_n 2, 1) := by decide +kernel
theorem nd_S_hash_11 : decode nb_S_hash 11 = .ok (.lconst 1, 1) := by decide +kernel
theorem nd_S_hash_12 : decode nb_S_hash 12 = .ok (.lstore_n 3, 1) := by decide +kernel
theorem nd_S_hash_13 : decode nb_S_hash 13 = .ok (.iconst 0, 1) := by decide +kernel
theorem nd_S_hash_14 : decode nb_S_hash 14 = .ok (.istore 5, 2) := by decide +kernel
theorem nd_S_hash_16 : decode nb_S_hash 16 = .ok (.iload 5, 2) := by decide +kernel
theorem nd_S_hash_18 : decode nb_S_hash 18 = .ok (.aload_n 2, 1) := by decide +kernel
theorem nd_S_hash_19 : decode nb_S_hash 19 = .ok (.getfield 46, 3) := by decide +kernel
theorem nd_S_hash_22 : decode nb_S_hash 22 = .ok (.if_icmp .ge 22, 3) := by decide +kernel
theorem nd_S_hash_25 : decode nb_S_hash 25 = .ok (.ldc2_w 82, 3) := by decide +kernel
theorem nd_S_hash_28 : decode nb_S_hash 28 = .ok (.lload_n 3, 1) := by decide +kernel
theorem nd_S_hash_29 : decode nb_S_hash 29 = .ok (.lmul, 1) := by decide +kernel
theorem nd_S_hash_30 : decode nb_S_hash 30 = .ok (.aload_n 2, 1) := by decide +kernel
theorem nd_S_hash_31 : decode nb_S_hash 31 = .ok (.iload 5, 2) := by decide +kernel
theorem nd_S_hash_33 : decode nb_S_hash 33 = .ok (.invokevirtual 56, 3) := by decide +kernel
theorem nd_S_hash_36 : decode nb_S_hash 36 = .ok (.ladd, 1) := by decide +kernel
theorem nd_S_hash_37 : decode nb_S_hash 37 = .ok (.lstore_n 3, 1) := by decide +kernel
theorem nd_S_hash_38 : decode nb_S_hash 38 = .ok (.iinc 5 1, 3) := by decide +kernel
theorem nd_S_hash_41 : decode nb_S_hash 41 = .ok (.goto (-25), 3) := by decide +kernel
theorem nd_S_hash_44 : decode nb_S_hash 44 = .ok (.lload_n 3, 1) := by decide +kernel
theorem nd_S_hash_45 : decode nb_S_hash 45 = .ok (.lreturn, 1) := by decide +kernel
theorem nd_L_open_0 : decode nb_L_open 0 = .ok (.aload_n 0, 1) := by decide +kernel
theorem nd_L_open_1 : decode nb_L_open 1 = .ok (.iload_n 1, 1) := by decide +kernel
theorem nd_L_open_2 : decode nb_L_open 2 = .ok (.invokevirtual 46, 3) := by decide +kernel
theorem nd_L_open_5 : decode nb_L_open 5 = .ok (.goto 9, 3) := by decide +kernel
theorem nd_L_open_8 : decode nb_L_open 8 = .ok (.astore_n 2, 1) := by decide +kernel
theorem nd_L_open_9 : decode nb_L_open 9 = .ok (.iconst 1, 1) := by decide +kernel
theorem nd_L_open_10 : decode nb_L_open 10 = .ok (.ireturn, 1) := by decide +kernel
theorem nd_L_open_11 : decode nb_L_open 11 = .ok (.astore_n 2, 1) := by decide +kernel
theorem nd_L_open_12 : decode nb_L_open 12 = .ok (.iconst 2, 1) := by decide +kernel
theorem nd_L_open_13 : decode nb_L_open 13 = .ok (.ireturn, 1) := by decide +kernel
theorem nd_L_open_14 : decode nb_L_open 14 = .ok (.iconst 0, 1) := by decide +kernel
theorem nd_L_open_15 : decode nb_L_open 15 = .ok (.ireturn, 1) := by decide +kernel
theorem nd_S_open_0 : decode nb_S_open 0 = .ok (.iload_n 1, 1) := by decide +kernel
theorem nd_S_open_1 : decode nb_S_open 1 = .ok (.invokestatic 30, 3) := by decide +kernel
theorem nd_S_open_4 : decode nb_S_open 4 = .ok (.aload_n 0, 1) := by decide +kernel
theorem nd_S_open_5 : decode nb_S_open 5 = .ok (.getfield 23, 3) := by decide +kernel
theorem nd_S_open_8 : decode nb_S_open 8 = .ok (.ifnull 13, 3) := by decide +kernel
theorem nd_S_open_11 : decode nb_S_open 11 = .ok (.new 84, 3) := by decide +kernel
theorem nd_S_open_14 : decode nb_S_open 14 = .ok (.dup, 1) := by decide +kernel
theorem nd_S_open_15 : decode nb_S_open 15 = .ok (.ldc 86, 2) := by decide +kernel
theorem nd_S_open_17 : decode nb_S_open 17 = .ok (.invokespecial 88, 3) := by decide +kernel
theorem nd_S_open_20 : decode nb_S_open 20 = .ok (.athrow, 1) := by decide +kernel
theorem nd_S_open_21 : decode nb_S_open 21 = .ok (.aload_n 0, 1) := by decide +kernel
theorem nd_S_open_22 : decode nb_S_open 22 = .ok (.aload_n 0, 1) := by decide +kernel
theorem nd_S_open_23 : decode nb_S_open 23 = .ok (.aload_n 0, 1) := by decide +kernel
theorem nd_S_open_24 : decode nb_S_open 24 = .ok (.getfield 19, 3) := by decide +kernel
theorem nd_S_open_27 : decode nb_S_open 27 = .ok (.iload_n 1, 1) := by decide +kernel
theorem nd_S_open_28 : decode nb_S_open 28 = .ok (.aaload, 1) := by decide +kernel
theorem nd_S_open_29 : decode nb_S_open 29 = .ok (.invokevirtual 38, 3) := by decide +kernel
theorem nd_S_open_32 : decode nb_S_open 32 = .ok (.putfield 23, 3) := by decide +kernel
theorem nd_S_open_35 : decode nb_S_open 35 = .ok (.return_, 1) := by decide +kernel
theorem nd_L_build_0 : decode nb_L_build 0 = .ok (.aload 5, 2) := by decide +kernel
theorem nd_L_build_2 : decode nb_L_build 2 = .ok (.iconst 0, 1) := by decide +kernel
theorem nd_L_build_3 : decode nb_L_build 3 = .ok (.aload_n 0, 1) := by decide +kernel
theorem nd_L_build_4 : decode nb_L_build 4 = .ok (.iload_n 1, 1) := by decide +kernel
theorem nd_L_build_5 : decode nb_L_build 5 = .ok (.iload_n 2, 1) := by decide +kernel
theorem nd_L_build_6 : decode nb_L_build 6 = .ok (.lload_n 3, 1) := by decide +kernel
theorem nd_L_build_7 : decode nb_L_build 7 = .ok (.invokevirtual 52, 3) := by decide +kernel
theorem nd_L_build_10 : decode nb_L_build 10 = .ok (.i2l, 1) := by decide +kernel
theorem nd_L_build_11 : decode nb_L_build 11 = .ok (.lastore, 1) := by decide +kernel
theorem nd_L_build_12 : decode nb_L_build 12 = .ok (.goto 19, 3) := by decide +kernel
theorem nd_L_build_15 : decode nb_L_build 15 = .ok (.astore 6, 2) := by decide +kernel
theorem nd_L_build_17 : decode nb_L_build 17 = .ok (.iconst 1, 1) := by decide +kernel
theorem nd_L_build_18 : decode nb_L_build 18 = .ok (.ireturn, 1) := by decide +kernel
theorem nd_L_build_19 : decode nb_L_build 19 = .ok (.astore 6, 2) := by decide +kernel
theorem nd_L_build_21 : decode nb_L_build 21 = .ok (.iconst 2, 1) := by decide +kernel
theorem nd_L_build_22 : decode nb_L_build 22 = .ok (.ireturn, 1) := by decide +kernel
theorem nd_L_build_23 : decode nb_L_build 23 = .ok (.astore 6, 2) := by decide +kernel
theorem nd_L_build_25 : decode nb_L_build 25 = .ok (.iconst 3, 1) := by decide +kernel
theorem nd_L_build_26 : decode nb_L_build 26 = .ok (.ireturn, 1) := by decide +kernel
theorem nd_L_build_27 : decode nb_L_build 27 = .ok (.astore 6, 2) := by decide +kernel
theorem nd_L_build_29 : decode nb_L_build 29 = .ok (.iconst 4, 1) := by decide +kernel
theorem nd_L_build_30 : decode nb_L_build 30 = .ok (.ireturn, 1) := by decide +kernel
theorem nd_L_build_31 : decode nb_L_build 31 = .ok (.iconst 0, 1) := by decide +kernel
theorem nd_L_build_32 : decode nb_L_build 32 = .ok (.ireturn, 1) := by decide +kernel
theorem nd_S_build_0 : decode nb_S_build 0 = .ok (.iload_n 1, 1) := by decide +kernel
theorem nd_S_build_1 : decode nb_S_build 1 = .ok (.iconst 0, 1) := by decide +kernel
theorem nd_S_build_2 : decode nb_S_build 2 = .ok (.iconst 2, 1) := by decide +kernel
theorem nd_S_build_3 : decode nb_S_build 3 = .ok (.invokestatic 78, 3) := by decide +kernel
theorem nd_S_build_6 : decode nb_S_build 6 = .ok (.aload_n 0, 1) := by decide +kernel
theorem nd_S_build_7 : decode nb_S_build 7 = .ok (.invokevirtual 89, 3) := by decide +kernel
theorem nd_S_build_10 : decode nb_S_build 10 = .ok (.astore 5, 2) := by decide +kernel
theorem nd_S_build_12 : decode nb_S_build 12 = .ok (.iload_n 1, 1) := by decide +kernel
theorem nd_S_build_13 : decode nb_S_build 13 = .ok (.ifCond .ne 17, 3) := by decide +kernel
theorem nd_S_build_16 : decode nb_S_build 16 = .ok (.aload 5, 2) := by decide +kernel
theorem nd_S_build_18 : decode nb_S_build 18 = .ok (.invokestatic 34, 3) := by decide +kernel
theorem nd_S_build_21 : decode nb_S_build 21 = .ok (.aload 5, 2) := by decide +kernel
theorem nd_S_build_23 : decode nb_S_build 23 = .ok (.lload_n 3, 1) := by decide +kernel
theorem nd_S_build_24 : decode nb_S_build 24 = .ok (.invokevirtual 42, 3) := by decide +kernel
theorem nd_S_build_27 : decode nb_S_build 27 = .ok (.goto 37, 3) := by decide +kernel
theorem nd_S_build_30 : decode nb_S_build 30 = .ok (.iload_n 1, 1) := by decide +kernel
theorem nd_S_build_31 : decode nb_S_build 31 = .ok (.iconst 1, 1) := by decide +kernel
theorem nd_S_build_32 : decode nb_S_build 32 = .ok (.if_icmp .ne 19, 3) := by decide +kernel
theorem nd_S_build_35 : decode nb_S_build 35 = .ok (.aload 5, 2) := by decide +kernel
theorem nd_S_build_37 : decode nb_S_build 37 = .ok (.iload_n 2, 1) := by decide +kernel
theorem nd_S_build_38 : decode nb_S_build 38 = .ok (.invokestatic 52, 3) := by decide +kernel
theorem nd_S_build_41 : decode nb_S_build 41 = .ok (.aload 5, 2) := by decide +kernel
theorem nd_S_build_43 : decode nb_S_build 43 = .ok (.iload_n 2, 1) := by decide +kernel
theorem nd_S_build_44 : decode nb_S_build 44 = .ok (.lload_n 3, 1) := by decide +kernel
theorem nd_S_build_45 : decode nb_S_build 45 = .ok (.invokevirtual 60, 3) := by decide +kernel
theorem nd_S_build_48 : decode nb_S_build 48 = .ok (.goto 16, 3) := by decide +kernel
theorem nd_S_build_51 : decode nb_S_build 51 = .ok (.aload 5, 2) := by decide +kernel
theorem nd_S_build_53 : decode nb_S_build 53 = .ok (.iconst 0, 1) := by decide +kernel
theorem nd_S_build_54 : decode nb_S_build 54 = .ok (.invokestatic 52, 3) := by decide +kernel
theorem nd_S_build_57 : decode nb_S_build 57 = .ok (.aload 5, 2) := by decide +kernel
theorem nd_S_build_59 : decode nb_S_build 59 = .ok (.iconst 0, 1) := by decide +kernel
theorem nd_S_build_60 : decode nb_S_build 60 = .ok (.iconst 1, 1) := by decide +kernel
theorem nd_S_build_61 : decode nb_S_build 61 = .ok (.invokevirtual 74, 3) := by decide +kernel
theorem nd_S_build_64 : decode nb_S_build 64 = .ok (.aload 5, 2) := by decide +kernel
theorem nd_S_build_66 : decode nb_S_build 66 = .ok (.getfield 46, 3) := by decide +kernel
theorem nd_S_build_69 : decode nb_S_build 69 = .ok (.ireturn, 1) := by decide +kernel
theorem nd_S_presentBuilder_0 : decode nb_S_presentBuilder 0 = .ok (.aload_n 0, 1) := by decide +kernel
theorem nd_S_presentBuilder_1 : decode nb_S_presentBuilder 1 = .ok (.getfield 23, 3) := by decide +kernel
theorem nd_S_presentBuilder_4 : decode nb_S_presentBuilder 4 = .ok (.ifnonnull 13, 3) := by decide +kernel
theorem nd_S_presentBuilder_7 : decode nb_S_presentBuilder 7 = .ok (.new 84, 3) := by decide +kernel
theorem nd_S_presentBuilder_10 : decode nb_S_presentBuilder 10 = .ok (.dup, 1) := by decide +kernel
theorem nd_S_presentBuilder_11 : decode nb_S_presentBuilder 11 = .ok (.ldc 92, 2) := by decide +kernel
theorem nd_S_presentBuilder_13 : decode nb_S_presentBuilder 13 = .ok (.invokespecial 88, 3) := by decide +kernel
theorem nd_S_presentBuilder_16 : decode nb_S_presentBuilder 16 = .ok (.athrow, 1) := by decide +kernel
theorem nd_S_presentBuilder_17 : decode nb_S_presentBuilder 17 = .ok (.aload_n 0, 1) := by decide +kernel
theorem nd_S_presentBuilder_18 : decode nb_S_presentBuilder 18 = .ok (.getfield 23, 3) := by decide +kernel
theorem nd_S_presentBuilder_21 : decode nb_S_presentBuilder 21 = .ok (.areturn, 1) := by decide +kernel
theorem nd_L_freeze_0 : decode nb_L_freeze 0 = .ok (.aload_n 2, 1) := by decide +kernel
theorem nd_L_freeze_1 : decode nb_L_freeze 1 = .ok (.iconst 0, 1) := by decide +kernel
theorem nd_L_freeze_2 : decode nb_L_freeze 2 = .ok (.aload_n 0, 1) := by decide +kernel
theorem nd_L_freeze_3 : decode nb_L_freeze 3 = .ok (.iload_n 1, 1) := by decide +kernel
theorem nd_L_freeze_4 : decode nb_L_freeze 4 = .ok (.invokevirtual 55, 3) := by decide +kernel
theorem nd_L_freeze_7 : decode nb_L_freeze 7 = .ok (.i2l, 1) := by decide +kernel
theorem nd_L_freeze_8 : decode nb_L_freeze 8 = .ok (.lastore, 1) := by decide +kernel
theorem nd_L_freeze_9 : decode nb_L_freeze 9 = .ok (.goto 9, 3) := by decide +kernel
theorem nd_L_freeze_12 : decode nb_L_freeze 12 = .ok (.astore_n 3, 1) := by decide +kernel
theorem nd_L_freeze_13 : decode nb_L_freeze 13 = .ok (.iconst 1, 1) := by decide +kernel
theorem nd_L_freeze_14 : decode nb_L_freeze 14 = .ok (.ireturn, 1) := by decide +kernel
theorem nd_L_freeze_15 : decode nb_L_freeze 15 = .ok (.astore_n 3, 1) := by decide +kernel
theorem nd_L_freeze_16 : decode nb_L_freeze 16 = .ok (.iconst 2, 1) := by decide +kernel
theorem nd_L_freeze_17 : decode nb_L_freeze 17 = .ok (.ireturn, 1) := by decide +kernel
theorem nd_L_freeze_18 : decode nb_L_freeze 18 = .ok (.iconst 0, 1) := by decide +kernel
theorem nd_L_freeze_19 : decode nb_L_freeze 19 = .ok (.ireturn, 1) := by decide +kernel
theorem nd_S_freeze_0 : decode nb_S_freeze 0 = .ok (.iload_n 1, 1) := by decide +kernel
theorem nd_S_freeze_1 : decode nb_S_freeze 1 = .ok (.invokestatic 30, 3) := by decide +kernel
theorem nd_S_freeze_4 : decode nb_S_freeze 4 = .ok (.aload_n 0, 1) := by decide +kernel
theorem nd_S_freeze_5 : decode nb_S_freeze 5 = .ok (.invokevirtual 89, 3) := by decide +kernel
theorem nd_S_freeze_8 : decode nb_S_freeze 8 = .ok (.astore_n 2, 1) := by decide +kernel
theorem nd_S_freeze_9 : decode nb_S_freeze 9 = .ok (.aload_n 0, 1) := by decide +kernel
theorem nd_S_freeze_10 : decode nb_S_freeze 10 = .ok (.getfield 19, 3) := by decide +kernel
theorem nd_S_freeze_13 : decode nb_S_freeze 13 = .ok (.iload_n 1, 1) := by decide +kernel
theorem nd_S_freeze_14 : decode nb_S_freeze 14 = .ok (.aload_n 2, 1) := by decide +kernel
theorem nd_S_freeze_15 : decode nb_S_freeze 15 = .ok (.aastore, 1) := by decide +kernel
theorem nd_S_freeze_16 : decode nb_S_freeze 16 = .ok (.aload_n 0, 1) := by decide +kernel
theorem nd_S_freeze_17 : decode nb_S_freeze 17 = .ok (.aconst_null, 1) := by decide +kernel
theorem nd_S_freeze_18 : decode nb_S_freeze 18 = .ok (.putfield 23, 3) := by decide +kernel
theorem nd_S_freeze_21 : decode nb_S_freeze 21 = .ok (.aload_n 2, 1) := by decide +kernel
theorem nd_S_freeze_22 : decode nb_S_freeze 22 = .ok (.getfield 46, 3) := by decide +kernel
theorem nd_S_freeze_25 : decode nb_S_freeze 25 = .ok (.ireturn, 1) := by decide +kernel
theorem nd_M_init_0 : decode nb_M_init 0 = .ok (.aload_n 0, 1) := by decide +kernel
theorem nd_M_init_1 : decode nb_M_init 1 = .ok (.invokespecial 1, 3) := by decide +kernel
theorem nd_M_init_4 : decode nb_M_init 4 = .ok (.aload_n 0, 1) := by decide +kernel
theorem nd_M_init_5 : decode nb_M_init 5 = .ok (.bipush 17, 2) := by decide +kernel
theorem nd_M_init_7 : decode nb_M_init 7 = .ok (.sipush 3000, 3) := by decide +kernel
theorem nd_M_init_10 : decode nb_M_init 10 = .ok (.multianewarray 9 2, 4) := by decide +kernel
theorem nd_M_init_14 : decode nb_M_init 14 = .ok (.putfield 11, 3) := by decide +kernel
theorem nd_M_init_17 : decode nb_M_init 17 = .ok (.aload_n 0, 1) := by decide +kernel
theorem nd_M_init_18 : decode nb_M_init 18 = .ok (.bipush 17, 2) := by decide +kernel
theorem nd_M_init_20 : decode nb_M_init 20 = .ok (.newarray .int, 2) := by decide +kernel
theorem nd_M_init_22 : decode nb_M_init 22 = .ok (.putfield 14, 3) := by decide +kernel
theorem nd_M_init_25 : decode nb_M_init 25 = .ok (.return_, 1) := by decide +kernel
theorem nd_M_thrown_0 : decode nb_M_thrown 0 = .ok (.aload_n 0, 1) := by decide +kernel
theorem nd_M_thrown_1 : decode nb_M_thrown 1 = .ok (.getfield 18, 3) := by decide +kernel
theorem nd_M_thrown_4 : decode nb_M_thrown 4 = .ok (.ireturn, 1) := by decide +kernel
theorem nd_M_add_0 : decode nb_M_add 0 = .ok (.aload_n 0, 1) := by decide +kernel
theorem nd_M_add_1 : decode nb_M_add 1 = .ok (.iload_n 1, 1) := by decide +kernel
theorem nd_M_add_2 : decode nb_M_add 2 = .ok (.invokestatic 22, 3) := by decide +kernel
theorem nd_M_add_5 : decode nb_M_add 5 = .ok (.ifCond .eq 14, 3) := by decide +kernel
theorem nd_M_add_8 : decode nb_M_add 8 = .ok (.iload_n 2, 1) := by decide +kernel
theorem nd_M_add_9 : decode nb_M_add 9 = .ok (.invokestatic 22, 3) := by decide +kernel
theorem nd_M_add_12 : decode nb_M_add 12 = .ok (.ifCond .eq 7, 3) := by decide +kernel
theorem nd_M_add_15 : decode nb_M_add 15 = .ok (.iconst 1, 1) := by decide +kernel
theorem nd_M_add_16 : decode nb_M_add 16 = .ok (.goto 4, 3) := by decide +kernel
theorem nd_M_add_19 : decode nb_M_add 19 = .ok (.iconst 0, 1) := by decide +kernel
theorem nd_M_add_20 : decode nb_M_add 20 = .ok (.iconst 1, 1) := by decide +kernel
theorem nd_M_add_21 : decode nb_M_add 21 = .ok (.invokevirtual 26, 3) := by decide +kernel
theorem nd_M_add_24 : decode nb_M_add 24 = .ok (.ifCond .eq 28, 3) := by decide +kernel
theorem nd_M_add_27 : decode nb_M_add 27 = .ok (.aload_n 0, 1) := by decide +kernel
theorem nd_M_add_28 : decode nb_M_add 28 = .ok (.aload_n 0, 1) := by decide +kernel
theorem nd_M_add_29 : decode nb_M_add 29 = .ok (.getfield 14, 3) := by decide +kernel
theorem nd_M_add_32 : decode nb_M_add 32 = .ok (.iload_n 2, 1) := by decide +kernel
theorem nd_M_add_33 : decode nb_M_add 33 = .ok (.iaload, 1) := by decide +kernel
theorem nd_M_add_34 : decode nb_M_add 34 = .ok (.sipush 3000, 3) := by decide +kernel
theorem nd_M_add_37 : decode nb_M_add 37 = .ok (.if_icmp .ge 7, 3) := by decide +kernel
theorem nd_M_add_40 : decode nb_M_add 40 = .ok (.iconst 1, 1) := by decide +kernel
theorem nd_M_add_41 : decode nb_M_add 41 = .ok (.goto 4, 3) := by decide +kernel
theorem nd_M_add_44 : decode nb_M_add 44 = .ok (.iconst 0, 1) := by decide +kernel
theorem nd_M_add_45 : decode nb_M_add 45 = .ok (.iconst 2, 1) := by decide +kernel
theorem nd_M_add_46 : decode nb_M_add 46 = .ok (.invokevirtual 26, 3) := by decide +kernel
theorem nd_M_add_49 : decode nb_M_add 49 = .ok (.ifCond .ne 5, 3) := by decide +kernel
theorem nd_M_add_52 : decode nb_M_add 52 = .ok (.iconst 0, 1) := by decide +kernel
theorem nd_M_add_53 : decode nb_M_add 53 = .ok (.ireturn, 1) := by decide +kernel
theorem nd_M_add_54 : decode nb_M_add 54 = .ok (.aload_n 0, 1) := by decide +kernel
theorem nd_M_add_55 : decode nb_M_add 55 = .ok (.iload_n 1, 1) := by decide +kernel
theorem nd_M_add_56 : decode nb_M_add 56 = .ok (.iload_n 2, 1) := by decide +kernel
theorem nd_M_add_57 : decode nb_M_add 57 = .ok (.invokevirtual 30, 3) := by decide +kernel
theorem nd_M_add_60 : decode nb_M_add 60 = .ok (.aload_n 0, 1) := by decide +kernel
theorem nd_M_add_61 : decode nb_M_add 61 = .ok (.getfield 11, 3) := by decide +kernel
theorem nd_M_add_64 : decode nb_M_add 64 = .ok (.iload_n 1, 1) := by decide +kernel
theorem nd_M_add_65 : decode nb_M_add 65 = .ok (.aaload, 1) := by decide +kernel
theorem nd_M_add_66 : decode nb_M_add 66 = .ok (.aload_n 0, 1) := by decide +kernel
theorem nd_M_add_67 : decode nb_M_add 67 = .ok (.getfield 14, 3) := by decide +kernel
theorem nd_M_add_70 : decode nb_M_add 70 = .ok (.iload_n 1, 1) := by decide +kernel
theorem nd_M_add_71 : decode nb_M_add 71 = .ok (.iaload, 1) := by decide +kernel
theorem nd_M_add_72 : decode nb_M_add 72 = .ok (.lload_n 3, 1) := by decide +kernel
theorem nd_M_add_73 : decode nb_M_add 73 = .ok (.lastore, 1) := by decide +kernel
theorem nd_M_add_74 : decode nb_M_add 74 = .ok (.aload_n 0, 1) := by decide +kernel
theorem nd_M_add_75 : decode nb_M_add 75 = .ok (.getfield 14, 3) := by decide +kernel
theorem nd_M_add_78 : decode nb_M_add 78 = .ok (.iload_n 1, 1) := by decide +kernel
theorem nd_M_add_79 : decode nb_M_add 79 = .ok (.dup2, 1) := by decide +kernel
theorem nd_M_add_80 : decode nb_M_add 80 = .ok (.iaload, 1) := by decide +kernel
theorem nd_M_add_81 : decode nb_M_add 81 = .ok (.iconst 1, 1) := by decide +kernel
theorem nd_M_add_82 : decode nb_M_add 82 = .ok (.iadd, 1) := by decide +kernel
theorem nd_M_add_83 : decode nb_M_add 83 = .ok (.iastore, 1) := by decide +kernel
theorem nd_M_add_84 : decode nb_M_add 84 = .ok (.aload_n 0, 1) := by decide +kernel
theorem nd_M_add_85 : decode nb_M_add 85 = .ok (.getfield 14, 3) := by decide +kernel
theorem nd_M_add_88 : decode nb_M_add 88 = .ok (.iload_n 1, 1) := by decide +kernel
theorem nd_M_add_89 : decode nb_M_add 89 = .ok (.iaload, 1) := by decide +kernel
theorem nd_M_add_90 : decode nb_M_add 90 = .ok (.ireturn, 1) := by decide +kernel
theorem nd_M_isSlot_0 : decode nb_M_isSlot 0 = .ok (.iload_n 0, 1) := by decide +kernel
theorem nd_M_isSlot_1 : decode nb_M_isSlot 1 = .ok (.ifCond .lt 13, 3) := by decide +kernel
theorem nd_M_isSlot_4 : decode nb_M_isSlot 4 = .ok (.iload_n 0, 1) := by decide +kernel
theorem nd_M_isSlot_5 : decode nb_M_isSlot 5 = .ok (.bipush 16, 2) := by decide +kernel
theorem nd_M_isSlot_7 : decode nb_M_isSlot 7 = .ok (.if_icmp .ge 7, 3) := by decide +kernel
theorem nd_M_isSlot_10 : decode nb_M_isSlot 10 = .ok (.iconst 1, 1) := by decide +kernel
theorem nd_M_isSlot_11 : decode nb_M_isSlot 11 = .ok (.goto 4, 3) := by decide +kernel
theorem nd_M_isSlot_14 : decode nb_M_isSlot 14 = .ok (.iconst 0, 1) := by decide +kernel
theorem nd_M_isSlot_15 : decode nb_M_isSlot 15 = .ok (.ireturn, 1) := by decide +kernel
theorem nd_M_good_0 : decode nb_M_good 0 = .ok (.aload_n 0, 1) := by decide +kernel
theorem nd_M_good_1 : decode nb_M_good 1 = .ok (.iload_n 1, 1) := by decide +kernel
theorem nd_M_good_2 : decode nb_M_good 2 = .ok (.ifCond .eq 7, 3) := by decide +kernel
theorem nd_M_good_5 : decode nb_M_good 5 = .ok (.iconst 0, 1) := by decide +kernel
theorem nd_M_good_6 : decode nb_M_good 6 = .ok (.goto 4, 3) := by decide +kernel
theorem nd_M_good_9 : decode nb_M_good 9 = .ok (.iload_n 2, 1) := by decide +kernel
theorem nd_M_good_10 : decode nb_M_good 10 = .ok (.putfield 18, 3) := by decide +kernel
theorem nd_M_good_13 : decode nb_M_good 13 = .ok (.iload_n 1, 1) := by decide +kernel
theorem nd_M_good_14 : decode nb_M_good 14 = .ok (.ireturn, 1) := by decide +kernel
theorem nd_M_copy_0 : decode nb_M_copy 0 = .ok (.iconst 0, 1) := by decide +kernel
theorem nd_M_copy_1 : decode nb_M_copy 1 = .ok (.istore_n 3, 1) := by decide +kernel
theorem nd_M_copy_2 : decode nb_M_copy 2 = .ok (.iload_n 3, 1) := by decide +kernel
theorem nd_M_copy_3 : decode nb_M_copy 3 = .ok (.aload_n 0, 1) := by decide +kernel
theorem nd_M_copy_4 : decode nb_M_copy 4 = .ok (.getfield 14, 3) := by decide +kernel
theorem nd_M_copy_7 : decode nb_M_copy 7 = .ok (.iload_n 2, 1) := by decide +kernel
theorem nd_M_copy_8 : decode nb_M_copy 8 = .ok (.iaload, 1) := by decide +kernel
theorem nd_M_copy_9 : decode nb_M_copy 9 = .ok (.if_icmp .ge 25, 3) := by decide +kernel
theorem nd_M_copy_12 : decode nb_M_copy 12 = .ok (.aload_n 0, 1) := by decide +kernel
theorem nd_M_copy_13 : decode nb_M_copy 13 = .ok (.getfield 11, 3) := by decide +kernel
theorem nd_M_copy_16 : decode nb_M_copy 16 = .ok (.iload_n 1, 1) := by decide +kernel
theorem nd_M_copy_17 : decode nb_M_copy 17 = .ok (.aaload, 1) := by decide +kernel
theorem nd_M_copy_18 : decode nb_M_copy 18 = .ok (.iload_n 3, 1) := by decide +kernel
theorem nd_M_copy_19 : decode nb_M_copy 19 = .ok (.aload_n 0, 1) := by decide +kernel
theorem nd_M_copy_20 : decode nb_M_copy 20 = .ok (.getfield 11, 3) := by decide +kernel
theorem nd_M_copy_23 : decode nb_M_copy 23 = .ok (.iload_n 2, 1) := by decide +kernel
theorem nd_M_copy_24 : decode nb_M_copy 24 = .ok (.aaload, 1) := by decide +kernel
theorem nd_M_copy_25 : decode nb_M_copy 25 = .ok (.iload_n 3, 1) := by decide +kernel
theorem nd_M_copy_26 : decode nb_M_copy 26 = .ok (.laload, 1) := by decide +kernel
theorem nd_M_copy_27 : decode nb_M_copy 27 = .ok (.lastore, 1) := by decide +kernel
theorem nd_M_copy_28 : decode nb_M_copy 28 = .ok (.iinc 3 1, 3) := by decide +kernel
theorem nd_M_copy_31 : decode nb_M_copy 31 = .ok (.goto (-29), 3) := by decide +kernel
theorem nd_M_copy_34 : decode nb_M_copy 34 = .ok (.aload_n 0, 1) := by decide +kernel
theorem nd_M_copy_35 : decode nb_M_copy 35 = .ok (.getfield 14, 3) := by decide +kernel
theorem nd_M_copy_38 : decode nb_M_copy 38 = .ok (.iload_n 1, 1) := by decide +kernel
theorem nd_M_copy_39 : decode nb_M_copy 39 = .ok (.aload_n 0, 1) := by decide +kernel
theorem nd_M_copy_40 : decode nb_M_copy 40 = .ok (.getfield 14, 3) := by decide +kernel
theorem nd_M_copy_43 : decode nb_M_copy 43 = .ok (.iload_n 2, 1) := by decide +kernel
theorem nd_M_copy_44 : decode nb_M_copy 44 = .ok (.iaload, 1) := by decide +kernel
theorem nd_M_copy_45 : decode nb_M_copy 45 = .ok (.iastore, 1) := by decide +kernel
theorem nd_M_copy_46 : decode nb_M_copy 46 = .ok (.return_, 1) := by decide +kernel
theorem nd_M_push_0 : decode nb_M_push 0 = .ok (.aload_n 0, 1) := by decide +kernel
theorem nd_M_push_1 : decode nb_M_push 1 = .ok (.iload_n 1, 1) := by decide +kernel
theorem nd_M_push_2 : decode nb_M_push 2 = .ok (.invokestatic 22, 3) := by decide +kernel
theorem nd_M_push_5 : decode nb_M_push 5 = .ok (.ifCond .eq 14, 3) := by decide +kernel
theorem nd_M_push_8 : decode nb_M_push 8 = .ok (.iload_n 2, 1) := by decide +kernel
theorem nd_M_push_9 : decode nb_M_push 9 = .ok (.invokestatic 22, 3) := by decide +kernel
theorem nd_M_push_12 : decode nb_M_push 12 = .ok (.ifCond .eq 7, 3) := by decide +kernel
theorem nd_M_push_15 : decode nb_M_push 15 = .ok (.iconst 1, 1) := by decide +kernel
theorem nd_M_push_16 : decode nb_M_push 16 = .ok (.goto 4, 3) := by decide +kernel
theorem nd_M_push_19 : decode nb_M_push 19 = .ok (.iconst 0, 1) := by decide +kernel
theorem nd_M_push_20 : decode nb_M_push 20 = .ok (.iconst 1, 1) := by decide +kernel
theorem nd_M_push_21 : decode nb_M_push 21 = .ok (.invokevirtual 26, 3) := by decide +kernel
theorem nd_M_push_24 : decode nb_M_push 24 = .ok (.ifCond .eq 28, 3) := by decide +kernel
theorem nd_M_push_27 : decode nb_M_push 27 = .ok (.aload_n 0, 1) := by decide +kernel
theorem nd_M_push_28 : decode nb_M_push 28 = .ok (.aload_n 0, 1) := by decide +kernel
theorem nd_M_push_29 : decode nb_M_push 29 = .ok (.getfield 14, 3) := by decide +kernel
theorem nd_M_push_32 : decode nb_M_push 32 = .ok (.iload_n 2, 1) := by decide +kernel
theorem nd_M_push_33 : decode nb_M_push 33 = .ok (.iaload, 1) := by decide +kernel
theorem nd_M_push_34 : decode nb_M_push 34 = .ok (.sipush 3000, 3) := by decide +kernel
theorem nd_M_push_37 : decode nb_M_push 37 = .ok (.if_icmp .ge 7, 3) := by decide +kernel
theorem nd_M_push_40 : decode nb_M_push 40 = .ok (.iconst 1, 1) := by decide +kernel
theorem nd_M_push_41 : decode nb_M_push 41 = .ok (.goto 4, 3) := by decide +kernel
theorem nd_M_push_44 : decode nb_M_push 44 = .ok (.iconst 0, 1) := by decide +kernel
theorem nd_M_push_45 : decode nb_M_push 45 = .ok (.iconst 2, 1) := by decide +kernel
theorem nd_M_push_46 : decode nb_M_push 46 = .ok (.invokevirtual 26, 3) := by decide +kernel
theorem nd_M_push_49 : decode nb_M_push 49 = .ok (.ifCond .ne 5, 3) := by decide +kernel
theorem nd_M_push_52 : decode nb_M_push 52 = .ok (.iconst 0, 1) := by decide +kernel
theorem nd_M_push_53 : decode nb_M_push 53 = .ok (.ireturn, 1) := by decide +kernel
theorem nd_M_push_54 : decode nb_M_push 54 = .ok (.aload_n 0, 1) := by decide +kernel
theorem nd_M_push_55 : decode nb_M_push 55 = .ok (.iload_n 1, 1) := by decide +kernel
theorem nd_M_push_56 : decode nb_M_push 56 = .ok (.iload_n 2, 1) := by decide +kernel
theorem nd_M_push_57 : decode nb_M_push 57 = .ok (.invokevirtual 30, 3) := by decide +kernel
theorem nd_M_push_60 : decode nb_M_push 60 = .ok (.aload_n 0, 1) := by decide +kernel
theorem nd_M_push_61 : decode nb_M_push 61 = .ok (.getfield 14, 3) := by decide +kernel
theorem nd_M_push_64 : decode nb_M_push 64 = .ok (.iload_n 1, 1) := by decide +kernel
theorem nd_M_push_65 : decode nb_M_push 65 = .ok (.iaload, 1) := by decide +kernel
theorem nd_M_push_66 : decode nb_M_push 66 = .ok (.istore 5, 2) := by decide +kernel
theorem nd_M_push_68 : decode nb_M_push 68 = .ok (.iload 5, 2) := by decide +kernel
theorem nd_M_push_70 : decode nb_M_push 70 = .ok (.ifCond .le 29, 3) := by decide +kernel
theorem nd_M_push_73 : decode nb_M_push 73 = .ok (.aload_n 0, 1) := by decide +kernel
theorem nd_M_push_74 : decode nb_M_push 74 = .ok (.getfield 11, 3) := by decide +kernel
theorem nd_M_push_77 : decode nb_M_push 77 = .ok (.iload_n 1, 1) := by decide +kernel
theorem nd_M_push_78 : decode nb_M_push 78 = .ok (.aaload, 1) := by decide +kernel
theorem nd_M_push_79 : decode nb_M_push 79 = .ok (.iload 5, 2) := by decide +kernel
theorem nd_M_push_81 : decode nb_M_push 81 = .ok (.aload_n 0, 1) := by decide +kernel
theorem nd_M_push_82 : decode nb_M_push 82 = .ok (.getfield 11, 3) := by decide +kernel
theorem nd_M_push_85 : decode nb_M_push 85 = .ok (.iload_n 1, 1) := by decide +kernel
theorem nd_M_push_86 : decode nb_M_push 86 = .ok (.aaload, 1) := by decide +kernel
theorem nd_M_push_87 : decode nb_M_push 87 = .ok (.iload 5, 2) := by decide +kernel
theorem nd_M_push_89 : decode nb_M_push 89 = .ok (.iconst 1, 1) := by decide +kernel
theorem nd_M_push_90 : decode nb_M_push 90 = .ok (.isub, 1) := by decide +kernel
theorem nd_M_push_91 : decode nb_M_push 91 = .ok (.laload, 1) := by decide +kernel
theorem nd_M_push_92 : decode nb_M_push 92 = .ok (.lastore, 1) := by decide +kernel
theorem nd_M_push_93 : decode nb_M_push 93 = .ok (.iinc 5 (-1), 3) := by decide +kernel
theorem nd_M_push_96 : decode nb_M_push 96 = .ok (.goto (-28), 3) := by decide +kernel
theorem nd_M_push_99 : decode nb_M_push 99 = .ok (.aload_n 0, 1) := by decide +kernel
theorem nd_M_push_100 : decode nb_M_push 100 = .ok (.getfield 11, 3) := by decide +kernel
theorem nd_M_push_103 : decode nb_M_push 103 = .ok (.iload_n 1, 1) := by decide +kernel
theorem nd_M_push_104 : decode nb_M_push 104 = .ok (.aaload, 1) := by decide +kernel
theorem nd_M_push_105 : decode nb_M_push 105 = .ok (.iconst 0, 1) := by decide +kernel
theorem nd_M_push_106 : decode nb_M_push 106 = .ok (.lload_n 3, 1) := by decide +kernel
theorem nd_M_push_107 : decode nb_M_push 107 = .ok (.lastore, 1) := by decide +kernel
theorem nd_M_push_108 : decode nb_M_push 108 = .ok (.aload_n 0, 1) := by decide +kernel
theorem nd_M_push_109 : decode nb_M_push 109 = .ok (.getfield 14, 3) := by decide +kernel
theorem nd_M_push_112 : decode nb_M_push 112 = .ok (.iload_n 1, 1) := by decide +kernel
theorem nd_M_push_113 : decode nb_M_push 113 = .ok (.dup2, 1) := by decide +kernel
theorem nd_M_push_114 : decode nb_M_push 114 = .ok (.iaload, 1) := by decide +kernel
theorem nd_M_push_115 : decode nb_M_push 115 = .ok (.iconst 1, 1) := by decide +kernel
theorem nd_M_push_116 : decode nb_M_push 116 = .ok (.iadd, 1) := by decide +kernel
theorem nd_M_push_117 : decode nb_M_push 117 = .ok (.iastore, 1) := by decide +kernel
theorem nd_M_push_118 : decode nb_M_push 118 = .ok (.aload_n 0, 1) := by decide +kernel
theorem nd_M_push_119 : decode nb_M_push 119 = .ok (.getfield 14, 3) := by decide +kernel
theorem nd_M_push_122 : decode nb_M_push 122 = .ok (.iload_n 1, 1) := by decide +kernel
theorem nd_M_push_123 : decode nb_M_push 123 = .ok (.iaload, 1) := by decide +kernel
theorem nd_M_push_124 : decode nb_M_push 124 = .ok (.ireturn, 1) := by decide +kernel
theorem nd_M_set_0 : decode nb_M_set 0 = .ok (.aload_n 0, 1) := by decide +kernel
theorem nd_M_set_1 : decode nb_M_set 1 = .ok (.iload_n 1, 1) := by decide +kernel
theorem nd_M_set_2 : decode nb_M_set 2 = .ok (.invokestatic 22, 3) := by decide +kernel
theorem nd_M_set_5 : decode nb_M_set 5 = .ok (.ifCond .eq 14, 3) := by decide +kernel
theorem nd_M_set_8 : decode nb_M_set 8 = .ok (.iload_n 2, 1) := by decide +kernel
theorem nd_M_set_9 : decode nb_M_set 9 = .ok (.invokestatic 22, 3) := by decide +kernel
theorem nd_M_set_12 : decode nb_M_set 12 = .ok (.ifCond .eq 7, 3) := by decide +kernel
theorem nd_M_set_15 : decode nb_M_set 15 = .ok (.iconst 1, 1) := by decide +kernel
theorem nd_M_set_16 : decode nb_M_set 16 = .ok (.goto 4, 3) := by decide +kernel
theorem nd_M_set_19 : decode nb_M_set 19 = .ok (.iconst 0, 1) := by decide +kernel
theorem nd_M_set_20 : decode nb_M_set 20 = .ok (.iconst 1, 1) := by decide +kernel
theorem nd_M_set_21 : decode nb_M_set 21 = .ok (.invokevirtual 26, 3) := by decide +kernel
theorem nd_M_set_24 : decode nb_M_set 24 = .ok (.ifCond .eq 30, 3) := by decide +kernel
theorem nd_M_set_27 : decode nb_M_set 27 = .ok (.aload_n 0, 1) := by decide +kernel
theorem nd_M_set_28 : decode nb_M_set 28 = .ok (.iload_n 3, 1) := by decide +kernel
theorem nd_M_set_29 : decode nb_M_set 29 = .ok (.ifCond .lt 17, 3) := by decide +kernel
theorem nd_M_set_32 : decode nb_M_set 32 = .ok (.iload_n 3, 1) := by decide +kernel
theorem nd_M_set_33 : decode nb_M_set 33 = .ok (.aload_n 0, 1) := by decide +kernel
theorem nd_M_set_34 : decode nb_M_set 34 = .ok (.getfield 14, 3) := by decide +kernel
theorem nd_M_set_37 : decode nb_M_set 37 = .ok (.iload_n 2, 1) := by decide +kernel
theorem nd_M_set_38 : decode nb_M_set 38 = .ok (.iaload, 1) := by decide +kernel
theorem nd_M_set_39 : decode nb_M_set 39 = .ok (.if_icmp .ge 7, 3) := by decide +kernel
theorem nd_M_set_42 : decode nb_M_set 42 = .ok (.iconst 1, 1) := by decide +kernel
theorem nd_M_set_43 : decode nb_M_set 43 = .ok (.goto 4, 3) := by decide +kernel
theorem nd_M_set_46 : decode nb_M_set 46 = .ok (.iconst 0, 1) := by decide +kernel
theorem nd_M_set_47 : decode nb_M_set 47 = .ok (.iconst 2, 1) := by decide +kernel
theorem nd_M_set_48 : decode nb_M_set 48 = .ok (.invokevirtual 26, 3) := by decide +kernel
theorem nd_M_set_51 : decode nb_M_set 51 = .ok (.ifCond .ne 5, 3) := by decide +kernel
theorem nd_M_set_54 : decode nb_M_set 54 = .ok (.lconst 0, 1) := by decide +kernel
theorem nd_M_set_55 : decode nb_M_set 55 = .ok (.lreturn, 1) := by decide +kernel
theorem nd_M_set_56 : decode nb_M_set 56 = .ok (.aload_n 0, 1) := by decide +kernel
theorem nd_M_set_57 : decode nb_M_set 57 = .ok (.iload_n 1, 1) := by decide +kernel
theorem nd_M_set_58 : decode nb_M_set 58 = .ok (.iload_n 2, 1) := by decide +kernel
theorem nd_M_set_59 : decode nb_M_set 59 = .ok (.invokevirtual 30, 3) := by decide +kernel
theorem nd_M_set_62 : decode nb_M_set 62 = .ok (.aload_n 0, 1) := by decide +kernel
theorem nd_M_set_63 : decode nb_M_set 63 = .ok (.getfield 11, 3) := by decide +kernel
theorem nd_M_set_66 : decode nb_M_set 66 = .ok (.iload_n 1, 1) := by decide +kernel
theorem nd_M_set_67 : decode nb_M_set 67 = .ok (.aaload, 1) := by decide +kernel
theorem nd_M_set_68 : decode nb_M_set 68 = .ok (.iload_n 3, 1) := by decide +kernel
theorem nd_M_set_69 : decode nb_M_set 69 = .ok (.laload, 1) := by decide +kernel
theorem nd_M_set_70 : decode nb_M_set 70 = .ok (.lstore 6, 2) := by decide +kernel
theorem nd_M_set_72 : decode nb_M_set 72 = .ok (.aload_n 0, 1) := by decide +kernel
theorem nd_M_set_73 : decode nb_M_set 73 = .ok (.getfield 11, 3) := by decide +kernel
theorem nd_M_set_76 : decode nb_M_set 76 = .ok (.iload_n 1, 1) := by decide +kernel
theorem nd_M_set_77 : decode nb_M_set 77 = .ok (.aaload, 1) := by decide +kernel
theorem nd_M_set_78 : decode nb_M_set 78 = .ok (.iload_n 3, 1) := by decide +kernel
theorem nd_M_set_79 : decode nb_M_set 79 = .ok (.lload 4, 2) := by decide +kernel
theorem nd_M_set_81 : decode nb_M_set 81 = .ok (.lastore, 1) := by decide +kernel
theorem nd_M_set_82 : decode nb_M_set 82 = .ok (.lload 6, 2) := by decide +kernel
theorem nd_M_set_84 : decode nb_M_set 84 = .ok (.lreturn, 1) := by decide +kernel
theorem nd_M_at_0 : decode nb_M_at 0 = .ok (.aload_n 0, 1) := by decide +kernel
theorem nd_M_at_1 : decode nb_M_at 1 = .ok (.iload_n 1, 1) := by decide +kernel
theorem nd_M_at_2 : decode nb_M_at 2 = .ok (.invokestatic 22, 3) := by decide +kernel
theorem nd_M_at_5 : decode nb_M_at 5 = .ok (.iconst 1, 1) := by decide +kernel
theorem nd_M_at_6 : decode nb_M_at 6 = .ok (.invokevirtual 26, 3) := by decide +kernel
theorem nd_M_at_9 : decode nb_M_at 9 = .ok (.ifCond .eq 30, 3) := by decide +kernel
theorem nd_M_at_12 : decode nb_M_at 12 = .ok (.aload_n 0, 1) := by decide +kernel
theorem nd_M_at_13 : decode nb_M_at 13 = .ok (.iload_n 2, 1) := by decide +kernel
theorem nd_M_at_14 : decode nb_M_at 14 = .ok (.ifCond .lt 17, 3) := by decide +kernel
theorem nd_M_at_17 : decode nb_M_at 17 = .ok (.iload_n 2, 1) := by decide +kernel
theorem nd_M_at_18 : decode nb_M_at 18 = .ok (.aload_n 0, 1) := by decide +kernel
theorem nd_M_at_19 : decode nb_M_at 19 = .ok (.getfield 14, 3) := by decide +kernel
theorem nd_M_at_22 : decode nb_M_at 22 = .ok (.iload_n 1, 1) := by decide +kernel
theorem nd_M_at_23 : decode nb_M_at 23 = .ok (.iaload, 1) := by decide +kernel
theorem nd_M_at_24 : decode nb_M_at 24 = .ok (.if_icmp .ge 7, 3) := by decide +kernel
theorem nd_M_at_27 : decode nb_M_at 27 = .ok (.iconst 1, 1) := by decide +kernel
theorem nd_M_at_28 : decode nb_M_at 28 = .ok (.goto 4, 3) := by decide +kernel
theorem nd_M_at_31 : decode nb_M_at 31 = .ok (.iconst 0, 1) := by decide +kernel
theorem nd_M_at_32 : decode nb_M_at 32 = .ok (.iconst 2, 1) := by decide +kernel
theorem nd_M_at_33 : decode nb_M_at 33 = .ok (.invokevirtual 26, 3) := by decide +kernel
theorem nd_M_at_36 : decode nb_M_at 36 = .ok (.ifCond .ne 5, 3) := by decide +kernel
theorem nd_M_at_39 : decode nb_M_at 39 = .ok (.lconst 0, 1) := by decide +kernel
theorem nd_M_at_40 : decode nb_M_at 40 = .ok (.lreturn, 1) := by decide +kernel
theorem nd_M_at_41 : decode nb_M_at 41 = .ok (.aload_n 0, 1) := by decide +kernel
theorem nd_M_at_42 : decode nb_M_at 42 = .ok (.getfield 11, 3) := by decide +kernel
theorem nd_M_at_45 : decode nb_M_at 45 = .ok (.iload_n 1, 1) := by decide +kernel
theorem nd_M_at_46 : decode nb_M_at 46 = .ok (.aaload, 1) := by decide +kernel
theorem nd_M_at_47 : decode nb_M_at 47 = .ok (.iload_n 2, 1) := by decide +kernel
theorem nd_M_at_48 : decode nb_M_at 48 = .ok (.laload, 1) := by decide +kernel
theorem nd_M_at_49 : decode nb_M_at 49 = .ok (.lreturn, 1) := by decide +kernel
theorem nd_M_cut_0 : decode nb_M_cut 0 = .ok (.aload_n 0, 1) := by decide +kernel
theorem nd_M_cut_1 : decode nb_M_cut 1 = .ok (.iload_n 1, 1) := by decide +kernel
theorem nd_M_cut_2 : decode nb_M_cut 2 = .ok (.invokestatic 22, 3) := by decide +kernel
theorem nd_M_cut_5 : decode nb_M_cut 5 = .ok (.ifCond .eq 23, 3) := by decide +kernel
theorem nd_M_cut_8 : decode nb_M_cut 8 = .ok (.iload_n 2, 1) := by decide +kernel
theorem nd_M_cut_9 : decode nb_M_cut 9 = .ok (.invokestatic 22, 3) := by decide +kernel
theorem nd_M_cut_12 : decode nb_M_cut 12 = .ok (.ifCond .eq 16, 3) := by decide +kernel
theorem nd_M_cut_15 : decode nb_M_cut 15 = .ok (.iload_n 3, 1) := by decide +kernel
theorem nd_M_cut_16 : decode nb_M_cut 16 = .ok (.ifCond .lt 12, 3) := by decide +kernel
theorem nd_M_cut_19 : decode nb_M_cut 19 = .ok (.iload 4, 2) := by decide +kernel
theorem nd_M_cut_21 : decode nb_M_cut 21 = .ok (.ifCond .lt 7, 3) := by decide +kernel
theorem nd_M_cut_24 : decode nb_M_cut 24 = .ok (.iconst 1, 1) := by decide +kernel
theorem nd_M_cut_25 : decode nb_M_cut 25 = .ok (.goto 4, 3) := by decide +kernel
theorem nd_M_cut_28 : decode nb_M_cut 28 = .ok (.iconst 0, 1) := by decide +kernel
theorem nd_M_cut_29 : decode nb_M_cut 29 = .ok (.iconst 1, 1) := by decide +kernel
theorem nd_M_cut_30 : decode nb_M_cut 30 = .ok (.invokevirtual 26, 3) := by decide +kernel
theorem nd_M_cut_33 : decode nb_M_cut 33 = .ok (.ifCond .eq 33, 3) := by decide +kernel
theorem nd_M_cut_36 : decode nb_M_cut 36 = .ok (.aload_n 0, 1) := by decide +kernel
theorem nd_M_cut_37 : decode nb_M_cut 37 = .ok (.iload_n 3, 1) := by decide +kernel
theorem nd_M_cut_38 : decode nb_M_cut 38 = .ok (.i2l, 1) := by decide +kernel
theorem nd_M_cut_39 : decode nb_M_cut 39 = .ok (.iload 4, 2) := by decide +kernel
theorem nd_M_cut_41 : decode nb_M_cut 41 = .ok (.i2l, 1) := by decide +kernel
theorem nd_M_cut_42 : decode nb_M_cut 42 = .ok (.ladd, 1) := by decide +kernel
theorem nd_M_cut_43 : decode nb_M_cut 43 = .ok (.aload_n 0, 1) := by decide +kernel
theorem nd_M_cut_44 : decode nb_M_cut 44 = .ok (.getfield 14, 3) := by decide +kernel
theorem nd_M_cut_47 : decode nb_M_cut 47 = .ok (.iload_n 2, 1) := by decide +kernel
theorem nd_M_cut_48 : decode nb_M_cut 48 = .ok (.iaload, 1) := by decide +kernel
theorem nd_M_cut_49 : decode nb_M_cut 49 = .ok (.i2l, 1) := by decide +kernel
theorem nd_M_cut_50 : decode nb_M_cut 50 = .ok (.lcmp, 1) := by decide +kernel
theorem nd_M_cut_51 : decode nb_M_cut 51 = .ok (.ifCond .gt 7, 3) := by decide +kernel
theorem nd_M_cut_54 : decode nb_M_cut 54 = .ok (.iconst 1, 1) := by decide +kernel
theorem nd_M_cut_55 : decode nb_M_cut 55 = .ok (.goto 4, 3) := by decide +kernel
theorem nd_M_cut_58 : decode nb_M_cut 58 = .ok (.iconst 0, 1) := by decide +kernel
theorem nd_M_cut_59 : decode nb_M_cut 59 = .ok (.iconst 2, 1) := by decide +kernel
theorem nd_M_cut_60 : decode nb_M_cut 60 = .ok (.invokevirtual 26, 3) := by decide +kernel
theorem nd_M_cut_63 : decode nb_M_cut 63 = .ok (.ifCond .ne 5, 3) := by decide +kernel
theorem nd_M_cut_66 : decode nb_M_cut 66 = .ok (.iconst 0, 1) := by decide +kernel
theorem nd_M_cut_67 : decode nb_M_cut 67 = .ok (.ireturn, 1) := by decide +kernel
theorem nd_M_cut_68 : decode nb_M_cut 68 = .ok (.aload_n 0, 1) := by decide +kernel
theorem nd_M_cut_69 : decode nb_M_cut 69 = .ok (.getfield 14, 3) := by decide +kernel
theorem nd_M_cut_72 : decode nb_M_cut 72 = .ok (.iload_n 2, 1) := by decide +kernel
theorem nd_M_cut_73 : decode nb_M_cut 73 = .ok (.iaload, 1) := by decide +kernel
theorem nd_M_cut_74 : decode nb_M_cut 74 = .ok (.iload_n 3, 1) := by decide +kernel
theorem nd_M_cut_75 : decode nb_M_cut 75 = .ok (.isub, 1) := by decide +kernel
theorem nd_M_cut_76 : decode nb_M_cut 76 = .ok (.iload 4, 2) := by decide +kernel
theorem nd_M_cut_78 : decode nb_M_cut 78 = .ok (.isub, 1) := by decide +kernel
theorem nd_M_cut_79 : decode nb_M_cut 79 = .ok (.istore 5, 2) := by decide +kernel
theorem nd_M_cut_81 : decode nb_M_cut 81 = .ok (.iconst 0, 1) := by decide +kernel
theorem nd_M_cut_82 : decode nb_M_cut 82 = .ok (.istore 6, 2) := by decide +kernel
theorem nd_M_cut_84 : decode nb_M_cut 84 = .ok (.iload 6, 2) := by decide +kernel
theorem nd_M_cut_86 : decode nb_M_cut 86 = .ok (.iload 5, 2) := by decide +kernel
theorem nd_M_cut_88 : decode nb_M_cut 88 = .ok (.if_icmp .ge 29, 3) := by decide +kernel
theorem nd_M_cut_91 : decode nb_M_cut 91 = .ok (.aload_n 0, 1) := by decide +kernel
theorem nd_M_cut_92 : decode nb_M_cut 92 = .ok (.getfield 11, 3) := by decide +kernel
theorem nd_M_cut_95 : decode nb_M_cut 95 = .ok (.iload_n 1, 1) := by decide +kernel
theorem nd_M_cut_96 : decode nb_M_cut 96 = .ok (.aaload, 1) := by decide +kernel
theorem nd_M_cut_97 : decode nb_M_cut 97 = .ok (.iload 6, 2) := by decide +kernel
theorem nd_M_cut_99 : decode nb_M_cut 99 = .ok (.aload_n 0, 1) := by decide +kernel
theorem nd_M_cut_100 : decode nb_M_cut 100 = .ok (.getfield 11, 3) := by decide +kernel
theorem nd_M_cut_103 : decode nb_M_cut 103 = .ok (.iload_n 2, 1) := by decide +kernel
theorem nd_M_cut_104 : decode nb_M_cut 104 = .ok (.aaload, 1) := by decide +kernel
theorem nd_M_cut_105 : decode nb_M_cut 105 = .ok (.iload 6, 2) := by decide +kernel
theorem nd_M_cut_107 : decode nb_M_cut 107 = .ok (.iload_n 3, 1) := by decide +kernel
theorem nd_M_cut_108 : decode nb_M_cut 108 = .ok (.iadd, 1) := by decide +kernel
theorem nd_M_cut_109 : decode nb_M_cut 109 = .ok (.laload, 1) := by decide +kernel
theorem nd_M_cut_110 : decode nb_M_cut 110 = .ok (.lastore, 1) := by decide +kernel
theorem nd_M_cut_111 : decode nb_M_cut 111 = .ok (.iinc 6 1, 3) := by decide +kernel
theorem nd_M_cut_114 : decode nb_M_cut 114 = .ok (.goto (-30), 3) := by decide +kernel
theorem nd_M_cut_117 : decode nb_M_cut 117 = .ok (.aload_n 0, 1) := by decide +kernel
theorem nd_M_cut_118 : decode nb_M_cut 118 = .ok (.getfield 14, 3) := by decide +kernel
theorem nd_M_cut_121 : decode nb_M_cut 121 = .ok (.iload_n 1, 1) := by decide +kernel
theorem nd_M_cut_122 : decode nb_M_cut 122 = .ok (.iload 5, 2) := by decide +kernel
theorem nd_M_cut_124 : decode nb_M_cut 124 = .ok (.iastore, 1) := by decide +kernel
theorem nd_M_cut_125 : decode nb_M_cut 125 = .ok (.iload 5, 2) := by decide +kernel
theorem nd_M_cut_127 : decode nb_M_cut 127 = .ok (.ireturn, 1) := by decide +kernel
theorem nd_M_fill_0 : decode nb_M_fill 0 = .ok (.aload_n 0, 1) := by decide +kernel
theorem nd_M_fill_1 : decode nb_M_fill 1 = .ok (.iload_n 1, 1) := by decide +kernel
theorem nd_M_fill_2 : decode nb_M_fill 2 = .ok (.invokestatic 22, 3) := by decide +kernel
theorem nd_M_fill_5 : decode nb_M_fill 5 = .ok (.ifCond .eq 20, 3) := by decide +kernel
theorem nd_M_fill_8 : decode nb_M_fill 8 = .ok (.iload 6, 2) := by decide +kernel
theorem nd_M_fill_10 : decode nb_M_fill 10 = .ok (.ifCond .lt 15, 3) := by decide +kernel
theorem nd_M_fill_13 : decode nb_M_fill 13 = .ok (.iload 6, 2) := by decide +kernel
theorem nd_M_fill_15 : decode nb_M_fill 15 = .ok (.sipush 2000, 3) := by decide +kernel
theorem nd_M_fill_18 : decode nb_M_fill 18 = .ok (.if_icmp .gt 7, 3) := by decide +kernel
theorem nd_M_fill_21 : decode nb_M_fill 21 = .ok (.iconst 1, 1) := by decide +kernel
theorem nd_M_fill_22 : decode nb_M_fill 22 = .ok (.goto 4, 3) := by decide +kernel
theorem nd_M_fill_25 : decode nb_M_fill 25 = .ok (.iconst 0, 1) := by decide +kernel
theorem nd_M_fill_26 : decode nb_M_fill 26 = .ok (.iconst 1, 1) := by decide +kernel
theorem nd_M_fill_27 : decode nb_M_fill 27 = .ok (.invokevirtual 26, 3) := by decide +kernel
theorem nd_M_fill_30 : decode nb_M_fill 30 = .ok (.ifCond .ne 5, 3) := by decide +kernel
theorem nd_M_fill_33 : decode nb_M_fill 33 = .ok (.iconst 0, 1) := by decide +kernel
theorem nd_M_fill_34 : decode nb_M_fill 34 = .ok (.ireturn, 1) := by decide +kernel
theorem nd_M_fill_35 : decode nb_M_fill 35 = .ok (.iconst 0, 1) := by decide +kernel
theorem nd_M_fill_36 : decode nb_M_fill 36 = .ok (.istore 7, 2) := by decide +kernel
theorem nd_M_fill_38 : decode nb_M_fill 38 = .ok (.iload 7, 2) := by decide +kernel
theorem nd_M_fill_40 : decode nb_M_fill 40 = .ok (.iload 6, 2) := by decide +kernel
theorem nd_M_fill_42 : decode nb_M_fill 42 = .ok (.if_icmp .ge 26, 3) := by decide +kernel
theorem nd_M_fill_45 : decode nb_M_fill 45 = .ok (.aload_n 0, 1) := by decide +kernel
theorem nd_M_fill_46 : decode nb_M_fill 46 = .ok (.getfield 11, 3) := by decide +kernel
theorem nd_M_fill_49 : decode nb_M_fill 49 = .ok (.iload_n 1, 1) := by decide +kernel
theorem nd_M_fill_50 : decode nb_M_fill 50 = .ok (.aaload, 1) := by decide +kernel
theorem nd_M_fill_51 : decode nb_M_fill 51 = .ok (.iload 7, 2) := by decide +kernel
theorem nd_M_fill_53 : decode nb_M_fill 53 = .ok (.lload_n 2, 1) := by decide +kernel
theorem nd_M_fill_54 : decode nb_M_fill 54 = .ok (.iload 7, 2) := by decide +kernel
theorem nd_M_fill_56 : decode nb_M_fill 56 = .ok (.i2l, 1) := by decide +kernel
theorem nd_M_fill_57 : decode nb_M_fill 57 = .ok (.lload 4, 2) := by decide +kernel
theorem nd_M_fill_59 : decode nb_M_fill 59 = .ok (.lmul, 1) := by decide +kernel
theorem nd_M_fill_60 : decode nb_M_fill 60 = .ok (.ladd, 1) := by decide +kernel
theorem nd_M_fill_61 : decode nb_M_fill 61 = .ok (.lastore, 1) := by decide +kernel
theorem nd_M_fill_62 : decode nb_M_fill 62 = .ok (.iinc 7 1, 3) := by decide +kernel
theorem nd_M_fill_65 : decode nb_M_fill 65 = .ok (.goto (-27), 3) := by decide +kernel
theorem nd_M_fill_68 : decode nb_M_fill 68 = .ok (.aload_n 0, 1) := by decide +kernel
theorem nd_M_fill_69 : decode nb_M_fill 69 = .ok (.getfield 14, 3) := by decide +kernel
theorem nd_M_fill_72 : decode nb_M_fill 72 = .ok (.iload_n 1, 1) := by decide +kernel
theorem nd_M_fill_73 : decode nb_M_fill 73 = .ok (.iload 6, 2) := by decide +kernel
theorem nd_M_fill_75 : decode nb_M_fill 75 = .ok (.iastore, 1) := by decide +kernel
theorem nd_M_fill_76 : decode nb_M_fill 76 = .ok (.iload 6, 2) := by decide +kernel
theorem nd_M_fill_78 : decode nb_M_fill 78 = .ok (.ireturn, 1) := by decide +kernel
theorem nd_M_size_0 : decode nb_M_size 0 = .ok (.aload_n 0, 1) := by decide +kernel
theorem nd_M_size_1 : decode nb_M_size 1 = .ok (.iload_n 1, 1) := by decide +kernel
theorem nd_M_size_2 : decode nb_M_size 2 = .ok (.invokestatic 22, 3) := by decide +kernel
theorem nd_M_size_5 : decode nb_M_size 5 = .ok (.iconst 1, 1) := by decide +kernel
theorem nd_M_size_6 : decode nb_M_size 6 = .ok (.invokevirtual 26, 3) := by decide +kernel
theorem nd_M_size_9 : decode nb_M_size 9 = .ok (.ifCond .eq 12, 3) := by decide +kernel
theorem nd_M_size_12 : decode nb_M_size 12 = .ok (.aload_n 0, 1) := by decide +kernel
theorem nd_M_size_13 : decode nb_M_size 13 = .ok (.getfield 14, 3) := by decide +kernel
theorem nd_M_size_16 : decode nb_M_size 16 = .ok (.iload_n 1, 1) := by decide +kernel
theorem nd_M_size_17 : decode nb_M_size 17 = .ok (.iaload, 1) := by decide +kernel
theorem nd_M_size_18 : decode nb_M_size 18 = .ok (.goto 4, 3) := by decide +kernel
theorem nd_M_size_21 : decode nb_M_size 21 = .ok (.iconst 0, 1) := by decide +kernel
theorem nd_M_size_22 : decode nb_M_size 22 = .ok (.ireturn, 1) := by decide +kernel
theorem nd_M_hash_0 : decode nb_M_hash 0 = .ok (.aload_n 0, 1) := by decide +kernel
theorem nd_M_hash_1 : decode nb_M_hash 1 = .ok (.iload_n 1, 1) := by decide +kernel
theorem nd_M_hash_2 : decode nb_M_hash 2 = .ok (.invokestatic 22, 3) := by decide +kernel
theorem nd_M_hash_5 : decode nb_M_hash 5 = .ok (.iconst 1, 1) := by decide +kernel
theorem nd_M_hash_6 : decode nb_M_hash 6 = .ok (.invokevirtual 26, 3) := by decide +kernel
theorem nd_M_hash_9 : decode nb_M_hash 9 = .ok (.ifCond .ne 5, 3) := by decide +kernel
theorem nd_M_hash_12 : decode nb_M_hash 12 = .ok (.lconst 0, 1) := by decide +kernel
theorem nd_M_hash_13 : decode nb_M_hash 13 = .ok (.lreturn, 1) := by decide +kernel
theorem nd_M_hash_14 : decode nb_M_hash 14 = .ok (.lconst 1, 1) := by decide +kernel
theorem nd_M_hash_15 : decode nb_M_hash 15 = .ok (.lstore_n 2, 1) := by decide +kernel
theorem nd_M_hash_16 : decode nb_M_hash 16 = .ok (.iconst 0, 1) := by decide +kernel
theorem nd_M_hash_17 : decode nb_M_hash 17 = .ok (.istore 4, 2) := by decide +kernel
theorem nd_M_hash_19 : decode nb_M_hash 19 = .ok (.iload 4, 2) := by decide +kernel
theorem nd_M_hash_21 : decode nb_M_hash 21 = .ok (.aload_n 0, 1) := by decide +kernel
theorem nd_M_hash_22 : decode nb_M_hash 22 = .ok (.getfield 14, 3) := by decide +kernel
theorem nd_M_hash_25 : decode nb_M_hash 25 = .ok (.iload_n 1, 1) := by decide +kernel
theorem nd_M_hash_26 : decode nb_M_hash 26 = .ok (.iaload, 1) := by decide +kernel
theorem nd_M_hash_27 : decode nb_M_hash 27 = .ok (.if_icmp .ge 25, 3) := by decide +kernel
theorem nd_M_hash_30 : decode nb_M_hash 30 = .ok (.ldc2_w 34, 3) := by decide +kernel
theorem nd_M_hash_33 : decode nb_M_hash 33 = .ok (.lload_n 2, 1) := by decide +kernel
theorem nd_M_hash_34 : decode nb_M_hash 34 = .ok (.lmul, 1) := by decide +kernel
theorem nd_M_hash_35 : decode nb_M_hash 35 = .ok (.aload_n 0, 1) := by decide +kernel
theorem nd_M_hash_36 : decode nb_M_hash 36 = .ok (.getfield 11, 3) := by decide +kernel
theorem nd_M_hash_39 : decode nb_M_hash 39 = .ok (.iload_n 1, 1) := by decide +kernel
theorem nd_M_hash_40 : decode nb_M_hash 40 = .ok (.aaload, 1) := by decide +kernel
theorem nd_M_hash_41 : decode nb_M_hash 41 = .ok (.iload 4, 2) := by decide +kernel
theorem nd_M_hash_43 : decode nb_M_hash 43 = .ok (.laload, 1) := by decide +kernel
theorem nd_M_hash_44 : decode nb_M_hash 44 = .ok (.ladd, 1) := by decide +kernel
theorem nd_M_hash_45 : decode nb_M_hash 45 = .ok (.lstore_n 2, 1) := by decide +kernel
theorem nd_M_hash_46 : decode nb_M_hash 46 = .ok (.iinc 4 1, 3) := by decide +kernel
theorem nd_M_hash_49 : decode nb_M_hash 49 = .ok (.goto (-30), 3) := by decide +kernel
theorem nd_M_hash_52 : decode nb_M_hash 52 = .ok (.lload_n 2, 1) := by decide +kernel
theorem nd_M_hash_53 : decode nb_M_hash 53 = .ok (.lreturn, 1) := by decide +kernel
theorem nd_M_open_0 : decode nb_M_open 0 = .ok (.aload_n 0, 1) := by decide +kernel
theorem nd_M_open_1 : decode nb_M_open 1 = .ok (.iload_n 1, 1) := by decide +kernel
theorem nd_M_open_2 : decode nb_M_open 2 = .ok (.invokestatic 22, 3) := by decide +kernel
theorem nd_M_open_5 : decode nb_M_open 5 = .ok (.iconst 1, 1) := by decide +kernel
theorem nd_M_open_6 : decode nb_M_open 6 = .ok (.invokevirtual 26, 3) := by decide +kernel
theorem nd_M_open_9 : decode nb_M_open 9 = .ok (.ifCond .eq 23, 3) := by decide +kernel
theorem nd_M_open_12 : decode nb_M_open 12 = .ok (.aload_n 0, 1) := by decide +kernel
theorem nd_M_open_13 : decode nb_M_open 13 = .ok (.aload_n 0, 1) := by decide +kernel
theorem nd_M_open_14 : decode nb_M_open 14 = .ok (.getfield 36, 3) := by decide +kernel
theorem nd_M_open_17 : decode nb_M_open 17 = .ok (.ifCond .ne 7, 3) := by decide +kernel
theorem nd_M_open_20 : decode nb_M_open 20 = .ok (.iconst 1, 1) := by decide +kernel
theorem nd_M_open_21 : decode nb_M_open 21 = .ok (.goto 4, 3) := by decide +kernel
theorem nd_M_open_24 : decode nb_M_open 24 = .ok (.iconst 0, 1) := by decide +kernel
theorem nd_M_open_25 : decode nb_M_open 25 = .ok (.iconst 2, 1) := by decide +kernel
theorem nd_M_open_26 : decode nb_M_open 26 = .ok (.invokevirtual 26, 3) := by decide +kernel
theorem nd_M_open_29 : decode nb_M_open 29 = .ok (.ifCond .ne 4, 3) := by decide +kernel
theorem nd_M_open_32 : decode nb_M_open 32 = .ok (.return_, 1) := by decide +kernel
theorem nd_M_open_33 : decode nb_M_open 33 = .ok (.aload_n 0, 1) := by decide +kernel
theorem nd_M_open_34 : decode nb_M_open 34 = .ok (.bipush 16, 2) := by decide +kernel
theorem nd_M_open_36 : decode nb_M_open 36 = .ok (.iload_n 1, 1) := by decide +kernel
theorem nd_M_open_37 : decode nb_M_open 37 = .ok (.invokevirtual 30, 3) := by decide +kernel
theorem nd_M_open_40 : decode nb_M_open 40 = .ok (.aload_n 0, 1) := by decide +kernel
theorem nd_M_open_41 : decode nb_M_open 41 = .ok (.iconst 1, 1) := by decide +kernel
theorem nd_M_open_42 : decode nb_M_open 42 = .ok (.putfield 36, 3) := by decide +kernel
theorem nd_M_open_45 : decode nb_M_open 45 = .ok (.return_, 1) := by decide +kernel
theorem nd_M_build_0 : decode nb_M_build 0 = .ok (.aload_n 0, 1) := by decide +kernel
theorem nd_M_build_1 : decode nb_M_build 1 = .ok (.iload_n 1, 1) := by decide +kernel
theorem nd_M_build_2 : decode nb_M_build 2 = .ok (.ifCond .lt 12, 3) := by decide +kernel
theorem nd_M_build_5 : decode nb_M_build 5 = .ok (.iload_n 1, 1) := by decide +kernel
theorem nd_M_build_6 : decode nb_M_build 6 = .ok (.iconst 2, 1) := by decide +kernel
theorem nd_M_build_7 : decode nb_M_build 7 = .ok (.if_icmp .gt 7, 3) := by decide +kernel
theorem nd_M_build_10 : decode nb_M_build 10 = .ok (.iconst 1, 1) := by decide +kernel
theorem nd_M_build_11 : decode nb_M_build 11 = .ok (.goto 4, 3) := by decide +kernel
theorem nd_M_build_14 : decode nb_M_build 14 = .ok (.iconst 0, 1) := by decide +kernel
theorem nd_M_build_15 : decode nb_M_build 15 = .ok (.iconst 1, 1) := by decide +kernel
theorem nd_M_build_16 : decode nb_M_build 16 = .ok (.invokevirtual 26, 3) := by decide +kernel
theorem nd_M_build_19 : decode nb_M_build 19 = .ok (.ifCond .eq 15, 3) := by decide +kernel
theorem nd_M_build_22 : decode nb_M_build 22 = .ok (.aload_n 0, 1) := by decide +kernel
theorem nd_M_build_23 : decode nb_M_build 23 = .ok (.aload_n 0, 1) := by decide +kernel
theorem nd_M_build_24 : decode nb_M_build 24 = .ok (.getfield 36, 3) := by decide +kernel
theorem nd_M_build_27 : decode nb_M_build 27 = .ok (.iconst 2, 1) := by decide +kernel
theorem nd_M_build_28 : decode nb_M_build 28 = .ok (.invokevirtual 26, 3) := by decide +kernel
theorem nd_M_build_31 : decode nb_M_build 31 = .ok (.ifCond .ne 5, 3) := by decide +kernel
theorem nd_M_build_34 : decode nb_M_build 34 = .ok (.iconst 0, 1) := by decide +kernel
theorem nd_M_build_35 : decode nb_M_build 35 = .ok (.ireturn, 1) := by decide +kernel
theorem nd_M_build_36 : decode nb_M_build 36 = .ok (.aload_n 0, 1) := by decide +kernel
theorem nd_M_build_37 : decode nb_M_build 37 = .ok (.getfield 14, 3) := by decide +kernel
theorem nd_M_build_40 : decode nb_M_build 40 = .ok (.bipush 16, 2) := by decide +kernel
theorem nd_M_build_42 : decode nb_M_build 42 = .ok (.iaload, 1) := by decide +kernel
theorem nd_M_build_43 : decode nb_M_build 43 = .ok (.istore 5, 2) := by decide +kernel
theorem nd_M_build_45 : decode nb_M_build 45 = .ok (.iload_n 1, 1) := by decide +kernel
theorem nd_M_build_46 : decode nb_M_build 46 = .ok (.ifCond .ne 51, 3) := by decide +kernel
theorem nd_M_build_49 : decode nb_M_build 49 = .ok (.aload_n 0, 1) := by decide +kernel
theorem nd_M_build_50 : decode nb_M_build 50 = .ok (.iload 5, 2) := by decide +kernel
theorem nd_M_build_52 : decode nb_M_build 52 = .ok (.sipush 3000, 3) := by decide +kernel
theorem nd_M_build_55 : decode nb_M_build 55 = .ok (.if_icmp .ge 7, 3) := by decide +kernel
theorem nd_M_build_58 : decode nb_M_build 58 = .ok (.iconst 1, 1) := by decide +kernel
theorem nd_M_build_59 : decode nb_M_build 59 = .ok (.goto 4, 3) := by decide +kernel
theorem nd_M_build_62 : decode nb_M_build 62 = .ok (.iconst 0, 1) := by decide +kernel
theorem nd_M_build_63 : decode nb_M_build 63 = .ok (.iconst 4, 1) := by decide +kernel
theorem nd_M_build_64 : decode nb_M_build 64 = .ok (.invokevirtual 26, 3) := by decide +kernel
theorem nd_M_build_67 : decode nb_M_build 67 = .ok (.ifCond .ne 5, 3) := by decide +kernel
theorem nd_M_build_70 : decode nb_M_build 70 = .ok (.iconst 0, 1) := by decide +kernel
theorem nd_M_build_71 : decode nb_M_build 71 = .ok (.ireturn, 1) := by decide +kernel
theorem nd_M_build_72 : decode nb_M_build 72 = .ok (.aload_n 0, 1) := by decide +kernel
theorem nd_M_build_73 : decode nb_M_build 73 = .ok (.getfield 11, 3) := by decide +kernel
theorem nd_M_build_76 : decode nb_M_build 76 = .ok (.bipush 16, 2) := by decide +kernel
theorem nd_M_build_78 : decode nb_M_build 78 = .ok (.aaload, 1) := by decide +kernel
theorem nd_M_build_79 : decode nb_M_build 79 = .ok (.iload 5, 2) := by decide +kernel
theorem nd_M_build_81 : decode nb_M_build 81 = .ok (.lload_n 3, 1) := by decide +kernel
theorem nd_M_build_82 : decode nb_M_build 82 = .ok (.lastore, 1) := by decide +kernel
theorem nd_M_build_83 : decode nb_M_build 83 = .ok (.aload_n 0, 1) := by decide +kernel
theorem nd_M_build_84 : decode nb_M_build 84 = .ok (.getfield 14, 3) := by decide +kernel
theorem nd_M_build_87 : decode nb_M_build 87 = .ok (.bipush 16, 2) := by decide +kernel
theorem nd_M_build_89 : decode nb_M_build 89 = .ok (.dup2, 1) := by decide +kernel
theorem nd_M_build_90 : decode nb_M_build 90 = .ok (.iaload, 1) := by decide +kernel
theorem nd_M_build_91 : decode nb_M_build 91 = .ok (.iconst 1, 1) := by decide +kernel
theorem nd_M_build_92 : decode nb_M_build 92 = .ok (.iadd, 1) := by decide +kernel
theorem nd_M_build_93 : decode nb_M_build 93 = .ok (.iastore, 1) := by decide +kernel
theorem nd_M_build_94 : decode nb_M_build 94 = .ok (.goto 77, 3) := by decide +kernel
theorem nd_M_build_97 : decode nb_M_build 97 = .ok (.iload_n 1, 1) := by decide +kernel
theorem nd_M_build_98 : decode nb_M_build 98 = .ok (.iconst 1, 1) := by decide +kernel
theorem nd_M_build_99 : decode nb_M_build 99 = .ok (.if_icmp .ne 41, 3) := by decide +kernel
theorem nd_M_build_102 : decode nb_M_build 102 = .ok (.aload_n 0, 1) := by decide +kernel
theorem nd_M_build_103 : decode nb_M_build 103 = .ok (.iload_n 2, 1) := by decide +kernel
theorem nd_M_build_104 : decode nb_M_build 104 = .ok (.ifCond .lt 13, 3) := by decide +kernel
theorem nd_M_build_107 : decode nb_M_build 107 = .ok (.iload_n 2, 1) := by decide +kernel
theorem nd_M_build_108 : decode nb_M_build 108 = .ok (.iload 5, 2) := by decide +kernel
theorem nd_M_build_110 : decode nb_M_build 110 = .ok (.if_icmp .ge 7, 3) := by decide +kernel
theorem nd_M_build_113 : decode nb_M_build 113 = .ok (.iconst 1, 1) := by decide +kernel
theorem nd_M_build_114 : decode nb_M_build 114 = .ok (.goto 4, 3) := by decide +kernel
theorem nd_M_build_117 : decode nb_M_build 117 = .ok (.iconst 0, 1) := by decide +kernel
theorem nd_M_build_118 : decode nb_M_build 118 = .ok (.iconst 3, 1) := by decide +kernel
theorem nd_M_build_119 : decode nb_M_build 119 = .ok (.invokevirtual 26, 3) := by decide +kernel
theorem nd_M_build_122 : decode nb_M_build 122 = .ok (.ifCond .ne 5, 3) := by decide +kernel
theorem nd_M_build_125 : decode nb_M_build 125 = .ok (.iconst 0, 1) := by decide +kernel
theorem nd_M_build_126 : decode nb_M_build 126 = .ok (.ireturn, 1) := by decide +kernel
theorem nd_M_build_127 : decode nb_M_build 127 = .ok (.aload_n 0, 1) := by decide +kernel
theorem nd_M_build_128 : decode nb_M_build 128 = .ok (.getfield 11, 3) := by decide +kernel
theorem nd_M_build_131 : decode nb_M_build 131 = .ok (.bipush 16, 2) := by decide +kernel
theorem nd_M_build_133 : decode nb_M_build 133 = .ok (.aaload, 1) := by decide +kernel
theorem nd_M_build_134 : decode nb_M_build 134 = .ok (.iload_n 2, 1) := by decide +kernel
theorem nd_M_build_135 : decode nb_M_build 135 = .ok (.lload_n 3, 1) := by decide +kernel
theorem nd_M_build_136 : decode nb_M_build 136 = .ok (.lastore, 1) := by decide +kernel
theorem nd_M_build_137 : decode nb_M_build 137 = .ok (.goto 34, 3) := by decide +kernel
theorem nd_M_build_140 : decode nb_M_build 140 = .ok (.aload_n 0, 1) := by decide +kernel
theorem nd_M_build_141 : decode nb_M_build 141 = .ok (.iload 5, 2) := by decide +kernel
theorem nd_M_build_143 : decode nb_M_build 143 = .ok (.ifCond .le 7, 3) := by decide +kernel
theorem nd_M_build_146 : decode nb_M_build 146 = .ok (.iconst 1, 1) := by decide +kernel
theorem nd_M_build_147 : decode nb_M_build 147 = .ok (.goto 4, 3) := by decide +kernel
theorem nd_M_build_150 : decode nb_M_build 150 = .ok (.iconst 0, 1) := by decide +kernel
theorem nd_M_build_151 : decode nb_M_build 151 = .ok (.iconst 3, 1) := by decide +kernel
theorem nd_M_build_152 : decode nb_M_build 152 = .ok (.invokevirtual 26, 3) := by decide +kernel
theorem nd_M_build_155 : decode nb_M_build 155 = .ok (.ifCond .ne 5, 3) := by decide +kernel
theorem nd_M_build_158 : decode nb_M_build 158 = .ok (.iconst 0, 1) := by decide +kernel
theorem nd_M_build_159 : decode nb_M_build 159 = .ok (.ireturn, 1) := by decide +kernel
theorem nd_M_build_160 : decode nb_M_build 160 = .ok (.aload_n 0, 1) := by decide +kernel
theorem nd_M_build_161 : decode nb_M_build 161 = .ok (.getfield 14, 3) := by decide +kernel
theorem nd_M_build_164 : decode nb_M_build 164 = .ok (.bipush 16, 2) := by decide +kernel
theorem nd_M_build_166 : decode nb_M_build 166 = .ok (.dup2, 1) := by decide +kernel
theorem nd_M_build_167 : decode nb_M_build 167 = .ok (.iaload, 1) := by decide +kernel
theorem nd_M_build_168 : decode nb_M_build 168 = .ok (.iconst 1, 1) := by decide +kernel
theorem nd_M_build_169 : decode nb_M_build 169 = .ok (.isub, 1) := by decide +kernel
theorem nd_M_build_170 : decode nb_M_build 170 = .ok (.iastore, 1) := by decide +kernel
theorem nd_M_build_171 : decode nb_M_build 171 = .ok (.aload_n 0, 1) := by decide +kernel
theorem nd_M_build_172 : decode nb_M_build 172 = .ok (.getfield 14, 3) := by decide +kernel
theorem nd_M_build_175 : decode nb_M_build 175 = .ok (.bipush 16, 2) := by decide +kernel
theorem nd_M_build_177 : decode nb_M_build 177 = .ok (.iaload, 1) := by decide +kernel
theorem nd_M_build_178 : decode nb_M_build 178 = .ok (.ireturn, 1) := by decide +kernel
theorem nd_M_freeze_0 : decode nb_M_freeze 0 = .ok (.aload_n 0, 1) := by decide +kernel
theorem nd_M_freeze_1 : decode nb_M_freeze 1 = .ok (.iload_n 1, 1) := by decide +kernel
theorem nd_M_freeze_2 : decode nb_M_freeze 2 = .ok (.invokestatic 22, 3) := by decide +kernel
theorem nd_M_freeze_5 : decode nb_M_freeze 5 = .ok (.iconst 1, 1) := by decide +kernel
theorem nd_M_freeze_6 : decode nb_M_freeze 6 = .ok (.invokevirtual 26, 3) := by decide +kernel
theorem nd_M_freeze_9 : decode nb_M_freeze 9 = .ok (.ifCond .eq 15, 3) := by decide +kernel
theorem nd_M_freeze_12 : decode nb_M_freeze 12 = .ok (.aload_n 0, 1) := by decide +kernel
theorem nd_M_freeze_13 : decode nb_M_freeze 13 = .ok (.aload_n 0, 1) := by decide +kernel
theorem nd_M_freeze_14 : decode nb_M_freeze 14 = .ok (.getfield 36, 3) := by decide +kernel
theorem nd_M_freeze_17 : decode nb_M_freeze 17 = .ok (.iconst 2, 1) := by decide +kernel
theorem nd_M_freeze_18 : decode nb_M_freeze 18 = .ok (.invokevirtual 26, 3) := by decide +kernel
theorem nd_M_freeze_21 : decode nb_M_freeze 21 = .ok (.ifCond .ne 5, 3) := by decide +kernel
theorem nd_M_freeze_24 : decode nb_M_freeze 24 = .ok (.iconst 0, 1) := by decide +kernel
theorem nd_M_freeze_25 : decode nb_M_freeze 25 = .ok (.ireturn, 1) := by decide +kernel
theorem nd_M_freeze_26 : decode nb_M_freeze 26 = .ok (.aload_n 0, 1) := by decide +kernel
theorem nd_M_freeze_27 : decode nb_M_freeze 27 = .ok (.iload_n 1, 1) := by decide +kernel
theorem nd_M_freeze_28 : decode nb_M_freeze 28 = .ok (.bipush 16, 2) := by decide +kernel
theorem nd_M_freeze_30 : decode nb_M_freeze 30 = .ok (.invokevirtual 30, 3) := by decide +kernel
theorem nd_M_freeze_33 : decode nb_M_freeze 33 = .ok (.aload_n 0, 1) := by decide +kernel
theorem nd_M_freeze_34 : decode nb_M_freeze 34 = .ok (.iconst 0, 1) := by decide +kernel
theorem nd_M_freeze_35 : decode nb_M_freeze 35 = .ok (.putfield 36, 3) := by decide +kernel
theorem nd_M_freeze_38 : decode nb_M_freeze 38 = .ok (.aload_n 0, 1) := by decide +kernel
theorem nd_M_freeze_39 : decode nb_M_freeze 39 = .ok (.getfield 14, 3) := by decide +kernel
theorem nd_M_freeze_42 : decode nb_M_freeze 42 = .ok (.iload_n 1, 1) := by decide +kernel
theorem nd_M_freeze_43 : decode nb_M_freeze 43 = .ok (.iaload, 1) := by decide +kernel
theorem nd_M_freeze_44 : decode nb_M_freeze 44 = .ok (.ireturn, 1) := by decide +kernel
end
section
/-! Worlds as maps from addresses to cells: one row an instruction over them, out of the kit's rows over lists. All cells of a world lie at b or above; nothing below b is ever written. -/
abbrev xw_A (b : Nat) : Nat → Prop := fun q => b ≤ q
abbrev xw_W : Type := Nat → Option va_E
def xw_P (D : va_G) (cl : List vw_C) (b : Nat) (w : xw_W) (H : Heap) : Prop := b ≤ H.size ∧ ∃ ws : va_W, va_P D cl ws H ∧ va_D (xw_A b) ws ∧ ∀ (a : Nat) (e : va_E), w a = some e ↔ ∃ k : Nat, ws[k]? = some (a, e)
theorem xw_set {A : Nat → Prop} {w : xw_W} {ws : va_W} {a k : Nat} {e0 e1 : va_E} (hD : va_D A ws) (hk : ws[k]? = some (a, e0)) (hw : ∀ (a : Nat) (e : va_E), w a = some e ↔ ∃ k : Nat, ws[k]? = some (a, e)) : ∀ (a' : Nat) (e' : va_E), va_up w a (some e1) a' = some e' ↔ ∃ k' : Nat, (ws.set k (a, e1))[k']? = some (a', e') := by
  intro a' e'
  have hl : k < ws.length := (List.getElem?_eq_some_iff.mp hk).1
  by_cases h : a' = a
  · subst h
    rw [va_up_self]
    constructor
    · intro he
      cases he
      exact ⟨k, by rw [List.getElem?_set_self hl]⟩
    · rintro ⟨k', hk'⟩
      by_cases hkk : k' = k
      · subst hkk
        rw [List.getElem?_set_self hl] at hk'
        cases hk'
        rfl
      · rw [List.getElem?_set_ne (fun z => hkk z.symm)] at hk'
        exact absurd (hD.1 k' k _ _ hk' hk rfl) hkk
  · rw [va_up_ne _ _ h, hw a' e']
    constructor
    · rintro ⟨k', hk'⟩
      have hkk : k' ≠ k := by
        intro z
        subst z
        rw [hk] at hk'
        cases hk'
        exact h rfl
      exact ⟨k', by rw [List.getElem?_set_ne (fun z => hkk z.symm)]; exact hk'⟩
    · rintro ⟨k', hk'⟩
      by_cases hkk : k' = k
      · subst hkk
        rw [List.getElem?_set_self hl] at hk'
        cases hk'
        exact absurd rfl h
      · rw [List.getElem?_set_ne (fun z => hkk z.symm)] at hk'
        exact ⟨k', hk'⟩
theorem xw_fresh {A : Nat → Prop} {w : xw_W} {ws : va_W} {q : Nat} {e : va_E} (hD : va_D A (ws ++ [(q, e)])) (hw : ∀ (a : Nat) (e : va_E), w a = some e ↔ ∃ k : Nat, ws[k]? = some (a, e)) : w q = none := by
  cases h : w q with
  | none => rfl
  | some e0 =>
    obtain ⟨k, hk⟩ := (hw q e0).mp h
    have hl : k < ws.length := (List.getElem?_eq_some_iff.mp hk).1
    have h1 : (ws ++ [(q, e)])[k]? = some (q, e0) := by rw [List.getElem?_append_left hl]; exact hk
    have h2 : (ws ++ [(q, e)])[ws.length]? = some (q, e) := by rw [List.getElem?_append_right (Nat.le_refl _), Nat.sub_self]; rfl
    have := hD.1 k ws.length _ _ h1 h2 rfl
    omega
theorem xw_push {A : Nat → Prop} {w : xw_W} {ws : va_W} {q : Nat} {e : va_E} (hD : va_D A (ws ++ [(q, e)])) (hw : ∀ (a : Nat) (e : va_E), w a = some e ↔ ∃ k : Nat, ws[k]? = some (a, e)) : ∀ (a' : Nat) (e' : va_E), va_up w q (some e) a' = some e' ↔ ∃ k' : Nat, (ws ++ [(q, e)])[k']? = some (a', e') := by
  intro a' e'
  have hq := xw_fresh hD hw
  have h2 : (ws ++ [(q, e)])[ws.length]? = some (q, e) := by rw [List.getElem?_append_right (Nat.le_refl _), Nat.sub_self]; rfl
  by_cases h : a' = q
  · subst h
    rw [va_up_self]
    constructor
    · intro he
      cases he
      exact ⟨ws.length, h2⟩
    · rintro ⟨k', hk'⟩
      have := hD.1 k' ws.length _ _ hk' h2 rfl
      subst this
      rw [h2] at hk'
      cases hk'
      rfl
  · rw [va_up_ne _ _ h, hw a' e']
    constructor
    · rintro ⟨k', hk'⟩
      have hl : k' < ws.length := (List.getElem?_eq_some_iff.mp hk').1
      exact ⟨k', by rw [List.getElem?_append_left hl]; exact hk'⟩
    · rintro ⟨k', hk'⟩
      by_cases hl : k' < ws.length
      · rw [List.getElem?_append_left hl] at hk'
        exact ⟨k', hk'⟩
      · have hl2 : k' < (ws ++ [(q, e)]).length := (List.getElem?_eq_some_iff.mp hk').1
        simp at hl2
        have : k' = ws.length := by omega
        subst this
        rw [h2] at hk'
        cases hk'
        exact absurd rfl h
theorem xw_P.at {D : va_G} {cl : List vw_C} {b : Nat} {w : xw_W} {H : Heap} {a : Nat} {e : va_E} (h : xw_P D cl b w H) (ha : w a = some e) : va_at D cl (a, e) H := by
  obtain ⟨-, ws, hP, -, hw⟩ := h
  obtain ⟨k, hk⟩ := (hw a e).mp ha
  exact hP k _ hk
theorem xw_P.one {D : va_G} {cl : List vw_C} {b : Nat} {w : xw_W} {H : Heap} {a : Nat} {e : va_E} (h : xw_P D cl b w H) (ha : w a = some e) : va_P D cl [(a, e)] H := by
  intro k q hk
  have hz : k < 1 := (List.getElem?_eq_some_iff.mp hk).1
  rw [show k = 0 by omega] at hk
  cases hk
  exact h.at ha
theorem xw_P.base {D : va_G} {cl : List vw_C} {b : Nat} {w : xw_W} {H : Heap} {a : Nat} {e : va_E} (h : xw_P D cl b w H) (ha : w a = some e) : b ≤ a := by
  obtain ⟨-, ws, -, hD, hw⟩ := h
  obtain ⟨k, hk⟩ := (hw a e).mp ha
  exact hD.2 k _ hk
theorem xw_P.lt {D : va_G} {cl : List vw_C} {b : Nat} {w : xw_W} {H : Heap} {a : Nat} {e : va_E} (h : xw_P D cl b w H) (ha : w a = some e) : a < H.size := (h.at ha).lt
theorem xw_P.none {D : va_G} {cl : List vw_C} {b : Nat} {H : Heap} (hb : b ≤ H.size) : xw_P D cl b (fun _ => none) H := by
  refine ⟨hb, [], fun k q hk => by simp at hk, ⟨fun i j p q hi => by simp at hi, fun k q hk => by simp at hk⟩, fun a e => ?_⟩
  constructor
  · intro h; cases h
  · rintro ⟨k, hk⟩; simp at hk
/-- cells made elsewhere: the world stays -/
theorem xw_P.grow {D : va_G} {cl : List vw_C} {b : Nat} {w : xw_W} {H H1 : Heap} (h : xw_P D cl b w H) (hz : H.size ≤ H1.size) (hk : ∀ q : Nat, q < H.size → H1[q]? = H[q]?) : xw_P D cl b w H1 := by
  obtain ⟨hb, ws, hP, hD, hw⟩ := h
  exact ⟨Nat.le_trans hb hz, ws, fun k q hq => (hP k q hq).kept (hk q.1 (hP k q hq).lt), hD, hw⟩
section XWR
variable {p : Program} {l : Launch} {e : Env} {R : Room} {s : State} {m : MethodId} {args : Array Value} {below : List Frame} {meth : Method} {c : Code} {H : Heap} {locs : List Loc} {cells slots : Nat} {Q : State → Prop}
variable {cc : ByteArray} {pc : Nat} {ls : Array Slot} {rest : List Value} {D : va_G} {cl : List vw_C} {a b : Nat} {tys : List (ClassId × FieldType)} {w : xw_W} {H0 : Heap}
theorem xw_get (hexec : p.tables.exec = Jvm.exec) (hb : c.code = cc) {own ref C : String} {T : u_T} {N ci index : Nat} {Ts : List Cond} (hts : ∀ w ∈ Ts, w.before args s = true) (hin : ∀ w ∈ u_ws C T N, w ∈ Ts) (hown : s.vm.findClass own = some m.cls) (hK : va_K D cl tys s) (hW : xw_P D cl b w H) {fs : List Value} (he : w a = some (.inr (ci, fs))) (hc : cl[ci]? = some (C, T, N)) (k : Nat) (hk : k < N) (hlink : (Cond.fieldLink own index ref (T k).2.1 (T k).2.2.1).before args s = true) (hsame : ∀ x, s.fieldFound? (T k).1 (T k).2.1 (T k).2.2.1 = some x → s.fieldFound? ref (T k).2.1 (T k).2.2.1 = some x) {v : Value} (hv : fs[k]? = some v) (hdg : decode cc pc = .ok (.getfield index, 3))
    (kk : W p l e R s m args below meth c H locs cells slots Q (F0 m (pc + 3) ls (v :: rest))) : W p l e R s m args below meth c H locs cells slots Q (F0 m pc ls (.ref a :: rest)) :=
  va_get hexec hb hts hin hown hK (hW.one he) 0 rfl hc k hk hlink hsame hv hdg kk
theorem xw_put (hexec : p.tables.exec = Jvm.exec) (hb : c.code = cc) {own ref C : String} {T : u_T} {N ci index : Nat} {Ts : List Cond} (hts : ∀ w ∈ Ts, w.before args s = true) (hin : ∀ w ∈ u_ws C T N, w ∈ Ts) (ty0 : Nat → FieldType) (hty : ∀ k, k < N → parseFieldDescriptor (T k).2.2.1 = some (ty0 k)) (hnm : ∀ a, a < N → ∀ b, b < N → a ≠ b → (T a).2.1 ≠ (T b).2.1) (hown : s.vm.findClass own = some m.cls) (hK : va_K D cl tys s) (hB : b ≤ H0.size) (hW : xw_P D cl b w H) (hS : va_S (xw_A b) H0 H locs) {fs : List Value} (he : w a = some (.inr (ci, fs))) (hc : cl[ci]? = some (C, T, N)) (k : Nat) (hk : k < N) (hlink : (Cond.fieldLink own index ref (T k).2.1 (T k).2.2.1).before args s = true) (hsame : ∀ x, s.fieldFound? (T k).1 (T k).2.1 (T k).2.2.1 = some x → s.fieldFound? ref (T k).2.1 (T k).2.2.1 = some x) (hfin : (T k).2.2.2 = false) {ty : FieldType} {v : Value} (hd : parseFieldDescriptor (T k).2.2.1 = some ty) (hn : narrow ty v = v) (hfit : fits ty v = true) (hl : k < fs.length)
    (hdg : decode cc pc = .ok (.putfield index, 3)) (kk : ∀ (H1 : Heap) (locs1 : List Loc), xw_P D cl b (va_up w a (some (.inr (ci, fs.set k v)))) H1 → va_S (xw_A b) H0 H1 locs1 → W p l e R s m args below meth c H1 locs1 cells slots Q (F0 m (pc + 3) ls rest)) : W p l e R s m args below meth c H locs cells slots Q (F0 m pc ls (v :: .ref a :: rest)) := by
  obtain ⟨-, ws, hP, hD, hw⟩ := hW
  obtain ⟨k0, hk0⟩ := (hw a _).mp he
  exact va_put hexec hb hts hin ty0 hty hnm hown hK hP hD hS k0 hk0 hc k hk hlink hsame hfin hd hn hfit hl hdg (fun H1 locs1 hP1 hD1 hS1 => kk H1 locs1 ⟨Nat.le_trans hB hS1.1, _, hP1, hD1, xw_set hD hk0 hw⟩ hS1)
theorem xw_putF (hexec : p.tables.exec = Jvm.exec) (hb : c.code = cc) {own ref C : String} {T : u_T} {N ci index : Nat} {Ts : List Cond} (hts : ∀ w ∈ Ts, w.before args s = true) (hin : ∀ w ∈ u_ws C T N, w ∈ Ts) (ty0 : Nat → FieldType) (hty : ∀ k, k < N → parseFieldDescriptor (T k).2.2.1 = some (ty0 k)) (hnm : ∀ a, a < N → ∀ b, b < N → a ≠ b → (T a).2.1 ≠ (T b).2.1) (hown : s.vm.findClass own = some m.cls) (hK : va_K D cl tys s) (hB : b ≤ H0.size) (hW : xw_P D cl b w H) (hS : va_S (xw_A b) H0 H locs) {fs : List Value} (he : w a = some (.inr (ci, fs))) (hc : cl[ci]? = some (C, T, N)) (k : Nat) (hk : k < N) (hlink : (Cond.fieldLink own index ref (T k).2.1 (T k).2.2.1).before args s = true) (hsame : ∀ x, s.fieldFound? (T k).1 (T k).2.1 (T k).2.2.1 = some x → s.fieldFound? ref (T k).2.1 (T k).2.2.1 = some x) (hfin : (T k).2.2.2 = true) (hin2 : meth.name = "<init>") (hdecl : (T k).1 = own) {ty : FieldType} {v : Value} (hd : parseFieldDescriptor (T k).2.2.1 = some ty) (hn : narrow ty v = v) (hfit : fits ty v = true) (hl : k < fs.length)
    (hdg : decode cc pc = .ok (.putfield index, 3)) (kk : ∀ (H1 : Heap) (locs1 : List Loc), xw_P D cl b (va_up w a (some (.inr (ci, fs.set k v)))) H1 → va_S (xw_A b) H0 H1 locs1 → W p l e R s m args below meth c H1 locs1 cells slots Q (F0 m (pc + 3) ls rest)) : W p l e R s m args below meth c H locs cells slots Q (F0 m pc ls (v :: .ref a :: rest)) := by
  obtain ⟨-, ws, hP, hD, hw⟩ := hW
  obtain ⟨k0, hk0⟩ := (hw a _).mp he
  exact va_putF hexec hb hts hin ty0 hty hnm hown hK hP hD hS k0 hk0 hc k hk hlink hsame hfin hin2 hdecl hd hn hfit hl hdg (fun H1 locs1 hP1 hD1 hS1 => kk H1 locs1 ⟨Nat.le_trans hB hS1.1, _, hP1, hD1, xw_set hD hk0 hw⟩ hS1)
theorem xw_new (hexec : p.tables.exec = Jvm.exec) (hb : c.code = cc) {own C : String} {T : u_T} {N ci index : Nat} {Ts : List Cond} (hts : ∀ w ∈ Ts, w.before args s = true) (hin : ∀ w ∈ u_ws C T N, w ∈ Ts) (ty : Nat → FieldType) (hty : ∀ k, k < N → parseFieldDescriptor (T k).2.2.1 = some (ty k)) (hown : s.vm.findClass own = some m.cls) (hcl : (Cond.classLink own index C).before args s = true) (hinst : (Cond.instantiable C N).before args s = true) (hini : (Cond.initialized C).before args s = true)
    (hK : va_K D cl tys s) (hB : b ≤ H0.size) (hW : xw_P D cl b w H) (hS : va_S (xw_A b) H0 H locs) (hc : cl[ci]? = some (C, T, N)) {fs : List Value} (hfs : ∀ j, j < N → defaultValue (ty j) = vp_V fs j) (hcells : cells + 1 ≤ R.cells) (hslots : slots + N ≤ R.slots) (hdg : decode cc pc = .ok (.new index, 3))
    (kk : ∀ (q : Nat) (H1 : Heap), w q = none → xw_P D cl b (va_up w q (some (.inr (ci, fs)))) H1 → va_S (xw_A b) H0 H1 locs →
      W p l e R s m args below meth c H1 locs (cells + 1) (slots + N) Q (F0 m (pc + 3) ls (.ref q :: rest))) : W p l e R s m args below meth c H locs cells slots Q (F0 m pc ls rest) := by
  obtain ⟨-, ws, hP, hD, hw⟩ := hW
  exact va_new hexec hb hts hin ty hty hown hcl hinst hini hK hP hD hS (fun q hq => Nat.le_trans hB hq) hc hfs hcells hslots hdg (fun q H1 hP1 hD1 hS1 => kk q H1 (xw_fresh hD1 hw) ⟨Nat.le_trans hB hS1.1, _, hP1, hD1, xw_push hD1 hw⟩ hS1)
theorem xw_iald (hexec : p.tables.exec = Jvm.exec) (hb : c.code = cc) (hK : va_K D cl tys s) (hW : xw_P D cl b w H) (t0 : Nat) {cA : ClassId} {n : Nat} {f : Nat → Int32} (ha : w a = some (.inl (cA, n, .inl f))) (ht : tys[t0]? = some (cA, .int)) {i : Int32} (hin : vp_in i n) (hdg : decode cc pc = .ok (.iaload, 1))
    (kk : W p l e R s m args below meth c H locs cells slots Q (F0 m (pc + 1) ls (.int (f i.toNatClampNeg) :: rest))) : W p l e R s m args below meth c H locs cells slots Q (F0 m pc ls (.int i :: .ref a :: rest)) :=
  va_iald hexec hb hK (hW.one ha) 0 t0 rfl ht hin hdg kk
theorem xw_lald (hexec : p.tables.exec = Jvm.exec) (hb : c.code = cc) (hK : va_K D cl tys s) (hW : xw_P D cl b w H) (t0 : Nat) {cA : ClassId} {n : Nat} {f : Nat → Int64} (ha : w a = some (.inl (cA, n, .inr (.inl f)))) (ht : tys[t0]? = some (cA, .long)) {i : Int32} (hin : vp_in i n) (hdg : decode cc pc = .ok (.laload, 1))
    (kk : W p l e R s m args below meth c H locs cells slots Q (F0 m (pc + 1) ls (.long (f i.toNatClampNeg) :: rest))) : W p l e R s m args below meth c H locs cells slots Q (F0 m pc ls (.int i :: .ref a :: rest)) :=
  va_lald hexec hb hK (hW.one ha) 0 t0 rfl ht hin hdg kk
theorem xw_aald (hexec : p.tables.exec = Jvm.exec) (hb : c.code = cc) (hK : va_K D cl tys s) (hW : xw_P D cl b w H) (t0 : Nat) {cA : ClassId} {C : String} {n : Nat} {f : Nat → Option Nat} (ha : w a = some (.inl (cA, n, .inr (.inr (.inr (.inr f)))))) (ht : tys[t0]? = some (cA, .object C)) {i : Int32} {y : Nat} (hin : vp_in i n) (hy : f i.toNatClampNeg = some y) (hdg : decode cc pc = .ok (.aaload, 1))
    (kk : W p l e R s m args below meth c H locs cells slots Q (F0 m (pc + 1) ls (.ref y :: rest))) : W p l e R s m args below meth c H locs cells slots Q (F0 m pc ls (.int i :: .ref a :: rest)) := by
  refine va_aldq hexec hb hK (hW.one ha) 0 t0 rfl ht hin hdg ?_
  rw [hy]
  exact kk
/-- .. out of an array of arrays -/
theorem xw_aaldA (hexec : p.tables.exec = Jvm.exec) (hb : c.code = cc) (hK : va_K D cl tys s) (hW : xw_P D cl b w H) (t0 : Nat) {cA : ClassId} {ty : FieldType} {n : Nat} {f : Nat → Option Nat} (ha : w a = some (.inl (cA, n, .inr (.inr (.inr (.inr f)))))) (ht : tys[t0]? = some (cA, .array ty)) {i : Int32} {y : Nat} (hin : vp_in i n) (hy : f i.toNatClampNeg = some y) (hdg : decode cc pc = .ok (.aaload, 1))
    (kk : W p l e R s m args below meth c H locs cells slots Q (F0 m (pc + 1) ls (.ref y :: rest))) : W p l e R s m args below meth c H locs cells slots Q (F0 m pc ls (.int i :: .ref a :: rest)) := by
  have hlt : i.toNatClampNeg < n := Nat.not_le.mp fun q => hin (Or.inr q)
  refine W.aald (v := va_rf (f i.toNatClampNeg)) (ty := .array ty) hexec hb (hW.at ha) ((hK.2 t0 _ ht).1 n (fun j => va_rf (f j))) rfl (fun q => by cases q) (by show ¬ (i < 0 ∨ (arrV _ _ _).slots.size ≤ _); rw [arrV_size]; exact hin) (by show (arrV _ _ _).slots[_]? = _; rw [arrV_read _ _ hlt]) rfl rfl hdg ?_
  rw [hy]
  exact kk
theorem xw_iast (hexec : p.tables.exec = Jvm.exec) (hb : c.code = cc) (hK : va_K D cl tys s) (hB : b ≤ H0.size) (hW : xw_P D cl b w H) (hS : va_S (xw_A b) H0 H locs) (t0 : Nat) {cA : ClassId} {n : Nat} {f : Nat → Int32} (ha : w a = some (.inl (cA, n, .inl f))) (ht : tys[t0]? = some (cA, .int)) {i x : Int32} (hin : vp_in i n) (hdg : decode cc pc = .ok (.iastore, 1))
    (kk : ∀ (H1 : Heap) (locs1 : List Loc), xw_P D cl b (va_up w a (some (.inl (cA, n, .inl (upd f i.toNatClampNeg x))))) H1 → va_S (xw_A b) H0 H1 locs1 → W p l e R s m args below meth c H1 locs1 cells slots Q (F0 m (pc + 1) ls rest)) : W p l e R s m args below meth c H locs cells slots Q (F0 m pc ls (.int x :: .int i :: .ref a :: rest)) := by
  obtain ⟨-, ws, hP, hD, hw⟩ := hW
  obtain ⟨k0, hk0⟩ := (hw a _).mp ha
  exact va_iast hexec hb hK hP hD hS k0 t0 hk0 ht hin hdg (fun H1 locs1 hP1 hD1 hS1 => kk H1 locs1 ⟨Nat.le_trans hB hS1.1, _, hP1, hD1, xw_set hD hk0 hw⟩ hS1)
theorem xw_last (hexec : p.tables.exec = Jvm.exec) (hb : c.code = cc) (hK : va_K D cl tys s) (hB : b ≤ H0.size) (hW : xw_P D cl b w H) (hS : va_S (xw_A b) H0 H locs) (t0 : Nat) {cA : ClassId} {n : Nat} {f : Nat → Int64} (ha : w a = some (.inl (cA, n, .inr (.inl f)))) (ht : tys[t0]? = some (cA, .long)) {i : Int32} {x : Int64} (hin : vp_in i n) (hdg : decode cc pc = .ok (.lastore, 1))
    (kk : ∀ (H1 : Heap) (locs1 : List Loc), xw_P D cl b (va_up w a (some (.inl (cA, n, .inr (.inl (vp_updL f i.toNatClampNeg x)))))) H1 → va_S (xw_A b) H0 H1 locs1 → W p l e R s m args below meth c H1 locs1 cells slots Q (F0 m (pc + 1) ls rest)) : W p l e R s m args below meth c H locs cells slots Q (F0 m pc ls (.long x :: .int i :: .ref a :: rest)) := by
  obtain ⟨-, ws, hP, hD, hw⟩ := hW
  obtain ⟨k0, hk0⟩ := (hw a _).mp ha
  exact va_last hexec hb hK hP hD hS k0 t0 hk0 ht hin hdg (fun H1 locs1 hP1 hD1 hS1 => kk H1 locs1 ⟨Nat.le_trans hB hS1.1, _, hP1, hD1, xw_set hD hk0 hw⟩ hS1)
theorem xw_aast (hexec : p.tables.exec = Jvm.exec) (hb : c.code = cc) (hK : va_K D cl tys s) (hB : b ≤ H0.size) (hW : xw_P D cl b w H) (hS : va_S (xw_A b) H0 H locs) (t0 ci : Nat) {cA : ClassId} {r : vw_C} {n v : Nat} {vs : List Value} {f : Nat → Option Nat} (ha : w a = some (.inl (cA, n, .inr (.inr (.inr (.inr f)))))) (ht : tys[t0]? = some (cA, .object r.1)) (hv : w v = some (.inr (ci, vs))) (hc : cl[ci]? = some r) {i : Int32} (hin : vp_in i n) (hdg : decode cc pc = .ok (.aastore, 1))
    (kk : ∀ (H1 : Heap) (locs1 : List Loc), xw_P D cl b (va_up w a (some (.inl (cA, n, .inr (.inr (.inr (.inr (va_up f i.toNatClampNeg (some v))))))))) H1 → va_S (xw_A b) H0 H1 locs1 → W p l e R s m args below meth c H1 locs1 cells slots Q (F0 m (pc + 1) ls rest)) : W p l e R s m args below meth c H locs cells slots Q (F0 m pc ls (.ref v :: .int i :: .ref a :: rest)) := by
  obtain ⟨-, ws, hP, hD, hw⟩ := hW
  obtain ⟨k0, hk0⟩ := (hw a _).mp ha
  obtain ⟨k1, hk1⟩ := (hw v _).mp hv
  exact va_astq hexec hb hK hP hD hS k0 t0 k1 ci hk0 ht hk1 hc hin hdg (fun H1 locs1 hP1 hD1 hS1 => kk H1 locs1 ⟨Nat.le_trans hB hS1.1, _, hP1, hD1, xw_set hD hk0 hw⟩ hS1)
theorem xw_alen (hexec : p.tables.exec = Jvm.exec) (hb : c.code = cc) (hK : va_K D cl tys s) (hW : xw_P D cl b w H) (t0 : Nat) {cA : ClassId} {x : vp_A} (ha : w a = some (.inl (cA, x))) {ty : FieldType} (ht : tys[t0]? = some (cA, ty)) {v : Int32} (hv : Int32.ofNat x.1 = v) (hdg : decode cc pc = .ok (.arraylength, 1))
    (kk : W p l e R s m args below meth c H locs cells slots Q (F0 m (pc + 1) ls (.int v :: rest))) : W p l e R s m args below meth c H locs cells slots Q (F0 m pc ls (.ref a :: rest)) :=
  va_alen hexec hb hK (hW.one ha) 0 t0 rfl ht hv hdg kk
theorem xw_K_last {t1 : List (ClassId × FieldType)} {x : ClassId × FieldType} (h : va_K D cl (t1 ++ [x]) s) : va_RA s x.1 x.2 := (h.2 t1.length x (by rw [List.getElem?_append_right (Nat.le_refl _), Nat.sub_self]; rfl)).2
/-- an array class by its name -/
theorem xw_RA_nm {cA : ClassId} {ty : FieldType} (h : va_RA s cA ty) : s.vm.findClass ("[" ++ ty.toString) = some cA := by
  cases ty with
  | object C => obtain ⟨kA, comp, -, -, -, h4⟩ := h; exact h4
  | _ => exact h
theorem xw_RA_eq {cA cA' : ClassId} {ty : FieldType} (h : va_RA s cA ty) (h' : va_RA s cA' ty) : cA = cA' := Option.some.inj ((xw_RA_nm h).symm.trans (xw_RA_nm h'))
theorem xw_newa (hexec : p.tables.exec = Jvm.exec) (hb : c.code = cc) {atype : ArrayType} (harr : (Cond.arrayClass (newarray.typeOf atype)).before args s = true) {ty : FieldType} (hty : newarray.typeOf atype = ty) (hK : va_K D cl tys s) (hB : b ≤ H0.size) (hW : xw_P D cl b w H) (hS : va_S (xw_A b) H0 H locs) (t0 : Nat) {cA : ClassId} (ht : tys[t0]? = some (cA, ty))
    {n : Int32} {N' : Nat} {a0 : vp_A} (ha : ∀ cA : ClassId, vp_cell cA a0 = arrV cA N' (fun _ => defaultValue ty)) (hn : ¬ n < 0) (hN : n.toNatClampNeg = N') (hbytes : N' * componentBytes ty ≤ 536870912) (hcells : cells + 1 ≤ R.cells) (hslots : slots + N' ≤ R.slots) (hdg : decode cc pc = .ok (.newarray atype, 2))
    (kk : ∀ (q : Nat) (H1 : Heap), w q = none → xw_P D cl b (va_up w q (some (.inl (cA, a0)))) H1 → va_S (xw_A b) H0 H1 locs →
      W p l e R s m args below meth c H1 locs (cells + 1) (slots + N') Q (F0 m (pc + 2) ls (.ref q :: rest))) : W p l e R s m args below meth c H locs cells slots Q (F0 m pc ls (.int n :: rest)) := by
  obtain ⟨-, ws, hP, hD, hw⟩ := hW
  refine va_newa hexec hb harr hty hK hP hD hS (fun q hq => Nat.le_trans hB hq) ha hn hN hbytes hcells hslots hdg (fun q cA' H1 hK1 hP1 hD1 hS1 => ?_)
  have e1 : cA' = cA := xw_RA_eq (xw_K_last hK1) (hK.2 t0 _ ht).2
  subst e1
  exact kk q H1 (xw_fresh hD1 hw) ⟨Nat.le_trans hB hS1.1, _, hP1, hD1, xw_push hD1 hw⟩ hS1
theorem xw_newq (hexec : p.tables.exec = Jvm.exec) (hb : c.code = cc) {own C : String} {index : Nat} (hown : s.vm.findClass own = some m.cls) (hclink : (Cond.classLink own index C).before args s = true) (hover : va_AO C s) (hK : va_K D cl tys s) (hB : b ≤ H0.size) (hW : xw_P D cl b w H) (hS : va_S (xw_A b) H0 H locs) (t0 : Nat) {cA : ClassId} (ht : tys[t0]? = some (cA, .object C))
    {n : Int32} {N' : Nat} (hn : ¬ n < 0) (hN : n.toNatClampNeg = N') (hbytes : N' * 4 ≤ 536870912) (hcells : cells + 1 ≤ R.cells) (hslots : slots + N' ≤ R.slots) (hdg : decode cc pc = .ok (.anewarray index, 3))
    (kk : ∀ (q : Nat) (H1 : Heap), w q = none → xw_P D cl b (va_up w q (some (.inl (cA, N', .inr (.inr (.inr (.inr (fun _ => none)))))))) H1 → va_S (xw_A b) H0 H1 locs →
      W p l e R s m args below meth c H1 locs (cells + 1) (slots + N') Q (F0 m (pc + 3) ls (.ref q :: rest))) : W p l e R s m args below meth c H locs cells slots Q (F0 m pc ls (.int n :: rest)) := by
  obtain ⟨-, ws, hP, hD, hw⟩ := hW
  refine va_newq hexec hb hown hclink hover hK hP hD hS (fun q hq => Nat.le_trans hB hq) hn hN hbytes hcells hslots hdg (fun q cA' H1 hK1 hP1 hD1 hS1 => ?_)
  have e1 : cA' = cA := xw_RA_eq (xw_K_last hK1) (hK.2 t0 _ ht).2
  subst e1
  exact kk q H1 (xw_fresh hD1 hw) ⟨Nat.le_trans hB hS1.1, _, hP1, hD1, xw_push hD1 hw⟩ hS1
theorem xw_clone (hexec : p.tables.exec = Jvm.exec) (hb : c.code = cc) (hml : c.maxLocals = ls.size) {own ad : String} {index : Nat} (hown : s.vm.findClass own = some m.cls)
    (hlink : (Cond.methodLink own index ⟨ad, "clone", "()Ljava/lang/Object;"⟩).before args s = true) (hsame : (Cond.sameMethod ad "java/lang/Object" "clone" "()Ljava/lang/Object;").before args s = true)
    (hnat : (Cond.native ⟨"java/lang/Object", "clone", "()Ljava/lang/Object;"⟩).before args s = true) (hinst : (Cond.instanceMethod ⟨"java/lang/Object", "clone", "()Ljava/lang/Object;"⟩).before args s = true)
    (hsel : (Cond.selects ad ⟨ad, "clone", "()Ljava/lang/Object;"⟩ ⟨"java/lang/Object", "clone", "()Ljava/lang/Object;"⟩).before args s = true) (hcl : va_Nw (.castable ad "java/lang/Cloneable") s)
    (hK : va_K D cl tys s) (hB : b ≤ H0.size) (hW : xw_P D cl b w H) (hS : va_S (xw_A b) H0 H locs) (t0 : Nat) {cA : ClassId} {x : vp_A} {ty : FieldType} (ha : w a = some (.inl (cA, x))) (ht : tys[t0]? = some (cA, ty))
    (hnm : "[" ++ ty.toString = ad) (hfit : ∀ (i : Nat) (v : Value), (vp_cell cA x).slots[i]? = some v → fits ty v = true)
    (hframes : 1 ≤ R.frames) (hlocals : (rest.map fun v => v.category).sum + 14 ≤ R.locals) (hcells : cells + 1 ≤ R.cells) (hslots : slots + x.1 ≤ R.slots) (hdg : decode cc pc = .ok (.invokevirtual index, 3))
    (kk : ∀ (q : Nat) (H1 : Heap), w q = none → xw_P D cl b (va_up w q (some (.inl (cA, x)))) H1 → va_S (xw_A b) H0 H1 locs →
      W p l e R s m args below meth c H1 locs (cells + 1) (slots + x.1) Q (F0 m (pc + 3) ls (.ref q :: rest))) : W p l e R s m args below meth c H locs cells slots Q (F0 m pc ls (.ref a :: rest)) := by
  have hnm' : s.vm.findClass ad = some cA := by rw [← hnm]; exact xw_RA_nm (hK.2 t0 _ ht).2
  obtain ⟨-, ws, hP, hD, hw⟩ := hW
  obtain ⟨k0, hk0⟩ := (hw a _).mp ha
  exact va_clone hexec hb hml hown hlink hsame hnat hinst hsel hcl hK hP hD hS (fun q hq => Nat.le_trans hB hq) k0 t0 hk0 ht hnm' hfit hframes hlocals hcells hslots hdg (fun q H1 _ hP1 hD1 hS1 => kk q H1 (xw_fresh hD1 hw) ⟨Nat.le_trans hB hS1.1, _, hP1, hD1, xw_push hD1 hw⟩ hS1)
theorem xw_castA (hexec : p.tables.exec = Jvm.exec) (hb : c.code = cc) {own nm : String} {index : Nat} (hown : s.vm.findClass own = some m.cls) (hlink : (Cond.classLink own index nm).before args s = true) (hK : va_K D cl tys s) (hW : xw_P D cl b w H) (t0 : Nat) {cA : ClassId} {x : vp_A} {ty : FieldType} (ha : w a = some (.inl (cA, x))) (ht : tys[t0]? = some (cA, ty)) (hnm : "[" ++ ty.toString = nm) (hdg : decode cc pc = .ok (.checkcast index, 3))
    (k : W p l e R s m args below meth c H locs cells slots Q (F0 m (pc + 3) ls (.ref a :: rest))) : W p l e R s m args below meth c H locs cells slots Q (F0 m pc ls (.ref a :: rest)) :=
  va_castA hexec hb hown hlink (hW.one ha) 0 rfl (by rw [← hnm]; exact xw_RA_nm (hK.2 t0 _ ht).2) hdg k
end XWR
end
section
/-! What a contract starts from and ends with: G holds the numbers of the tables (objects' fields, array kinds), the lowest address b of the world, the addresses of the String constants. -/
abbrev g_G : Type := va_G × (Nat → ClassId) × Nat × (Nat → Nat)
abbrev g_b (G : g_G) : Nat := G.2.2.1
def g_ty (G : g_G) : List (ClassId × FieldType) := [(G.2.1 0, .long), (G.2.1 1, .object "RadixShelf$Leaf"), (G.2.1 2, .object "RadixShelf$Branch"), (G.2.1 3, .object "RadixShelf$Sequence"), (G.2.1 4, .int), (G.2.1 5, .array .long)]
def g_str (i : Nat) : Nat × String := match i with
  | 0 => (110, "a number is out of range")
  | 1 => (119, "the sequence is full")
  | 2 => (115, "there is no such element")
  | 3 => (113, "a number is less than 0")
  | 4 => (69, "fewer elements than are to be cut")
  | 5 => (86, "the builder is there already")
  | _ => (92, "the builder is not there")
abbrev g_IAE : String := "java/lang/IllegalArgumentException"
abbrev g_ISE : String := "java/lang/IllegalStateException"
abbrev g_IOB : String := "java/lang/IndexOutOfBoundsException"
abbrev g_NSE : String := "java/util/NoSuchElementException"
def g_cast : List (String × String) := [("[J", "java/lang/Cloneable"), ("[LRadixShelf$Leaf;", "java/lang/Cloneable"), ("[LRadixShelf$Branch;", "java/lang/Cloneable"), (g_IAE, g_IAE), (g_ISE, g_ISE), (g_IOB, g_IOB), (g_NSE, g_NSE)]
def g_not : List (String × String) := [(g_IOB, g_IAE), (g_NSE, g_IAE), (g_ISE, g_IAE), (g_NSE, g_ISE), (g_IOB, g_ISE), (g_IOB, g_NSE)]
def g_decl : List MethodName := [Bundle.initS "java/lang/RuntimeException", Bundle.initS "java/lang/Exception", Bundle.initS Bundle.tN]
/-- arrays of long[] are there -/
def g_AL (U : State) : Prop := (Cond.arrayOver (.array .long)).before #[] U = true
theorem g_AL.spec {U : State} (h : g_AL U) : ∃ comp c k, U.vm.findClass (FieldType.array .long).toString = some comp ∧ (U.vm.classes.findIdx? fun (x : Class) => match x.kind with | .array component _ => component == comp | _ => false) = some c ∧ U.vm.classes[c]? = some k ∧ k.kind = .array comp (.array .long) ∧ U.vm.findClass ("[" ++ (FieldType.array .long).toString) = some c := by
  unfold g_AL Cond.before at h
  simp only [Cond.holds, Cond.value, beq_iff_eq] at h
  cases hc : U.vm.findClass (FieldType.array .long).toString with
  | none => simp [hc] at h
  | some comp =>
    simp only [hc, Option.bind_some, Option.bind_eq_some_iff, Option.map_eq_some_iff] at h
    obtain ⟨c, hi, k, hk, hb⟩ := h
    obtain ⟨hlt, hp, -⟩ := Array.findIdx?_eq_some_iff_getElem.mp hi
    have hkk : U.vm.classes[c] = k := (Array.getElem?_eq_some_iff.mp hk).2
    rw [hkk] at hp
    cases hkind : k.kind with
    | array component ty =>
      rw [hkind] at hb hp
      simp at hb hp
      exact ⟨comp, c, k, rfl, hi, hk, by rw [hkind, hp, hb.1], hb.2⟩
    | _ => rw [hkind] at hb; simp at hb
theorem g_AL.moved {u U : State} (hvm : u.vm.Alike U.vm) (h : g_AL u) : g_AL U := by
  obtain ⟨comp, c, k, h1, h2, h3, h4, h5⟩ := g_AL.spec h
  obtain ⟨k', hk', he⟩ := hvm.2.2 _ _ h3
  have hi : (U.vm.classes.findIdx? fun (x : Class) => match x.kind with | .array component _ => component == comp | _ => false) = some c := by
    refine (va_idx_bare U.vm comp).symm.trans ?_
    first | rw [hvm.bare_eq] | rw [← hvm.bare_eq]
    exact (va_idx_bare u.vm comp).trans h2
  have hkind : k'.kind = .array comp (.array .long) := by rw [he]; exact h4
  have f1 : U.vm.findClass (FieldType.array .long).toString = some comp := by rw [hvm.findClass]; exact h1
  have f2 : U.vm.findClass ("[" ++ (FieldType.array .long).toString) = some c := by rw [hvm.findClass]; exact h5
  unfold g_AL Cond.before Cond.holds
  simp only [Cond.value]
  rw [f1, Option.bind_some]
  refine (congrArg (fun o : Option Nat => (o.bind (fun c => (U.vm.classes[c]?).map fun (k : Class) => match k.kind with | .array _ ty => decide (ty = FieldType.array .long) && decide (U.vm.findClass ("[" ++ (FieldType.array .long).toString) = some c) | _ => false) == some true)) hi).trans ?_
  simp [hk', hkind, f2]
def g_E (G : g_G) (U : State) : Prop :=
  (va_AO "RadixShelf$Leaf" U ∧ va_AO "RadixShelf$Branch" U ∧ va_AO "RadixShelf$Sequence" U ∧ g_AL U) ∧ (∀ q ∈ g_cast, va_Nw (.castable q.1 q.2) U) ∧ (∀ q ∈ g_not, va_Nc q.1 q.2 U) ∧
  (∀ i, i < 7 → vk_R "RadixShelf" (g_str i).1 (g_str i).2 (G.2.2.2 i) U) ∧ vx_Zq Bundle.tN "UNASSIGNED_STACK" Bundle.steD (xw_A (g_b G)) U U.heap ∧ vx_Zq Bundle.tN "SUPPRESSED_SENTINEL" Bundle.listD (xw_A (g_b G)) U U.heap ∧ ∀ x ∈ g_decl, va_Nw (.declares x) U
theorem g_E.moved {G : g_G} {s U : State} (hW : s.WarmedH U.vm) (hz : ∀ q : Nat, q < s.heap.size → ¬ xw_A (g_b G) q → U.heap[q]? = s.heap[q]?) (h : g_E G s) : g_E G U := by
  obtain ⟨⟨a1, a2, a3, a4⟩, hc, hn, hs, hu, hv, hd⟩ := h
  exact ⟨⟨va_AO.moved hW.alike a1, va_AO.moved hW.alike a2, va_AO.moved hW.alike a3, g_AL.moved hW.alike a4⟩, fun q hq => va_Nw.warmC hW (hc q hq), fun q hq => va_Nc.moved hW.alike (hn q hq), fun i hi => vk_R.warm hW (hs i hi), (vx_Zq.moved hW.alike hu).kept hz, (vx_Zq.moved hW.alike hv).kept hz, fun x hx => va_Nw.warmD hW (hd x hx)⟩
def g_K (G : g_G) (U : State) : Prop := va_K G.1 n_cl (g_ty G) U ∧ g_E G U
abbrev g_P (G : g_G) (w : xw_W) (H : Heap) : Prop := xw_P G.1 n_cl (g_b G) w H
def g_B (G : g_G) (w : xw_W) (U : State) : Prop := g_P G w U.heap ∧ g_K G U
abbrev g_S (G : g_G) (H0 H : Heap) (locs : List Loc) : Prop := va_S (xw_A (g_b G)) H0 H locs
theorem g_K.moved {G : g_G} {s U : State} {H : Heap} {locs : List Loc} (hW : s.WarmedH U.vm) (hS : g_S G s.heap H locs) (hU : U.heap = H) (h : g_K G s) : g_K G U := ⟨va_K.moved hW.alike h.1, g_E.moved hW (fun q h1 h2 => by rw [hU]; exact hS.2.1 q h1 h2) h.2⟩
abbrev g_Pc (G : g_G) (w : xw_W) (av : List Value) : Array Value → State → Prop := va_Pc av (g_B G w)
theorem g_blind {G : g_G} {w : xw_W} {av : List Value} : FrameBlind (g_Pc G w av) := fun a U g mk q => ⟨q.1, q.2.1, g_K.moved (U := U.calling g mk a) (H := U.heap) (State.WarmedH.refl U) va_S.rf rfl q.2.2⟩
theorem g_preS {G : g_G} {w : xw_W} {s : State} {H : Heap} {locs : List Loc} (hK : g_K G s) (hW : g_P G w H) (hS : g_S G s.heap H locs) (av : List Value) : PreS s H (g_Pc G w av) av := ⟨g_blind, fun U hU hA => ⟨rfl, by rw [hU]; exact hW, g_K.moved hA hS hU hK⟩⟩
theorem g_preV {G : g_G} {w : xw_W} {s : State} {H : Heap} {locs : List Loc} {o ci : Nat} {q : vw_C} {fs : List Value} (hK : g_K G s) (hW : g_P G w H) (hS : g_S G s.heap H locs) (hc : n_cl[ci]? = some q) (he : w o = some (.inr (ci, fs))) (av : List Value) : PreV s H q.1 o (g_Pc G w (.ref o :: av)) av := ⟨g_blind, va_recv (q0 := 0) hK.1 (hW.one he) hc rfl, fun U hU hA => ⟨rfl, by rw [hU]; exact hW, g_K.moved hA hS hU hK⟩⟩
def g_W (G : g_G) (w : xw_W) (U : State) : Prop := g_P G w U.heap
abbrev g_Qi (G : g_G) (post : Int32 → xw_W → Prop) : Array Value → State → Outcome → State → Prop := va_Qi post (g_W G) (xw_A (g_b G))
abbrev g_Ql (G : g_G) (post : Int64 → xw_W → Prop) : Array Value → State → Outcome → State → Prop := va_Ql post (g_W G) (xw_A (g_b G))
abbrev g_Qv (G : g_G) (post : xw_W → Prop) : Array Value → State → Outcome → State → Prop := va_Qv post (g_W G) (xw_A (g_b G))
/-- an answer that is a reference: its address and the world together -/
abbrev g_Qr (G : g_G) (post : Nat → xw_W → Prop) : Array Value → State → Outcome → State → Prop := va_Qr (fun _ : xw_W => True) (fun w' r t => post r w' ∧ g_W G w' t) (xw_A (g_b G))
/-- thrown: of which kinds, with what world -/
abbrev g_X (G : g_G) (thr : String → xw_W → Prop) : String → State → State → Prop := vx_X (fun _ : xw_W => True) (fun E w' t => thr E w' ∧ g_W G w' t) (xw_A (g_b G))
section XWC
variable {p : Program} {l : Launch} {e : Env} {R : Room} {s : State} {m : MethodId} {args : Array Value} {below : List Frame} {meth : Method} {c : Code} {H : Heap} {locs : List Loc} {cells slots : Nat} {Q : State → Prop}
variable {pc : Nat} {ls : Array Slot} {rest st0 : List Value} {a : Array Value} {G : g_G} {H0 : Heap} {mc ms : Nat}
theorem g_calli {post : Int32 → xw_W → Prop} (hr : va_Run p l e R s m args below meth c H locs cells slots mc ms (F0 m pc ls st0) rest (g_Qi G post a) (xw_A (g_b G))) (hS : g_S G H0 H locs)
    (kk : ∀ (r : Int32) (w' : xw_W) (H1 : Heap) (locs1 : List Loc), post r w' → g_P G w' H1 → g_S G H0 H1 locs1 → W p l e R s m args below meth c H1 locs1 (cells + mc) (slots + ms) Q (F0 m (pc + 3) ls (.int r :: rest))) : W p l e R s m args below meth c H locs cells slots Q (F0 m pc ls st0) :=
  va_calli hr hS (fun _ _ h => h) (fun _ h => h) (fun r u t H1 locs1 ht _ hp hB _ _ hS1 => kk r u H1 locs1 hp (by rw [← ht]; exact hB) hS1)
theorem g_calll {post : Int64 → xw_W → Prop} (hr : va_Run p l e R s m args below meth c H locs cells slots mc ms (F0 m pc ls st0) rest (g_Ql G post a) (xw_A (g_b G))) (hS : g_S G H0 H locs)
    (kk : ∀ (r : Int64) (w' : xw_W) (H1 : Heap) (locs1 : List Loc), post r w' → g_P G w' H1 → g_S G H0 H1 locs1 → W p l e R s m args below meth c H1 locs1 (cells + mc) (slots + ms) Q (F0 m (pc + 3) ls (.long r :: rest))) : W p l e R s m args below meth c H locs cells slots Q (F0 m pc ls st0) :=
  va_calll hr hS (fun _ _ h => h) (fun _ h => h) (fun r u t H1 locs1 ht _ hp hB _ _ hS1 => kk r u H1 locs1 hp (by rw [← ht]; exact hB) hS1)
theorem g_callv {post : xw_W → Prop} (hr : va_Run p l e R s m args below meth c H locs cells slots mc ms (F0 m pc ls st0) rest (g_Qv G post a) (xw_A (g_b G))) (hS : g_S G H0 H locs)
    (kk : ∀ (w' : xw_W) (H1 : Heap) (locs1 : List Loc), post w' → g_P G w' H1 → g_S G H0 H1 locs1 → W p l e R s m args below meth c H1 locs1 (cells + mc) (slots + ms) Q (F0 m (pc + 3) ls rest)) : W p l e R s m args below meth c H locs cells slots Q (F0 m pc ls st0) :=
  va_callv hr hS (fun _ _ h => h) (fun _ h => h) (fun u t H1 locs1 ht _ hp hB _ _ hS1 => kk u H1 locs1 hp (by rw [← ht]; exact hB) hS1)
theorem g_callr {post : Nat → xw_W → Prop} (hr : va_Run p l e R s m args below meth c H locs cells slots mc ms (F0 m pc ls st0) rest (g_Qr G post a) (xw_A (g_b G))) (hS : g_S G H0 H locs)
    (kk : ∀ (r : Nat) (w' : xw_W) (H1 : Heap) (locs1 : List Loc), post r w' → g_P G w' H1 → g_S G H0 H1 locs1 → W p l e R s m args below meth c H1 locs1 (cells + mc) (slots + ms) Q (F0 m (pc + 3) ls (.ref r :: rest))) : W p l e R s m args below meth c H locs cells slots Q (F0 m pc ls st0) :=
  va_callr hr hS (fun _ _ h => h) (fun _ h => h) (fun u ra t H1 locs1 ht _ _ hB _ _ hS1 => kk ra u H1 locs1 hB.1 (by rw [← ht]; exact hB.2) hS1)
/-- a call that may throw: the thrown road, the returned road -/
theorem g_xcalli {post : Int32 → xw_W → Prop} {thr : String → xw_W → Prop} (hr : vx_Run p l e R s m args below meth c H locs cells slots mc ms (F0 m pc ls st0) rest (g_Qi G post a) (g_X G thr) (xw_A (g_b G))) (hS : g_S G H0 H locs)
    (kx : ∀ (E : String) (ce : Cell) (q9 : Addr) (w' : xw_W) (H1 : Heap) (locs1 : List Loc), thr E w' → g_P G w' H1 → g_S G H0 H1 locs1 → H1[q9]? = some ce → ce.vm = .none → s.vm.findClass E = some ce.cls → vx_W p l e R s m args below meth c H1 locs1 (cells + mc) (slots + ms) Q (F0 m pc ls rest) q9)
    (kk : ∀ (r : Int32) (w' : xw_W) (H1 : Heap) (locs1 : List Loc), post r w' → g_P G w' H1 → g_S G H0 H1 locs1 → W p l e R s m args below meth c H1 locs1 (cells + mc) (slots + ms) Q (F0 m (pc + 3) ls (.int r :: rest))) : W p l e R s m args below meth c H locs cells slots Q (F0 m pc ls st0) :=
  vx_calli hr hS (fun _ _ h => h) (fun _ h => h) (fun _ _ h => h) (fun E ce q9 u t H1 locs1 ht _ _ hB _ _ hS1 h1 h2 h3 => kx E ce q9 u H1 locs1 hB.1 (by rw [← ht]; exact hB.2) hS1 h1 h2 h3) (fun r u t H1 locs1 ht _ hp hB _ _ hS1 => kk r u H1 locs1 hp (by rw [← ht]; exact hB) hS1)
theorem g_xcalll {post : Int64 → xw_W → Prop} {thr : String → xw_W → Prop} (hr : vx_Run p l e R s m args below meth c H locs cells slots mc ms (F0 m pc ls st0) rest (g_Ql G post a) (g_X G thr) (xw_A (g_b G))) (hS : g_S G H0 H locs)
    (kx : ∀ (E : String) (ce : Cell) (q9 : Addr) (w' : xw_W) (H1 : Heap) (locs1 : List Loc), thr E w' → g_P G w' H1 → g_S G H0 H1 locs1 → H1[q9]? = some ce → ce.vm = .none → s.vm.findClass E = some ce.cls → vx_W p l e R s m args below meth c H1 locs1 (cells + mc) (slots + ms) Q (F0 m pc ls rest) q9)
    (kk : ∀ (r : Int64) (w' : xw_W) (H1 : Heap) (locs1 : List Loc), post r w' → g_P G w' H1 → g_S G H0 H1 locs1 → W p l e R s m args below meth c H1 locs1 (cells + mc) (slots + ms) Q (F0 m (pc + 3) ls (.long r :: rest))) : W p l e R s m args below meth c H locs cells slots Q (F0 m pc ls st0) :=
  vx_calll hr hS (fun _ _ h => h) (fun _ h => h) (fun _ _ h => h) (fun E ce q9 u t H1 locs1 ht _ _ hB _ _ hS1 h1 h2 h3 => kx E ce q9 u H1 locs1 hB.1 (by rw [← ht]; exact hB.2) hS1 h1 h2 h3) (fun r u t H1 locs1 ht _ hp hB _ _ hS1 => kk r u H1 locs1 hp (by rw [← ht]; exact hB) hS1)
theorem g_xcallv {post : xw_W → Prop} {thr : String → xw_W → Prop} (hr : vx_Run p l e R s m args below meth c H locs cells slots mc ms (F0 m pc ls st0) rest (g_Qv G post a) (g_X G thr) (xw_A (g_b G))) (hS : g_S G H0 H locs)
    (kx : ∀ (E : String) (ce : Cell) (q9 : Addr) (w' : xw_W) (H1 : Heap) (locs1 : List Loc), thr E w' → g_P G w' H1 → g_S G H0 H1 locs1 → H1[q9]? = some ce → ce.vm = .none → s.vm.findClass E = some ce.cls → vx_W p l e R s m args below meth c H1 locs1 (cells + mc) (slots + ms) Q (F0 m pc ls rest) q9)
    (kk : ∀ (w' : xw_W) (H1 : Heap) (locs1 : List Loc), post w' → g_P G w' H1 → g_S G H0 H1 locs1 → W p l e R s m args below meth c H1 locs1 (cells + mc) (slots + ms) Q (F0 m (pc + 3) ls rest)) : W p l e R s m args below meth c H locs cells slots Q (F0 m pc ls st0) :=
  vx_callv hr hS (fun _ _ h => h) (fun _ h => h) (fun _ _ h => h) (fun E ce q9 u t H1 locs1 ht _ _ hB _ _ hS1 h1 h2 h3 => kx E ce q9 u H1 locs1 hB.1 (by rw [← ht]; exact hB.2) hS1 h1 h2 h3) (fun u t H1 locs1 ht _ hp hB _ _ hS1 => kk u H1 locs1 hp (by rw [← ht]; exact hB) hS1)
theorem g_xcallr {post : Nat → xw_W → Prop} {thr : String → xw_W → Prop} (hr : vx_Run p l e R s m args below meth c H locs cells slots mc ms (F0 m pc ls st0) rest (g_Qr G post a) (g_X G thr) (xw_A (g_b G))) (hS : g_S G H0 H locs)
    (kx : ∀ (E : String) (ce : Cell) (q9 : Addr) (w' : xw_W) (H1 : Heap) (locs1 : List Loc), thr E w' → g_P G w' H1 → g_S G H0 H1 locs1 → H1[q9]? = some ce → ce.vm = .none → s.vm.findClass E = some ce.cls → vx_W p l e R s m args below meth c H1 locs1 (cells + mc) (slots + ms) Q (F0 m pc ls rest) q9)
    (kk : ∀ (r : Nat) (w' : xw_W) (H1 : Heap) (locs1 : List Loc), post r w' → g_P G w' H1 → g_S G H0 H1 locs1 → W p l e R s m args below meth c H1 locs1 (cells + mc) (slots + ms) Q (F0 m (pc + 3) ls (.ref r :: rest))) : W p l e R s m args below meth c H locs cells slots Q (F0 m pc ls st0) := by
  intro T hT X
  rcases hr T hT X with ⟨v, st₀, t, T', L, h0, X', hL, e1, e2, ⟨⟨u, ra, hv, -, hp, hB⟩, hF⟩, st⟩ | ⟨q, st₀, t, T', L, E, ce, h0, X', hL, e1, e2, ⟨u, -, ⟨hp, hB⟩, hF⟩, hce, hcv, hcl, st⟩
  · cases hv
    obtain ⟨-, -, k3⟩ := vx_keep h0 e1 hS (fun _ _ h => h) (fun _ h => h) hL hF
    obtain ⟨t2, a1, b1⟩ := kk ra u T'.heap (locs ++ L) hp (by rw [e1]; exact hB) k3 T' rfl X'
    exact ⟨t2, st t2 a1, b1⟩
  · obtain ⟨-, -, k3⟩ := vx_keep h0 e1 hS (fun _ _ h => h) (fun _ h => h) hL hF
    obtain ⟨t2, a1, b1⟩ := kx E ce q u T'.heap (locs ++ L) hp (by rw [e1]; exact hB) k3 (by rw [e1]; exact hce) hcv hcl T' rfl X'
    exact ⟨t2, st.trans a1, b1⟩
end XWC
/-- the head of a contract -/
theorem g_met {l : Launch} {y : MethodName} {ws' : List Cond} {rm : Room} {G : g_G} {w : xw_W} {av : List Value} {Qc : Array Value → State → Outcome → State → Prop} {mc ms : Nat} {cc : ByteArray} {maxL : Nat} {ret : Option FieldType} {lv : List (Nat × Value)}
    (hy : plainName y.cls = true) (hlen : (lg_sl av).length ≤ maxL) (hlv : lv_args 0 av = lv)
    (body : ∀ (p : Program) (e : Env) (s : State) (m : MethodId) (below : List Frame) (meth : Method) (c : Code) (ls : Array Slot), p.tables.exec = Jvm.exec → c.code = cc → meth.sig.returnType = ret → (∀ w ∈ Cond.code y cc maxL ret :: ws', w.before av.toArray s = true) → s.vm.findClass y.cls = some m.cls → meth.locks = false → meth.name = y.name → c.maxLocals = maxL → lv_has ls maxL lv →
      g_K G s → g_b G ≤ s.heap.size → g_P G w s.heap → g_S G s.heap s.heap [] → W p l e rm s m av.toArray below meth c s.heap [] 0 0 (MQ below Qc av.toArray s mc ms (xw_A (g_b G))) (F0 m 0 ls [])) :
    Met l y (Cond.code y cc maxL ret :: ws') rm (g_Pc G w av) Qc mc ms (xw_A (g_b G)) := by
  refine Met.ofW (cc := cc) (maxL := maxL) (ret := ret) hy rfl ?_
  intro p e s m args below meth c s₁ B hml hv
  obtain ⟨rfl, hW, hK⟩ := hv
  have hl := lv_entry av (n := maxL) hlen
  rw [lg_entry_eq]
  generalize (lg_sl av ++ List.replicate (maxL - (lg_sl av).length) Slot.unset).toArray = ls at hl ⊢
  rw [hlv] at hl
  exact body p e s m below meth c ls B.exec B.bytes B.returns (atoms_spec (ws := _) B.pre) (findClass_of_methodNamed B.named) B.notSynchronized (name_of_methodNamed B.named B.method).1 hml hl hK hW.1 hW va_S.rf
/-- .. of one that may throw -/
theorem g_xmet {l : Launch} {y : MethodName} {ws' : List Cond} {rm : Room} {G : g_G} {w : xw_W} {av : List Value} {Qc : Array Value → State → Outcome → State → Prop} {XC : String → State → State → Prop} {mc ms : Nat} {cc : ByteArray} {maxL : Nat} {ret : Option FieldType} {lv : List (Nat × Value)}
    (hy : plainName y.cls = true) (hlen : (lg_sl av).length ≤ maxL) (hlv : lv_args 0 av = lv)
    (body : ∀ (p : Program) (e : Env) (s : State) (m : MethodId) (below : List Frame) (meth : Method) (c : Code) (ls : Array Slot), p.tables.exec = Jvm.exec → c.code = cc → meth.sig.returnType = ret → (∀ w ∈ Cond.code y cc maxL ret :: ws', w.before av.toArray s = true) → s.vm.findClass y.cls = some m.cls → meth.locks = false → (∀ x ∈ c.exceptionTable.toList, False) → c.maxLocals = maxL → lv_has ls maxL lv →
      g_K G s → g_b G ≤ s.heap.size → g_P G w s.heap → g_S G s.heap s.heap [] → W p l e rm s m av.toArray below meth c s.heap [] 0 0 (vx_MQ below Qc XC av.toArray s mc ms (xw_A (g_b G))) (F0 m 0 ls [])) :
    vx_Met l y (Cond.code y cc maxL ret :: ws') rm (g_Pc G w av) Qc XC mc ms (xw_A (g_b G)) := by
  refine vx_ofW (cc := cc) (maxL := maxL) (ret := ret) hy rfl ?_
  intro p e s m args below meth c s₁ B hml hne hv
  obtain ⟨rfl, hW, hK⟩ := hv
  have hl := lv_entry av (n := maxL) hlen
  rw [lg_entry_eq]
  generalize (lg_sl av ++ List.replicate (maxL - (lg_sl av).length) Slot.unset).toArray = ls at hl ⊢
  rw [hlv] at hl
  exact body p e s m below meth c ls B.exec B.bytes B.returns (atoms_spec (ws := _) B.pre) (findClass_of_methodNamed B.named) B.notSynchronized hne hml hl hK hW.1 hW va_S.rf
section XWE
variable {p : Program} {l : Launch} {e : Env} {R : Room} {s : State} {m : MethodId} {args : Array Value} {below : List Frame} {meth : Method} {c : Code} {H : Heap} {locs : List Loc} {cells slots : Nat}
variable {cc : ByteArray} {pc : Nat} {ls : Array Slot} {G : g_G} {w : xw_W}
theorem g_iret {post : Int32 → xw_W → Prop} {v : Int32} {mc ms : Nat} (hx : p.tables.exec = Jvm.exec) (hb : c.code = cc) (hr : meth.sig.returnType = some .int) (hlocks : meth.locks = false) (hW : g_P G w H) (hS : g_S G s.heap H locs) (hp : post v w) (hc : cells ≤ mc) (hs : slots ≤ ms) (hdg : decode cc pc = .ok (.ireturn, 1)) :
    W p l e R s m args below meth c H locs cells slots (MQ below (g_Qi G post) args s mc ms (xw_A (g_b G))) (F0 m pc ls [.int v]) :=
  W.widen (k := mc) (n := ms) hc hs (W.iret hx hb hr (fun t ht hA => ⟨⟨v, w, rfl, hp, show g_P G w t.heap by rw [ht]; exact hW⟩, hS.F ht⟩) hS.2.2 hdg hlocks)
theorem g_zret {post : Int32 → xw_W → Prop} {v : Int32} {mc ms : Nat} (hx : p.tables.exec = Jvm.exec) (hb : c.code = cc) (hr : meth.sig.returnType = some .boolean) (hn : narrow .boolean (.int v) = .int v) (hlocks : meth.locks = false) (hW : g_P G w H) (hS : g_S G s.heap H locs) (hp : post v w) (hc : cells ≤ mc) (hs : slots ≤ ms) (hdg : decode cc pc = .ok (.ireturn, 1)) :
    W p l e R s m args below meth c H locs cells slots (MQ below (g_Qi G post) args s mc ms (xw_A (g_b G))) (F0 m pc ls [.int v]) :=
  W.widen (k := mc) (n := ms) hc hs (W.zret hx hb hr hn (fun t ht hA => ⟨⟨v, w, rfl, hp, show g_P G w t.heap by rw [ht]; exact hW⟩, hS.F ht⟩) hS.2.2 hdg hlocks)
theorem g_lret {post : Int64 → xw_W → Prop} {v : Int64} {mc ms : Nat} (hx : p.tables.exec = Jvm.exec) (hb : c.code = cc) (hr : meth.sig.returnType = some .long) (hlocks : meth.locks = false) (hW : g_P G w H) (hS : g_S G s.heap H locs) (hp : post v w) (hc : cells ≤ mc) (hs : slots ≤ ms) (hdg : decode cc pc = .ok (.lreturn, 1)) :
    W p l e R s m args below meth c H locs cells slots (MQ below (g_Ql G post) args s mc ms (xw_A (g_b G))) (F0 m pc ls [.long v]) :=
  W.widen (k := mc) (n := ms) hc hs (W.lret hx hb hr (fun t ht hA => ⟨⟨v, w, rfl, hp, show g_P G w t.heap by rw [ht]; exact hW⟩, hS.F ht⟩) hS.2.2 hdg hlocks)
theorem g_vret {post : xw_W → Prop} {mc ms : Nat} (hx : p.tables.exec = Jvm.exec) (hb : c.code = cc) (hr : meth.sig.returnType = none) (hlocks : meth.locks = false) (hW : g_P G w H) (hS : g_S G s.heap H locs) (hp : post w) (hc : cells ≤ mc) (hs : slots ≤ ms) (hdg : decode cc pc = .ok (.return_, 1)) :
    W p l e R s m args below meth c H locs cells slots (MQ below (g_Qv G post) args s mc ms (xw_A (g_b G))) (F0 m pc ls []) :=
  W.widen (k := mc) (n := ms) hc hs (W.vret hx hb hr (fun t ht hA => ⟨⟨w, rfl, hp, show g_P G w t.heap by rw [ht]; exact hW⟩, hS.F ht⟩) hS.2.2 hdg hlocks)
theorem g_aret {post : Nat → xw_W → Prop} {v : Nat} {mc ms : Nat} {C : String} (hx : p.tables.exec = Jvm.exec) (hb : c.code = cc) (hr : meth.sig.returnType = some (.object C)) (hlocks : meth.locks = false) (hW : g_P G w H) (hS : g_S G s.heap H locs) (hp : post v w) (hc : cells ≤ mc) (hs : slots ≤ ms) (hdg : decode cc pc = .ok (.areturn, 1)) :
    W p l e R s m args below meth c H locs cells slots (MQ below (g_Qr G post) args s mc ms (xw_A (g_b G))) (F0 m pc ls [.ref v]) :=
  W.widen (k := mc) (n := ms) hc hs (W.aret hx hb hr (Or.inl ⟨C, rfl⟩) (Or.inr ⟨v, rfl⟩) (fun t ht hA => ⟨⟨w, v, rfl, trivial, hp, show g_P G w t.heap by rw [ht]; exact hW⟩, hS.F ht⟩) hS.2.2 hdg hlocks)
/-- it goes on to the caller -/
theorem g_out {Qc : Array Value → State → Outcome → State → Prop} {thr : String → xw_W → Prop} {E : String} {ce : Cell} {q : Addr} {mc ms : Nat} {rest : List Value} (hne : ∀ x ∈ c.exceptionTable.toList, False) (hlocks : meth.locks = false) (hW : g_P G w H) (hS : g_S G s.heap H locs) (hcell : H[q]? = some ce) (hv : ce.vm = .none) (hcl : s.vm.findClass E = some ce.cls) (hp : thr E w) (hc : cells ≤ mc) (hs : slots ≤ ms) :
    vx_W p l e R s m args below meth c H locs cells slots (vx_MQ below Qc (g_X G thr) args s mc ms (xw_A (g_b G))) (F0 m pc ls rest) q := by
  intro T hT X
  obtain ⟨st1, hrun, hend, hA, hsm⟩ := X.leaveThrown q (g := F0 m pc ls rest) rfl rfl rfl (fun x hx => (hne x hx).elim) hlocks
  have hh : (T.setFrames (.throwing q :: below)).heap = H := hT
  exact ⟨_, st1, .threw q, hrun, hend, Or.inr ⟨q, rfl, E, ce, locs, ⟨w, trivial, ⟨hp, show g_P G w _ by rw [hh]; exact hW⟩, hS.F hh⟩, by rw [hh]; exact hcell, hv, hcl, hA, hsm.mono hc hs, hS.2.2⟩⟩
end XWE
theorem xw_ne {w : xw_W} {a b : Nat} {e e' : va_E} (ha : w a = some e) (hb : w b = some e') (h : e ≠ e') : a ≠ b := fun z => h (by rw [z, hb] at ha; exact (Option.some.inj ha).symm)
theorem xw_nn {w : xw_W} {a b : Nat} {e : va_E} (ha : w a = some e) (hb : w b = none) : a ≠ b := fun z => by rw [z, hb] at ha; cases ha
end
section
abbrev tr_kB : Nat := 0
abbrev tr_kL : Nat := 1
abbrev tr_kR : Nat := 2
abbrev tr_kS : Nat := 3
/-! The store in pure words: nodes, their arrays, what a step of an edit leaves. -/
abbrev tr_W : Type := Nat → Option va_E
abbrev tr_N (k : Nat) (s : Int32) (x : Nat) : va_E := .inr (k, [.int s, .ref x])
abbrev tr_V (c : Nat) (f : Nat → Int64) : va_E := .inl (c, 32, .inr (.inl f))
abbrev tr_Q (c : Nat) (f : Nat → Option Nat) : va_E := .inl (c, 32, .inr (.inr (.inr (.inr f))))
abbrev tr_S (s : Int32) (r t : Nat) (o n : Int32) : va_E := .inr (tr_kS, [.int s, .ref r, .ref t, .int o, .int n])
def tr_stp (w : tr_W) (a : Nat) : Int32 := match w a with
  | some (.inr (_, .int s :: _)) => s
  | _ => 0
def tr_arr (w : tr_W) (a : Nat) : Nat := match w a with
  | some (.inr (_, _ :: .ref x :: _)) => x
  | _ => 0
def tr_chd (w : tr_W) (x i : Nat) : Nat := match w x with
  | some (.inl (_, _, .inr (.inr (.inr (.inr f))))) => (f i).getD 0
  | _ => 0
def tr_val (w : tr_W) (x i : Nat) : Int64 := match w x with
  | some (.inl (_, _, .inr (.inl f))) => f i
  | _ => 0
theorem tr_stp_of {w : tr_W} {a k x : Nat} {s : Int32} (h : w a = some (tr_N k s x)) : tr_stp w a = s := by simp [tr_stp, h]
theorem tr_arr_of {w : tr_W} {a k x : Nat} {s : Int32} (h : w a = some (tr_N k s x)) : tr_arr w a = x := by simp [tr_arr, h]
theorem tr_chd_of {w : tr_W} {x c : Nat} {f : Nat → Option Nat} (h : w x = some (tr_Q c f)) (i : Nat) : tr_chd w x i = (f i).getD 0 := by simp [tr_chd, h]
theorem tr_val_of {w : tr_W} {x c : Nat} {f : Nat → Int64} (h : w x = some (tr_V c f)) (i : Nat) : tr_val w x i = f i := by simp [tr_val, h]
theorem tr_stp_eq {w w' : tr_W} {a : Nat} (h : w' a = w a) : tr_stp w' a = tr_stp w a := by simp [tr_stp, h]
theorem tr_arr_eq {w w' : tr_W} {a : Nat} (h : w' a = w a) : tr_arr w' a = tr_arr w a := by simp [tr_arr, h]
theorem tr_chd_eq {w w' : tr_W} {a : Nat} (h : w' a = w a) (i : Nat) : tr_chd w' a i = tr_chd w a i := by simp [tr_chd, h]
theorem tr_val_eq {w w' : tr_W} {a : Nat} (h : w' a = w a) (i : Nat) : tr_val w' a i = tr_val w a i := by simp [tr_val, h]
def tr_isN (w : tr_W) (k n : Nat) : Prop := (k = tr_kL ∨ k = tr_kB ∨ k = tr_kR) ∧ ∃ (s : Int32) (x : Nat), w n = some (tr_N k s x)
/-- a leaf, a branch, a root, with all that lies below -/
def tr_okL (cJ : Nat) (w : tr_W) (z : Nat) : Prop := tr_isN w tr_kL z ∧ ∃ f, w (tr_arr w z) = some (tr_V cJ f)
def tr_okA (c : Nat) (w : tr_W) (x : Nat) : Prop := ∃ f, w x = some (tr_Q c f) ∧ ∀ j, j < 32 → f j = some (tr_chd w x j)
def tr_okB (cJ cL : Nat) (w : tr_W) (y : Nat) : Prop := tr_isN w tr_kB y ∧ tr_okA cL w (tr_arr w y) ∧ ∀ j, j < 32 → tr_okL cJ w (tr_chd w (tr_arr w y) j)
def tr_okR (cJ cL cB : Nat) (w : tr_W) (r : Nat) : Prop := tr_isN w tr_kR r ∧ tr_okA cB w (tr_arr w r) ∧ ∀ i, i < 32 → tr_okB cJ cL w (tr_chd w (tr_arr w r) i)
def tr_brn (w : tr_W) (r i : Nat) : Nat := tr_chd w (tr_arr w r) i
def tr_lfb (w : tr_W) (r b : Nat) : Nat := tr_chd w (tr_arr w (tr_brn w r (b / 32))) (b % 32)
/-- the nodes of a world: each array is an array, belongs to one node, the stamps are bounded -/
def tr_Wi (w : tr_W) (M : Nat) : Prop := (∀ k n, tr_isN w k n → ∃ e, w (tr_arr w n) = some (.inl e)) ∧ (∀ k n k' n', tr_isN w k n → tr_isN w k' n' → tr_arr w n = tr_arr w n' → n = n') ∧ ∀ k n, tr_isN w k n → ∃ m, m ≤ M ∧ tr_stp w n = nI m
def tr_Own (w : tr_W) (d a : Nat) : Prop := ∃ k n, tr_isN w k n ∧ tr_stp w n = nI d ∧ a = tr_arr w n
/-- an edit with the stamp d of the sequence q: what it keeps -/
def tr_Kp (d q : Nat) (w w' : tr_W) : Prop := (∀ a e, w a = some e → a ≠ q → ¬ tr_Own w d a → w' a = some e) ∧ (∀ k n, tr_isN w' k n → w' n = w n ∨ (w n = none ∧ w (tr_arr w' n) = none)) ∧ (∀ k n, tr_isN w k n → w' n = w n) ∧ ∀ a, w a ≠ none → w' a ≠ none
def tr_Same (w w' : tr_W) (n : Nat) : Prop := w' n = w n ∧ w' (tr_arr w n) = w (tr_arr w n)
theorem tr_isN_eq {w w' : tr_W} {k n : Nat} (h : w' n = w n) (hn : tr_isN w k n) : tr_isN w' k n := by
  obtain ⟨hk, s, x, hx⟩ := hn
  exact ⟨hk, s, x, by rw [h]; exact hx⟩
theorem tr_isN_up {w : tr_W} {k n : Nat} (hn : tr_isN w k n) : ∃ s x, w n = some (tr_N k s x) := hn.2
theorem tr_Same.arr {w w' : tr_W} {n : Nat} (h : tr_Same w w' n) : tr_arr w' n = tr_arr w n := tr_arr_eq h.1
theorem tr_Same.stp {w w' : tr_W} {n : Nat} (h : tr_Same w w' n) : tr_stp w' n = tr_stp w n := tr_stp_eq h.1
theorem tr_Same.chd {w w' : tr_W} {n : Nat} (h : tr_Same w w' n) (i : Nat) : tr_chd w' (tr_arr w' n) i = tr_chd w (tr_arr w n) i := by rw [h.arr]; exact tr_chd_eq h.2 i
theorem tr_Same.val {w w' : tr_W} {n : Nat} (h : tr_Same w w' n) (i : Nat) : tr_val w' (tr_arr w' n) i = tr_val w (tr_arr w n) i := by rw [h.arr]; exact tr_val_eq h.2 i
theorem tr_Same.rf {w : tr_W} {n : Nat} : tr_Same w w n := ⟨rfl, rfl⟩
theorem tr_Same.tr {w w1 w2 : tr_W} {n : Nat} (h1 : tr_Same w w1 n) (h2 : tr_Same w1 w2 n) : tr_Same w w2 n := by
  refine ⟨h2.1.trans h1.1, ?_⟩
  have e := h2.2
  rw [h1.arr] at e
  exact e.trans h1.2
theorem tr_okL_same {cJ : Nat} {w w' : tr_W} {z : Nat} (h : tr_okL cJ w z) (hs : tr_Same w w' z) : tr_okL cJ w' z := by
  obtain ⟨hn, f, hf⟩ := h
  exact ⟨tr_isN_eq hs.1 hn, f, by rw [hs.arr, hs.2]; exact hf⟩
theorem tr_okA_same {c : Nat} {w w' : tr_W} {n : Nat} (h : tr_okA c w (tr_arr w n)) (hs : tr_Same w w' n) : tr_okA c w' (tr_arr w' n) := by
  obtain ⟨f, hf, hj⟩ := h
  exact ⟨f, by rw [hs.arr, hs.2]; exact hf, fun j h => by rw [hs.chd j]; exact hj j h⟩
theorem tr_okB_same {cJ cL : Nat} {w w' : tr_W} {y : Nat} (h : tr_okB cJ cL w y) (hs : tr_Same w w' y) (hz : ∀ j, j < 32 → tr_Same w w' (tr_chd w (tr_arr w y) j)) : tr_okB cJ cL w' y :=
  ⟨tr_isN_eq hs.1 h.1, tr_okA_same h.2.1 hs, fun j hj => by rw [hs.chd j]; exact tr_okL_same (h.2.2 j hj) (hz j hj)⟩
theorem tr_lfb_at {w : tr_W} {r i j : Nat} (hj : j < 32) : tr_lfb w r (32 * i + j) = tr_chd w (tr_arr w (tr_brn w r i)) j := by
  unfold tr_lfb
  rw [show (32 * i + j) / 32 = i by omega, show (32 * i + j) % 32 = j by omega]
theorem tr_okR.br {cJ cL cB : Nat} {w : tr_W} {r i : Nat} (h : tr_okR cJ cL cB w r) (hi : i < 32) : tr_okB cJ cL w (tr_brn w r i) := h.2.2 i hi
theorem tr_okR.lf {cJ cL cB : Nat} {w : tr_W} {r b : Nat} (h : tr_okR cJ cL cB w r) (hb : b < 1024) : tr_okL cJ w (tr_lfb w r b) := (h.br (show b / 32 < 32 by omega)).2.2 (b % 32) (by omega)
theorem tr_okR_same {cJ cL cB : Nat} {w w' : tr_W} {r : Nat} (h : tr_okR cJ cL cB w r) (hs : tr_Same w w' r) (hy : ∀ i, i < 32 → tr_Same w w' (tr_brn w r i)) (hz : ∀ b, b < 1024 → tr_Same w w' (tr_lfb w r b)) :
    tr_okR cJ cL cB w' r ∧ (∀ i, tr_brn w' r i = tr_brn w r i) ∧ ∀ b, b < 1024 → tr_lfb w' r b = tr_lfb w r b := by
  have hb : ∀ i, tr_brn w' r i = tr_brn w r i := fun i => hs.chd i
  refine ⟨⟨tr_isN_eq hs.1 h.1, tr_okA_same h.2.1 hs, fun i hi => ?_⟩, hb, fun b hb' => ?_⟩
  · rw [hs.chd i]
    refine tr_okB_same (h.2.2 i hi) (hy i hi) (fun j hj => ?_)
    have := hz (32 * i + j) (by omega)
    rwa [tr_lfb_at hj] at this
  · unfold tr_lfb
    rw [hb]
    exact (hy (b / 32) (by omega)).chd _
/-! the primitive steps -/
def tr_Ow (k d : Nat) (w w1 : tr_W) (n n1 : Nat) : Prop := (tr_stp w n = nI d ∧ n1 = n ∧ w1 = w) ∨ (tr_stp w n ≠ nI d ∧ ∃ x e, w n1 = none ∧ w x = none ∧ n1 ≠ x ∧ w (tr_arr w n) = some (.inl e) ∧ w1 = va_up (va_up w x (some (.inl e))) n1 (some (tr_N k (nI d) x)))
theorem tr_up_ne {w : tr_W} {x a : Nat} {e : Option va_E} (h : a ≠ x) : va_up w x e a = w a := va_up_ne w e h
theorem tr_up_self {w : tr_W} {x : Nat} {e : Option va_E} : va_up w x e x = e := va_up_self w x e
theorem tr_ne_none {w : tr_W} {a b : Nat} {e : va_E} (ha : w a = some e) (hb : w b = none) : a ≠ b := by
  intro h
  rw [h, hb] at ha
  cases ha
theorem tr_ne_kind {w : tr_W} {a b k : Nat} {e : ClassId × vp_A} {l : List Value} (ha : w a = some (.inl e)) (hb : w b = some (.inr (k, l))) : a ≠ b := by
  intro h
  rw [h, hb] at ha
  cases ha
theorem tr_notSeq {w : tr_W} {k n q : Nat} {l : List Value} (hn : tr_isN w k n) (hq : w q = some (.inr (tr_kS, l))) : n ≠ q := by
  intro h
  obtain ⟨hk, s, x, hx⟩ := hn
  rw [h, hq] at hx
  injection hx with hx
  injection hx with hx
  injection hx with h1 h2
  rcases hk with hk | hk | hk <;> (rw [← h1] at hk; exact absurd hk (by decide))
theorem tr_arr_notSeq {w : tr_W} {M k n q : Nat} {l : List Value} (hW : tr_Wi w M) (hn : tr_isN w k n) (hq : w q = some (.inr (tr_kS, l))) : tr_arr w n ≠ q := by
  obtain ⟨e, he⟩ := hW.1 k n hn
  exact tr_ne_kind he hq
theorem tr_node_kept {w w' : tr_W} {M d q k n : Nat} {l : List Value} (hW : tr_Wi w M) (hK : tr_Kp d q w w') (hq : w q = some (.inr (tr_kS, l))) (hn : tr_isN w k n) (hs : tr_stp w n ≠ nI d) : tr_Same w w' n := by
  refine ⟨hK.2.2.1 k n hn, ?_⟩
  obtain ⟨e, he⟩ := hW.1 k n hn
  rw [he]
  refine hK.1 _ _ he (tr_arr_notSeq hW hn hq) ?_
  rintro ⟨k', n', hn', hs', ha⟩
  have := hW.2.1 _ _ _ _ hn hn' ha
  subst this
  exact hs hs'
theorem tr_Kp.rf {d q : Nat} {w : tr_W} : tr_Kp d q w w := ⟨fun _ _ h _ _ => h, fun _ _ _ => Or.inl rfl, fun _ _ _ => rfl, fun _ h => h⟩
theorem tr_Kp.tr {d q : Nat} {w w1 w2 : tr_W} (h1 : tr_Kp d q w w1) (h2 : tr_Kp d q w1 w2) : tr_Kp d q w w2 := by
  refine ⟨fun a e ha hq ho => ?_, fun k n hn => ?_, fun k n hn => ?_, fun a ha => h2.2.2.2 a (h1.2.2.2 a ha)⟩
  · refine h2.1 a e (h1.1 a e ha hq ho) hq ?_
    rintro ⟨k, n, hn, hs, hx⟩
    rcases h1.2.1 k n hn with h | ⟨hz, hz2⟩
    · exact ho ⟨k, n, tr_isN_eq h.symm hn, by rw [← tr_stp_eq h]; exact hs, by rw [← tr_arr_eq h]; exact hx⟩
    · rw [← hx, ha] at hz2
      cases hz2
  · rcases h2.2.1 k n hn with h | ⟨hz, hz2⟩
    · have hn1 := tr_isN_eq h.symm hn
      rcases h1.2.1 k n hn1 with h' | ⟨hy, hy2⟩
      · exact Or.inl (h.trans h')
      · exact Or.inr ⟨hy, by rw [tr_arr_eq h]; exact hy2⟩
    · refine Or.inr ⟨?_, ?_⟩
      · cases hw : w n with
        | none => rfl
        | some e => exact absurd hz (h1.2.2.2 n (by rw [hw]; exact fun h => by cases h))
      · cases hw : w (tr_arr w2 n) with
        | none => rfl
        | some e => exact absurd hz2 (h1.2.2.2 _ (by rw [hw]; exact fun h => by cases h))
  · have e1 := h1.2.2.1 k n hn
    exact (h2.2.2.1 k n (tr_isN_eq e1 hn)).trans e1
/-- a new node with its new array -/
theorem tr_new_same {w : tr_W} {n1 x : Nat} {e1 e2 : va_E} {a : Nat} {e : va_E} (h1 : w n1 = none) (h2 : w x = none) (ha : w a = some e) : va_up (va_up w x (some e2)) n1 (some e1) a = some e := by
  rw [tr_up_ne (tr_ne_none ha h1), tr_up_ne (tr_ne_none ha h2)]
  exact ha
theorem tr_new_node {w : tr_W} {n1 x k k' n : Nat} {s : Int32} {e : ClassId × vp_A} (h1 : w n1 = none) (h2 : w x = none) (hne : n1 ≠ x) (hn : tr_isN (va_up (va_up w x (some (.inl e))) n1 (some (tr_N k s x))) k' n) : (n = n1 ∧ k' = k) ∨ (n ≠ n1 ∧ n ≠ x ∧ tr_isN w k' n ∧ va_up (va_up w x (some (.inl e))) n1 (some (tr_N k s x)) n = w n) := by
  by_cases h : n = n1
  · refine Or.inl ⟨h, ?_⟩
    obtain ⟨-, s', x', hx⟩ := hn
    rw [h, tr_up_self] at hx
    injection hx with hx
    injection hx with hx
    injection hx with h1 h2
    exact h1.symm
  · by_cases h' : n = x
    · obtain ⟨-, s', x', hx⟩ := hn
      rw [h', tr_up_ne (fun z => hne z.symm), tr_up_self] at hx
      cases hx
    · have e1 : va_up (va_up w x (some (.inl e))) n1 (some (tr_N k s x)) n = w n := by rw [tr_up_ne h, tr_up_ne h']
      exact Or.inr ⟨h, h', tr_isN_eq e1.symm hn, e1⟩
theorem tr_new_Kp {w : tr_W} {n1 x k d q : Nat} {s : Int32} {e : ClassId × vp_A} (h1 : w n1 = none) (h2 : w x = none) (hne : n1 ≠ x) : tr_Kp d q w (va_up (va_up w x (some (.inl e))) n1 (some (tr_N k s x))) := by
  refine ⟨fun a e ha _ _ => tr_new_same h1 h2 ha, fun k' n hn => ?_, fun k' n hn => ?_, fun a ha => ?_⟩
  · rcases tr_new_node h1 h2 hne hn with ⟨rfl, -⟩ | ⟨-, -, -, h⟩
    · refine Or.inr ⟨h1, ?_⟩
      rw [tr_arr_of (tr_up_self)]
      exact h2
    · exact Or.inl h
  · obtain ⟨-, s', x', hx⟩ := hn
    rw [hx]
    exact tr_new_same h1 h2 hx
  · cases hw : w a with
    | none => exact absurd hw ha
    | some e => rw [tr_new_same h1 h2 hw]; exact fun h => by cases h
theorem tr_new_Wi {w : tr_W} {n1 x k d M : Nat} {e : ClassId × vp_A} (hW : tr_Wi w M) (hd : d ≤ M) (h1 : w n1 = none) (h2 : w x = none) (hne : n1 ≠ x) : tr_Wi (va_up (va_up w x (some (.inl e))) n1 (some (tr_N k (nI d) x))) M := by
  have hx : (va_up (va_up w x (some (.inl e))) n1 (some (tr_N k (nI d) x))) x = some (.inl e) := by rw [tr_up_ne (fun z => hne z.symm), tr_up_self]
  have old : ∀ k' n, tr_isN w k' n → ∀ (h : va_up (va_up w x (some (.inl e))) n1 (some (tr_N k (nI d) x)) n = w n), tr_arr w n ≠ x := by
    intro k' n hn h
    obtain ⟨e', he'⟩ := hW.1 k' n hn
    exact tr_ne_none he' h2
  refine ⟨fun k' n hn => ?_, fun k1 a k2 b ha hb hab => ?_, fun k' n hn => ?_⟩
  · rcases tr_new_node h1 h2 hne hn with ⟨rfl, -⟩ | ⟨-, -, hn', h⟩
    · exact ⟨e, by rw [tr_arr_of tr_up_self]; exact hx⟩
    · obtain ⟨e', he'⟩ := hW.1 k' n hn'
      exact ⟨e', by rw [tr_arr_eq h]; exact tr_new_same h1 h2 he'⟩
  · rcases tr_new_node h1 h2 hne ha with ⟨rfl, -⟩ | ⟨-, -, ha', h⟩
    · rcases tr_new_node h1 h2 hne hb with ⟨rfl, -⟩ | ⟨-, -, hb', h'⟩
      · rfl
      · rw [tr_arr_of tr_up_self, tr_arr_eq h'] at hab
        exact absurd hab.symm (old _ _ hb' h')
    · rcases tr_new_node h1 h2 hne hb with ⟨rfl, -⟩ | ⟨-, -, hb', h'⟩
      · rw [tr_arr_of (a := b) tr_up_self, tr_arr_eq h] at hab
        exact absurd hab (old _ _ ha' h)
      · rw [tr_arr_eq h, tr_arr_eq h'] at hab
        exact hW.2.1 _ _ _ _ ha' hb' hab
  · rcases tr_new_node h1 h2 hne hn with ⟨rfl, -⟩ | ⟨-, -, hn', h⟩
    · exact ⟨d, hd, tr_stp_of tr_up_self⟩
    · obtain ⟨m, hm, he⟩ := hW.2.2 k' n hn'
      exact ⟨m, hm, by rw [tr_stp_eq h]; exact he⟩
end
section
/-! storing into an array; writing the sequence; owning a node -/
theorem tr_kind {w : tr_W} {k k' n : Nat} (h : tr_isN w k n) (h' : tr_isN w k' n) : k = k' := by
  obtain ⟨-, s, x, hx⟩ := h
  obtain ⟨-, s', x', hx'⟩ := h'
  rw [hx] at hx'
  injection hx' with e
  injection e with e
  injection e with e1 e2
theorem tr_kinds {w : tr_W} {k k' n n' : Nat} (h : tr_isN w k n) (h' : tr_isN w k' n') (hk : k ≠ k') : n ≠ n' := by
  intro e
  subst e
  exact hk (tr_kind h h')
theorem tr_st_node {w : tr_W} {x k n : Nat} {e1 : ClassId × vp_A} (h : tr_isN (va_up w x (some (.inl e1))) k n) : n ≠ x ∧ tr_isN w k n ∧ va_up w x (some (.inl e1)) n = w n := by
  by_cases hn : n = x
  · obtain ⟨-, s, y, hx⟩ := h
    rw [hn, tr_up_self] at hx
    cases hx
  · have e : va_up w x (some (.inl e1)) n = w n := tr_up_ne hn
    exact ⟨hn, tr_isN_eq e.symm h, e⟩
theorem tr_st_old {w : tr_W} {x k n : Nat} {e0 e1 : ClassId × vp_A} (hx : w x = some (.inl e0)) (h : tr_isN w k n) : va_up w x (some (.inl e1)) n = w n := by
  obtain ⟨-, s, y, hy⟩ := h
  exact tr_up_ne (Ne.symm (tr_ne_kind hx hy))
theorem tr_st_same {w : tr_W} {x k n : Nat} {e0 e1 : ClassId × vp_A} (hx : w x = some (.inl e0)) (h : tr_isN w k n) (hn : tr_arr w n ≠ x) : tr_Same w (va_up w x (some (.inl e1))) n := ⟨tr_st_old hx h, tr_up_ne hn⟩
theorem tr_st_Kp {w : tr_W} {x d q : Nat} {e0 e1 : ClassId × vp_A} (hx : w x = some (.inl e0)) (ho : tr_Own w d x) : tr_Kp d q w (va_up w x (some (.inl e1))) := by
  refine ⟨fun a e ha _ hn => ?_, fun k n hn => Or.inl (tr_st_node hn).2.2, fun k n hn => tr_st_old hx hn, fun a ha => ?_⟩
  · rw [tr_up_ne (fun z => hn (by rw [z]; exact ho))]
    exact ha
  · by_cases h : a = x
    · rw [h, tr_up_self]; exact fun z => by cases z
    · rw [tr_up_ne h]; exact ha
theorem tr_st_Wi {w : tr_W} {x M : Nat} {e0 e1 : ClassId × vp_A} (hW : tr_Wi w M) (hx : w x = some (.inl e0)) : tr_Wi (va_up w x (some (.inl e1))) M := by
  refine ⟨fun k n hn => ?_, fun k1 a k2 b ha hb hab => ?_, fun k n hn => ?_⟩
  · obtain ⟨-, hn', h⟩ := tr_st_node hn
    rw [tr_arr_eq h]
    by_cases hz : tr_arr w n = x
    · exact ⟨e1, by rw [hz, tr_up_self]⟩
    · obtain ⟨e, he⟩ := hW.1 k n hn'
      exact ⟨e, by rw [tr_up_ne hz]; exact he⟩
  · obtain ⟨-, ha', h⟩ := tr_st_node ha
    obtain ⟨-, hb', h'⟩ := tr_st_node hb
    rw [tr_arr_eq h, tr_arr_eq h'] at hab
    exact hW.2.1 _ _ _ _ ha' hb' hab
  · obtain ⟨-, hn', h⟩ := tr_st_node hn
    rw [tr_stp_eq h]
    exact hW.2.2 k n hn'
theorem tr_sq_node {w : tr_W} {q k n : Nat} {l' : List Value} (h : tr_isN (va_up w q (some (.inr (tr_kS, l')))) k n) : tr_isN w k n ∧ va_up w q (some (.inr (tr_kS, l'))) n = w n := by
  have hn : n ≠ q := tr_notSeq h tr_up_self
  have e : va_up w q (some (.inr (tr_kS, l'))) n = w n := tr_up_ne hn
  exact ⟨tr_isN_eq e.symm h, e⟩
theorem tr_sq_same {w : tr_W} {M q k n : Nat} {l : List Value} {e : va_E} (hW : tr_Wi w M) (hq : w q = some (.inr (tr_kS, l))) (h : tr_isN w k n) : tr_Same w (va_up w q (some e)) n := ⟨tr_up_ne (tr_notSeq h hq), tr_up_ne (tr_arr_notSeq hW h hq)⟩
theorem tr_sq_Kp {w : tr_W} {q d : Nat} {l l' : List Value} (hq : w q = some (.inr (tr_kS, l))) : tr_Kp d q w (va_up w q (some (.inr (tr_kS, l')))) := by
  refine ⟨fun a e ha hn _ => by rw [tr_up_ne hn]; exact ha, fun k n hn => Or.inl (tr_sq_node hn).2, fun k n hn => tr_up_ne (tr_notSeq hn hq), fun a ha => ?_⟩
  by_cases h : a = q
  · rw [h, tr_up_self]; exact fun z => by cases z
  · rw [tr_up_ne h]; exact ha
theorem tr_sq_Wi {w : tr_W} {q M : Nat} {l l' : List Value} (hW : tr_Wi w M) (hq : w q = some (.inr (tr_kS, l))) : tr_Wi (va_up w q (some (.inr (tr_kS, l')))) M := by
  refine ⟨fun k n hn => ?_, fun k1 a k2 b ha hb hab => ?_, fun k n hn => ?_⟩
  · obtain ⟨hn', h⟩ := tr_sq_node hn
    obtain ⟨e, he⟩ := hW.1 k n hn'
    exact ⟨e, by rw [tr_arr_eq h, tr_up_ne (tr_ne_kind he hq)]; exact he⟩
  · obtain ⟨ha', h⟩ := tr_sq_node ha
    obtain ⟨hb', h'⟩ := tr_sq_node hb
    rw [tr_arr_eq h, tr_arr_eq h'] at hab
    exact hW.2.1 _ _ _ _ ha' hb' hab
  · obtain ⟨hn', h⟩ := tr_sq_node hn
    rw [tr_stp_eq h]
    exact hW.2.2 k n hn'
/-- what owning a node gives -/
theorem tr_Ow.out {k d q M : Nat} {w w1 : tr_W} {n n1 : Nat} (hW : tr_Wi w M) (hd : d ≤ M) (hn : tr_isN w k n) (h : tr_Ow k d w w1 n n1) :
    tr_Kp d q w w1 ∧ tr_Wi w1 M ∧ tr_isN w1 k n1 ∧ tr_stp w1 n1 = nI d ∧ w1 (tr_arr w1 n1) = w (tr_arr w n) ∧ (∀ k' m, tr_isN w k' m → tr_Same w w1 m) ∧ ((n1 = n ∧ tr_stp w n = nI d) ∨ w n1 = none) ∧ ∀ a e, w a = some e → w1 a = some e := by
  rcases h with ⟨hs, rfl, rfl⟩ | ⟨hs, x, e, h1, h2, hne, he, rfl⟩
  · exact ⟨tr_Kp.rf, hW, hn, hs, rfl, fun _ _ _ => tr_Same.rf, Or.inl ⟨rfl, hs⟩, fun _ _ h => h⟩
  · have hold : ∀ a e', w a = some e' → va_up (va_up w x (some (.inl e))) n1 (some (tr_N k (nI d) x)) a = some e' := fun a e' ha => tr_new_same h1 h2 ha
    refine ⟨tr_new_Kp h1 h2 hne, tr_new_Wi hW hd h1 h2 hne, ⟨hn.1, nI d, x, tr_up_self⟩, tr_stp_of tr_up_self, ?_, fun k' m hm => ?_, Or.inr h1, hold⟩
    · rw [tr_arr_of tr_up_self, tr_up_ne (fun z => hne z.symm), tr_up_self, he]
    · obtain ⟨s', x', hx'⟩ := hm.2
      obtain ⟨e', he'⟩ := hW.1 k' m hm
      exact ⟨by rw [hx']; exact hold _ _ hx', by rw [he']; exact hold _ _ he'⟩
theorem tr_okA_eq {c : Nat} {w w' : tr_W} {x x' : Nat} (h : tr_okA c w x) (e : w' x' = w x) : tr_okA c w' x' ∧ ∀ j, tr_chd w' x' j = tr_chd w x j := by
  have hc : ∀ j, tr_chd w' x' j = tr_chd w x j := fun j => by simp [tr_chd, e]
  obtain ⟨f, hf, hj⟩ := h
  exact ⟨⟨f, by rw [e]; exact hf, fun j hj' => by rw [hc j]; exact hj j hj'⟩, hc⟩
/-- a branch's and a root's copy -/
theorem tr_okB_own {cJ cL d q M : Nat} {w w1 : tr_W} {y y1 : Nat} (hW : tr_Wi w M) (hd : d ≤ M) (hy : tr_okB cJ cL w y) (h : tr_Ow tr_kB d w w1 y y1) : tr_okB cJ cL w1 y1 ∧ ∀ j, tr_chd w1 (tr_arr w1 y1) j = tr_chd w (tr_arr w y) j := by
  obtain ⟨-, -, hn, -, ha, hsm, -⟩ := h.out (q := q) hW hd hy.1
  obtain ⟨hA, hc⟩ := tr_okA_eq hy.2.1 ha
  exact ⟨⟨hn, hA, fun j hj => by rw [hc j]; exact tr_okL_same (hy.2.2 j hj) (hsm _ _ (hy.2.2 j hj).1)⟩, hc⟩
theorem tr_okR_own {cJ cL cB d q M : Nat} {w w1 : tr_W} {r r1 : Nat} (hW : tr_Wi w M) (hd : d ≤ M) (hr : tr_okR cJ cL cB w r) (h : tr_Ow tr_kR d w w1 r r1) : tr_okR cJ cL cB w1 r1 ∧ (∀ i, tr_brn w1 r1 i = tr_brn w r i) ∧ ∀ b, b < 1024 → tr_lfb w1 r1 b = tr_lfb w r b := by
  obtain ⟨-, -, hn, -, ha, hsm, -⟩ := h.out (q := q) hW hd hr.1
  obtain ⟨hA, hc⟩ := tr_okA_eq hr.2.1 ha
  refine ⟨⟨hn, hA, fun i hi => ?_⟩, hc, fun b hb => ?_⟩
  · rw [hc i]
    have hy := hr.2.2 i hi
    exact tr_okB_same hy (hsm _ _ hy.1) (fun j hj => hsm _ _ (hy.2.2 j hj).1)
  · unfold tr_lfb
    have e : tr_brn w1 r1 (b / 32) = tr_brn w r (b / 32) := hc _
    rw [e]
    exact (hsm _ _ (hr.br (show b / 32 < 32 by omega)).1).chd _
theorem tr_okR_all {cJ cL cB : Nat} {w w' : tr_W} {r : Nat} (h : tr_okR cJ cL cB w r) (hs : ∀ k n, tr_isN w k n → tr_Same w w' n) : tr_okR cJ cL cB w' r ∧ (∀ i, tr_brn w' r i = tr_brn w r i) ∧ ∀ b, b < 1024 → tr_lfb w' r b = tr_lfb w r b :=
  tr_okR_same h (hs _ _ h.1) (fun _ hi => hs _ _ (h.br hi).1) (fun _ hb => hs _ _ (h.lf hb).1)
def tr_Ub (w : tr_W) (r d : Nat) : Prop := ∀ i j, i < 32 → j < 32 → tr_brn w r i = tr_brn w r j → tr_stp w (tr_brn w r i) = nI d → i = j
set_option maxHeartbeats 1000000 in
/-- hanging a leaf into the trie of q -/
theorem tr_hang {cJ cL cB d q M r r1 y1 t leaf blk : Nat} {o n : Int32} {w w1 w2 w3 w4 w5 : tr_W} {f4 f5 : Nat → Option Nat} (hW : tr_Wi w M) (hd : d ≤ M) (hq : w q = some (tr_S (nI d) r t o n)) (hR : tr_okR cJ cL cB w r) (hU : tr_Ub w r d) (hlf : tr_okL cJ w leaf) (hblk : blk < 1024)
    (h1 : tr_Ow tr_kR d w w1 r r1) (h2 : w2 = va_up w1 q (some (tr_S (nI d) r1 t o n))) (h3 : tr_Ow tr_kB d w2 w3 (tr_brn w2 r1 (blk / 32)) y1)
    (h4 : w3 (tr_arr w3 y1) = some (tr_Q cL f4)) (h4' : w4 = va_up w3 (tr_arr w3 y1) (some (tr_Q cL (va_up f4 (blk % 32) (some leaf)))))
    (h5 : w4 (tr_arr w3 r1) = some (tr_Q cB f5)) (h5' : w5 = va_up w4 (tr_arr w3 r1) (some (tr_Q cB (va_up f5 (blk / 32) (some y1))))) :
    w5 q = some (tr_S (nI d) r1 t o n) ∧ tr_okR cJ cL cB w5 r1 ∧ tr_Ub w5 r1 d ∧ (∀ b, b < 1024 → tr_lfb w5 r1 b = if b = blk then leaf else tr_lfb w r b) ∧ tr_Wi w5 M ∧ tr_Kp d q w w5 ∧ (∀ z, tr_isN w tr_kL z → tr_Same w w5 z) ∧ tr_stp w5 r1 = nI d ∧ ∀ i, i < 32 → (tr_stp w5 (tr_brn w5 r1 i) = nI d ∨ tr_stp w5 (tr_brn w5 r1 i) = tr_stp w (tr_brn w r i)) := by
  obtain ⟨K1, W1, n1, s1, -, m1, f1, x1⟩ := h1.out (q := q) hW hd hR.1
  obtain ⟨R1, b1, l1⟩ := tr_okR_own (q := q) hW hd hR h1
  have q1 : w1 q = some (tr_S (nI d) r t o n) := x1 _ _ hq
  have m2 : ∀ k n, tr_isN w1 k n → tr_Same w1 w2 n := fun k n hn => by rw [h2]; exact tr_sq_same W1 q1 hn
  have K2 : tr_Kp d q w1 w2 := by rw [h2]; exact tr_sq_Kp q1
  have W2 : tr_Wi w2 M := by rw [h2]; exact tr_sq_Wi W1 q1
  have q2 : w2 q = some (tr_S (nI d) r1 t o n) := by rw [h2, tr_up_self]
  obtain ⟨R2, b2, l2⟩ := tr_okR_all R1 m2
  have hi0 : blk / 32 < 32 := by omega
  have Y2 := R2.br hi0
  obtain ⟨K3, W3, n3, s3, -, m3, f3, x3⟩ := h3.out (q := q) W2 hd Y2.1
  obtain ⟨Y3, c3⟩ := tr_okB_own (q := q) W2 hd Y2 h3
  obtain ⟨R3, b3, l3⟩ := tr_okR_all R2 m3
  have q3 : w3 q = some (tr_S (nI d) r1 t o n) := x3 _ _ q2
  have r3 := R3.1
  have rs3 : tr_stp w3 r1 = nI d := by rw [(m3 _ _ R2.1).stp, (m2 _ _ R1.1).stp]; exact s1
  have hyr : y1 ≠ r1 := tr_kinds n3 r3 (by decide)
  have hxx : tr_arr w3 y1 ≠ tr_arr w3 r1 := fun z => hyr (W3.2.1 _ _ _ _ n3 r3 z)
  -- the two stores
  have m4 : ∀ k n, tr_isN w3 k n → n ≠ y1 → tr_Same w3 w4 n := fun k n hn hne => by rw [h4']; exact tr_st_same h4 hn (fun z => hne (W3.2.1 _ _ _ _ hn n3 z))
  have o4 : ∀ k n, tr_isN w3 k n → w4 n = w3 n := fun k n hn => by rw [h4']; exact tr_st_old h4 hn
  have K4 : tr_Kp d q w3 w4 := by rw [h4']; exact tr_st_Kp h4 ⟨_, _, n3, s3, rfl⟩
  have W4 : tr_Wi w4 M := by rw [h4']; exact tr_st_Wi W3 h4
  have r4 : tr_isN w4 tr_kR r1 := tr_isN_eq (o4 _ _ r3) r3
  have a4 : tr_arr w4 r1 = tr_arr w3 r1 := tr_arr_eq (o4 _ _ r3)
  have m5 : ∀ k n, tr_isN w4 k n → n ≠ r1 → tr_Same w4 w5 n := fun k n hn hne => by rw [h5']; exact tr_st_same h5 hn (fun z => hne (W4.2.1 _ _ _ _ hn r4 (z.trans a4.symm)))
  have o5 : ∀ k n, tr_isN w4 k n → w5 n = w4 n := fun k n hn => by rw [h5']; exact tr_st_old h5 hn
  have K5 : tr_Kp d q w4 w5 := by rw [h5']; exact tr_st_Kp h5 ⟨_, _, r4, by rw [tr_stp_eq (o4 _ _ r3)]; exact rs3, a4.symm⟩
  have W5 : tr_Wi w5 M := by rw [h5']; exact tr_st_Wi W4 h5
  have all : ∀ k n, tr_isN w3 k n → n ≠ y1 → n ≠ r1 → tr_Same w3 w5 n := fun k n hn h h' => (m4 k n hn h).tr (m5 k n (tr_isN_eq (m4 k n hn h).1 hn) h')
  have lv3 : ∀ z, tr_isN w3 tr_kL z → tr_Same w3 w5 z := fun z hz => all _ _ hz (tr_kinds hz n3 (by decide)) (tr_kinds hz r3 (by decide))
  have lv : ∀ z, tr_isN w tr_kL z → tr_Same w w5 z := fun z hz => by
    have e1 := m1 _ _ hz
    have z1 := tr_isN_eq e1.1 hz
    have e2 := m2 _ _ z1
    have z2 := tr_isN_eq e2.1 z1
    have e3 := m3 _ _ z2
    exact ((e1.tr e2).tr e3).tr (lv3 z (tr_isN_eq e3.1 z2))
  have br : ∀ i, tr_brn w3 r1 i = tr_brn w r i := fun i => by rw [b3, b2, b1]
  have lf : ∀ b, b < 1024 → tr_lfb w3 r1 b = tr_lfb w r b := fun b hb => by rw [l3 b hb, l2 b hb, l1 b hb]
  -- y1 is at one place only
  have hy1 : ∀ i, i < 32 → i ≠ blk / 32 → tr_brn w3 r1 i ≠ y1 := by
    intro i hi hne z
    rcases f3 with ⟨e, hs⟩ | e
    · have e1 : tr_brn w r i = tr_brn w r (blk / 32) := by rw [← br i, z, e, b2, b1]
      refine hne (hU i (blk / 32) hi hi0 e1 ?_)
      have hN := (hR.br hi).1
      rw [e1]
      have hN0 := (hR.br hi0).1
      have e2 : tr_stp w1 (tr_brn w r (blk / 32)) = tr_stp w (tr_brn w r (blk / 32)) := (m1 _ _ hN0).stp
      have e3 := (m2 _ _ (tr_isN_eq (m1 _ _ hN0).1 hN0)).stp
      rw [← e2, ← e3, ← b1 (blk / 32), ← b2 (blk / 32)]
      exact hs
    · have hz := (R2.br hi).1
      rw [b3] at z
      rw [z] at hz
      obtain ⟨-, s, x, hx⟩ := hz
      rw [e] at hx
      cases hx
  have ar5 : tr_arr w5 r1 = tr_arr w3 r1 := (tr_arr_eq (o5 _ _ r4)).trans a4
  have c5 : ∀ i, i < 32 → (va_up f5 (blk / 32) (some y1)) i = some (if i = blk / 32 then y1 else tr_brn w3 r1 i) := by
    intro i hi
    have hf := R3.2.1
    obtain ⟨f, hf1, hf2⟩ := hf
    have hw4 : w4 (tr_arr w3 r1) = w3 (tr_arr w3 r1) := by rw [h4']; exact tr_up_ne (Ne.symm hxx)
    rw [hw4, hf1] at h5
    have hff : f5 = f := by
      injection h5 with h5
      injection h5 with h5
      injection h5 with _ h5
      injection h5 with _ h5
      injection h5 with h5
      injection h5 with h5
      injection h5 with h5
      injection h5 with h5
      exact h5.symm
    by_cases e : i = blk / 32
    · rw [if_pos e, e]; exact va_up_self _ _ _
    · rw [if_neg e, va_up_ne _ _ e, hff]
      exact hf2 i hi
  have x5 : w5 (tr_arr w5 r1) = some (tr_Q cB (va_up f5 (blk / 32) (some y1))) := by rw [ar5, h5', tr_up_self]
  have br5 : ∀ i, i < 32 → tr_brn w5 r1 i = if i = blk / 32 then y1 else tr_brn w3 r1 i := fun i hi => by
    unfold tr_brn
    rw [tr_chd_of x5 i, c5 i hi]; rfl
  -- y1's own row
  have y4 : w4 y1 = w3 y1 := o4 _ _ n3
  have ny4 : tr_isN w4 tr_kB y1 := tr_isN_eq y4 n3
  have y5 : w5 y1 = w4 y1 := o5 _ _ ny4
  have ay5 : tr_arr w5 y1 = tr_arr w3 y1 := (tr_arr_eq y5).trans (tr_arr_eq y4)
  have xy5 : w5 (tr_arr w5 y1) = some (tr_Q cL (va_up f4 (blk % 32) (some leaf))) := by rw [ay5, h5', tr_up_ne hxx, h4', tr_up_self]
  have c4 : ∀ j, j < 32 → (va_up f4 (blk % 32) (some leaf)) j = some (if j = blk % 32 then leaf else tr_chd w3 (tr_arr w3 y1) j) := by
    intro j hj
    obtain ⟨f, hf1, hf2⟩ := Y3.2.1
    rw [h4] at hf1
    have hff : f4 = f := by
      injection hf1 with h5
      injection h5 with h5
      injection h5 with _ h5
      injection h5 with _ h5
      injection h5 with h5
      injection h5 with h5
      injection h5 with h5
      injection h5 with h5
    by_cases e : j = blk % 32
    · rw [if_pos e, e]; exact va_up_self _ _ _
    · rw [if_neg e, va_up_ne _ _ e, hff]
      exact hf2 j hj
  have ch5 : ∀ j, j < 32 → tr_chd w5 (tr_arr w5 y1) j = if j = blk % 32 then leaf else tr_chd w3 (tr_arr w3 y1) j := fun j hj => by
    rw [tr_chd_of xy5 j, c4 j hj]; rfl
  have oldY : ∀ i, i < 32 → i ≠ blk / 32 → tr_Same w3 w5 (tr_brn w3 r1 i) := fun i hi hne => all _ _ (R3.br hi).1 (hy1 i hi hne) (tr_kinds (R3.br hi).1 r3 (by decide))
  have okY : ∀ i, i < 32 → i ≠ blk / 32 → tr_okB cJ cL w5 (tr_brn w3 r1 i) := fun i hi hne => tr_okB_same (R3.br hi) (oldY i hi hne) (fun j hj => lv3 _ ((R3.br hi).2.2 j hj).1)
  have okY1 : tr_okB cJ cL w5 y1 := by
    refine ⟨tr_isN_eq y5 ny4, ⟨_, xy5, fun j hj => by rw [ch5 j hj]; exact c4 j hj⟩, fun j hj => ?_⟩
    rw [ch5 j hj]
    by_cases e : j = blk % 32
    · rw [if_pos e]; exact tr_okL_same hlf (lv _ hlf.1)
    · rw [if_neg e]; exact tr_okL_same (Y3.2.2 j hj) (lv3 _ (Y3.2.2 j hj).1)
  refine ⟨?_, ⟨tr_isN_eq (o5 _ _ r4) r4, ⟨_, x5, fun i hi => ?_⟩, fun i hi => ?_⟩, fun i j hi hj e hs => ?_, fun b hb => ?_, W5, (((K1.tr K2).tr K3).tr K4).tr K5, lv, by rw [tr_stp_eq (o5 _ _ r4), tr_stp_eq (o4 _ _ r3)]; exact rs3, fun i hi => ?_⟩
  · have q4 : w4 q = some (tr_S (nI d) r1 t o n) := by rw [h4', tr_up_ne (Ne.symm (tr_ne_kind h4 q3))]; exact q3
    rw [h5', tr_up_ne (Ne.symm (tr_ne_kind h5 q4))]
    exact q4
  · have := br5 i hi
    unfold tr_brn at this
    rw [this]; exact c5 i hi
  · have := br5 i hi
    unfold tr_brn at this
    rw [this]
    by_cases e : i = blk / 32
    · rw [if_pos e]; exact okY1
    · rw [if_neg e]; exact okY i hi e
  · rw [br5 i hi, br5 j hj] at e
    by_cases ei : i = blk / 32
    · by_cases ej : j = blk / 32
      · rw [ei, ej]
      · rw [if_pos ei, if_neg ej] at e
        exact absurd e.symm (hy1 j hj ej)
    · by_cases ej : j = blk / 32
      · rw [if_neg ei, if_pos ej] at e
        exact absurd e (hy1 i hi ei)
      · rw [if_neg ei, if_neg ej] at e
        rw [br5 i hi, if_neg ei, (oldY i hi ei).stp] at hs
        have hN := (hR.br hi).1
        have hN1 := tr_isN_eq (m1 _ _ hN).1 hN
        have hN2 := tr_isN_eq (m2 _ _ hN1).1 hN1
        refine hU i j hi hj (by rw [← br i, ← br j]; exact e) ?_
        rw [br i] at hs
        rw [← (m1 _ _ hN).stp, ← (m2 _ _ hN1).stp, ← (m3 _ _ hN2).stp]
        exact hs
  · have hb2 : b / 32 < 32 := by omega
    have hj2 : b % 32 < 32 := by omega
    unfold tr_lfb
    rw [br5 _ hb2]
    by_cases ei : b / 32 = blk / 32
    · rw [if_pos ei, ch5 _ hj2]
      by_cases ej : b % 32 = blk % 32
      · rw [if_pos ej, if_pos (show b = blk by omega)]
      · rw [if_neg ej, if_neg (show b ≠ blk by omega), c3, ← ei]
        have := lf b hb
        unfold tr_lfb at this
        rw [← this, b3]
        exact ((m3 _ _ (R2.br hb2).1).chd _).symm
    · rw [if_neg ei, if_neg (show b ≠ blk by omega), (oldY _ hb2 ei).chd]
      have := lf b hb
      unfold tr_lfb at this
      exact this
  · rw [br5 i hi]
    by_cases ei : i = blk / 32
    · rw [if_pos ei]
      exact Or.inl (by rw [tr_stp_eq y5, tr_stp_eq y4]; exact s3)
    · rw [if_neg ei]
      have hN := (hR.br hi).1
      have hN1 := tr_isN_eq (m1 _ _ hN).1 hN
      have hN2 := tr_isN_eq (m2 _ _ hN1).1 hN1
      exact Or.inr (by rw [(oldY i hi ei).stp, br i, (m3 _ _ hN2).stp, (m2 _ _ hN1).stp, (m1 _ _ hN).stp])
end
section
/-! a draft: its invariant, and what each edit does to the values at the 32768 places -/
def tr_tb (o n : Nat) : Nat := ((o + n + 32767) % 32768) / 32
def tr_blk (w : tr_W) (r t T b : Nat) : Nat := if b = T then t else tr_lfb w r b
def tr_vl (w : tr_W) (r t T p : Nat) : Int64 := tr_val w (tr_arr w (tr_blk w r t T (p / 32))) (p % 32)
def tr_Ul (w : tr_W) (r d : Nat) : Prop := ∀ a b, a < 1024 → b < 1024 → tr_lfb w r a = tr_lfb w r b → tr_stp w (tr_lfb w r a) = nI d → a = b
def tr_Ut (w : tr_W) (r t d T : Nat) : Prop := ∀ a, a < 1024 → tr_lfb w r a = t → tr_stp w t = nI d → a = T
/-- every node that root and tail reach bears a stamp of the kind Z -/
def tr_Av (w : tr_W) (r t : Nat) (Z : Int32 → Prop) : Prop := Z (tr_stp w r) ∧ (∀ i, i < 32 → Z (tr_stp w (tr_brn w r i))) ∧ (∀ b, b < 1024 → Z (tr_stp w (tr_lfb w r b))) ∧ Z (tr_stp w t)
def tr_Df (cJ cL cB M d : Nat) (Z : Int32 → Prop) (w : tr_W) (q r t o n : Nat) : Prop :=
  tr_Wi w M ∧ d ≤ M ∧ w q = some (tr_S (nI d) r t (nI o) (nI n)) ∧ o < 32768 ∧ n ≤ 3000 ∧ tr_okR cJ cL cB w r ∧ tr_okL cJ w t ∧ tr_Ub w r d ∧ tr_Ul w r d ∧ tr_Ut w r t d (tr_tb o n) ∧ Z (nI d) ∧ tr_Av w r t Z
def tr_Hg (cJ cL cB M d q r t blk leaf : Nat) (o n : Int32) (w w' : tr_W) (r1 : Nat) : Prop :=
  w' q = some (tr_S (nI d) r1 t o n) ∧ tr_okR cJ cL cB w' r1 ∧ tr_Ub w' r1 d ∧ (∀ b, b < 1024 → tr_lfb w' r1 b = if b = blk then leaf else tr_lfb w r b) ∧ tr_Wi w' M ∧ tr_Kp d q w w' ∧ (∀ z, tr_isN w tr_kL z → tr_Same w w' z) ∧ tr_stp w' r1 = nI d ∧ ∀ i, i < 32 → (tr_stp w' (tr_brn w' r1 i) = nI d ∨ tr_stp w' (tr_brn w' r1 i) = tr_stp w (tr_brn w r i))
theorem tr_tb_lt (o n : Nat) : tr_tb o n < 1024 := by unfold tr_tb; omega
theorem tr_uniq {w : tr_W} {r t d T : Nat} (hl : tr_Ul w r d) (ht : tr_Ut w r t d T) {a b : Nat} (ha : a < 1024) (hb : b < 1024) (e : tr_blk w r t T a = tr_blk w r t T b) (hs : tr_stp w (tr_blk w r t T a) = nI d) : a = b := by
  unfold tr_blk at e hs
  by_cases h1 : a = T
  · by_cases h2 : b = T
    · rw [h1, h2]
    · rw [if_pos h1] at hs
      rw [if_pos h1, if_neg h2] at e
      exact absurd (ht b hb e.symm hs) h2
  · by_cases h2 : b = T
    · rw [if_neg h1] at hs
      rw [if_neg h1, if_pos h2] at e
      rw [e] at hs
      exact absurd (ht a ha e hs) h1
    · rw [if_neg h1] at hs
      rw [if_neg h1, if_neg h2] at e
      exact hl a b ha hb e hs
theorem tr_blk_ok {cJ cL cB : Nat} {w : tr_W} {r t T b : Nat} (hR : tr_okR cJ cL cB w r) (ht : tr_okL cJ w t) (hb : b < 1024) : tr_okL cJ w (tr_blk w r t T b) := by
  unfold tr_blk
  by_cases h : b = T
  · rw [if_pos h]; exact ht
  · rw [if_neg h]; exact hR.lf hb
theorem tr_Ub_all {cJ cL cB d : Nat} {w w' : tr_W} {r : Nat} (hR : tr_okR cJ cL cB w r) (hU : tr_Ub w r d) (hs : ∀ k n, tr_isN w k n → w' n = w n) (hb : ∀ i, tr_brn w' r i = tr_brn w r i) : tr_Ub w' r d := by
  intro i j hi hj e h
  rw [hb i, hb j] at e
  rw [hb i, tr_stp_eq (hs _ _ (hR.br hi).1)] at h
  exact hU i j hi hj e h
/-- the leaf's part of a write: owned, then one place stored -/
theorem tr_leaf {cJ cL cB M d q r z lf pos : Nat} {v : Int64} {w w1 w2 : tr_W} {f : Nat → Int64} {l : List Value} (hW : tr_Wi w M) (hd : d ≤ M) (hq : w q = some (.inr (tr_kS, l))) (hR : tr_okR cJ cL cB w r) (hU : tr_Ub w r d) (hz : tr_okL cJ w z)
    (h1 : tr_Ow tr_kL d w w1 z lf) (hf : w1 (tr_arr w1 lf) = some (tr_V cJ f)) (h2 : w2 = va_up w1 (tr_arr w1 lf) (some (tr_V cJ (vp_updL f (pos % 32) v)))) :
    tr_Kp d q w w2 ∧ tr_Wi w2 M ∧ w2 q = some (.inr (tr_kS, l)) ∧ tr_okR cJ cL cB w2 r ∧ (∀ b, b < 1024 → tr_lfb w2 r b = tr_lfb w r b) ∧ tr_Ub w2 r d ∧ tr_okL cJ w2 lf ∧ tr_stp w2 lf = nI d ∧ (∀ k m, tr_isN w k m → m ≠ lf → tr_Same w w2 m) ∧
      (∀ j, tr_val w2 (tr_arr w2 lf) j = if j = pos % 32 then v else tr_val w (tr_arr w z) j) ∧ ((lf = z ∧ tr_stp w z = nI d) ∨ w lf = none) ∧ (∀ k m, tr_isN w k m → w2 m = w m) ∧ ∀ i, tr_brn w2 r i = tr_brn w r i := by
  obtain ⟨K1, W1, n1, s1, a1, m1, f1, x1⟩ := h1.out (q := q) hW hd hz.1
  have o2 : ∀ k m, tr_isN w1 k m → w2 m = w1 m := fun k m hm => by rw [h2]; exact tr_st_old hf hm
  have K2 : tr_Kp d q w1 w2 := by rw [h2]; exact tr_st_Kp hf ⟨_, _, n1, s1, rfl⟩
  have W2 : tr_Wi w2 M := by rw [h2]; exact tr_st_Wi W1 hf
  have m2 : ∀ k m, tr_isN w1 k m → m ≠ lf → tr_Same w1 w2 m := fun k m hm hne => by rw [h2]; exact tr_st_same hf hm (fun e => hne (W1.2.1 _ _ _ _ hm n1 e))
  have hcell : ∀ k m, tr_isN w k m → w2 m = w m := fun k m hm => (o2 k m (tr_isN_eq (m1 k m hm).1 hm)).trans (m1 k m hm).1
  have hsame : ∀ k m, tr_isN w k m → m ≠ lf → tr_Same w w2 m := fun k m hm hne => (m1 k m hm).tr (m2 k m (tr_isN_eq (m1 k m hm).1 hm) hne)
  have hnl : ∀ k m, k ≠ tr_kL → tr_isN w k m → m ≠ lf := fun k m hk hm => tr_kinds (tr_isN_eq (m1 k m hm).1 hm) n1 hk
  have a2 : tr_arr w2 lf = tr_arr w1 lf := tr_arr_eq (o2 _ _ n1)
  have hx2 : w2 (tr_arr w2 lf) = some (tr_V cJ (vp_updL f (pos % 32) v)) := by rw [a2, h2, tr_up_self]
  have okl : ∀ y, tr_okL cJ w y → tr_okL cJ w2 y := by
    intro y hy
    by_cases e : y = lf
    · subst e
      exact ⟨tr_isN_eq (hcell _ _ hy.1) hy.1, _, hx2⟩
    · exact tr_okL_same hy (hsame _ _ hy.1 e)
  have hsr := hsame _ _ hR.1 (hnl _ _ (by decide) hR.1)
  have hbr : ∀ i, tr_brn w2 r i = tr_brn w r i := fun i => hsr.chd i
  have hsy : ∀ i, i < 32 → tr_Same w w2 (tr_brn w r i) := fun i hi => hsame _ _ (hR.br hi).1 (hnl _ _ (by decide) (hR.br hi).1)
  refine ⟨K1.tr K2, W2, ?_, ⟨tr_isN_eq hsr.1 hR.1, tr_okA_same hR.2.1 hsr, fun i hi => ?_⟩, fun b hb => ?_, tr_Ub_all hR hU hcell hbr, ⟨tr_isN_eq (o2 _ _ n1) n1, _, hx2⟩, ?_, hsame, fun j => ?_, f1, hcell, hbr⟩
  · rw [h2, tr_up_ne (Ne.symm (tr_ne_kind hf (x1 _ _ hq)))]
    exact x1 _ _ hq
  · rw [hsr.chd i]
    show tr_okB cJ cL w2 (tr_brn w r i)
    have hy := hR.br hi
    exact ⟨tr_isN_eq (hsy i hi).1 hy.1, tr_okA_same hy.2.1 (hsy i hi), fun j hj => by rw [(hsy i hi).chd j]; exact okl _ (hy.2.2 j hj)⟩
  · unfold tr_lfb
    rw [hbr]
    exact (hsy _ (by omega)).chd _
  · rw [tr_stp_eq (o2 _ _ n1)]; exact s1
  · rw [tr_val_of hx2 j]
    by_cases e : j = pos % 32
    · rw [if_pos e, e]; exact pk_uLs
    · rw [if_neg e, pk_uLn e]
      have e2 : w (tr_arr w z) = some (tr_V cJ f) := by rw [← a1]; exact hf
      exact (tr_val_of e2 j).symm
theorem tr_write_vl {cJ cL cB : Nat} {w w2 w' : tr_W} {r t T r' t' lf pos d : Nat} {v : Int64} (hR : tr_okR cJ cL cB w r) (ht : tr_okL cJ w t) (hl : tr_Ul w r d) (hut : tr_Ut w r t d T) (hpos : pos < 32768)
    (hsame : ∀ k m, tr_isN w k m → m ≠ lf → tr_Same w w2 m) (hval : ∀ j, tr_val w2 (tr_arr w2 lf) j = if j = pos % 32 then v else tr_val w (tr_arr w (tr_blk w r t T (pos / 32))) j) (hf : (lf = tr_blk w r t T (pos / 32) ∧ tr_stp w (tr_blk w r t T (pos / 32)) = nI d) ∨ w lf = none)
    (hcell : ∀ k m, tr_isN w k m → w2 m = w m) (hlf : tr_isN w2 tr_kL lf) (hs2 : ∀ z, tr_isN w2 tr_kL z → tr_Same w2 w' z) (hblk : ∀ b, b < 1024 → tr_blk w' r' t' T b = if b = pos / 32 then lf else tr_blk w r t T b) :
    ∀ p, p < 32768 → tr_vl w' r' t' T p = if p = pos then v else tr_vl w r t T p := by
  intro p hp
  have hb : p / 32 < 1024 := by omega
  unfold tr_vl
  rw [hblk _ hb]
  by_cases e : p / 32 = pos / 32
  · rw [if_pos e, (hs2 _ hlf).val, hval]
    by_cases e2 : p % 32 = pos % 32
    · rw [if_pos e2, if_pos (show p = pos by omega)]
    · rw [if_neg e2, if_neg (show p ≠ pos by omega), e]
  · rw [if_neg e, if_neg (show p ≠ pos by omega)]
    have hz := tr_blk_ok (T := T) hR ht hb
    have hne : tr_blk w r t T (p / 32) ≠ lf := by
      intro h
      rcases hf with ⟨h1, h2⟩ | h1
      · exact e (tr_uniq hl hut hb (by omega) (h.trans h1) (by rw [h, h1]; exact h2))
      · obtain ⟨-, s, x, hx⟩ := hz.1
        rw [h, h1] at hx
        cases hx
    have h1 := hsame _ _ hz.1 hne
    rw [(hs2 _ (tr_isN_eq h1.1 hz.1)).val, h1.val]
/-- a write into the tail's block -/
theorem tr_writeT {Z : Int32 → Prop} {cJ cL cB M d q r t o n lf pos : Nat} {v : Int64} {w w1 w2 w3 : tr_W} {f : Nat → Int64} (hD : tr_Df cJ cL cB M d Z w q r t o n) (hpos : pos < 32768) (hT : pos / 32 = tr_tb o n)
    (h1 : tr_Ow tr_kL d w w1 t lf) (hf : w1 (tr_arr w1 lf) = some (tr_V cJ f)) (h2 : w2 = va_up w1 (tr_arr w1 lf) (some (tr_V cJ (vp_updL f (pos % 32) v)))) (h3 : w3 = va_up w2 q (some (tr_S (nI d) r lf (nI o) (nI n)))) :
    tr_Df cJ cL cB M d Z w3 q r lf o n ∧ tr_Kp d q w w3 ∧ ∀ p, p < 32768 → tr_vl w3 r lf (tr_tb o n) p = if p = pos then v else tr_vl w r t (tr_tb o n) p := by
  obtain ⟨hW, hd, hq, ho, hn, hR, ht, hU, hl, hut, hz, hav⟩ := hD
  obtain ⟨K2, W2, q2, R2, l2, U2, L2, s2, sm2, v2, f2, c2, b2⟩ := tr_leaf (pos := pos) (v := v) hW hd hq hR hU ht h1 hf h2
  have sm3 : ∀ k m, tr_isN w2 k m → tr_Same w2 w3 m := fun k m hm => by rw [h3]; exact tr_sq_same W2 q2 hm
  have K3 : tr_Kp d q w2 w3 := by rw [h3]; exact tr_sq_Kp q2
  have W3 : tr_Wi w3 M := by rw [h3]; exact tr_sq_Wi W2 q2
  obtain ⟨R3, b3, l3⟩ := tr_okR_all R2 sm3
  have lfb3 : ∀ b, b < 1024 → tr_lfb w3 r b = tr_lfb w r b := fun b hb => (l3 b hb).trans (l2 b hb)
  have hTl : tr_tb o n < 1024 := tr_tb_lt o n
  have eb : tr_blk w r t (tr_tb o n) (pos / 32) = t := by unfold tr_blk; rw [if_pos hT]
  have stl : ∀ b, b < 1024 → tr_stp w3 (tr_lfb w r b) = tr_stp w (tr_lfb w r b) := fun b hb => by
    have h := (hR.lf hb).1
    have e2 := c2 _ _ h
    rw [(sm3 _ _ (tr_isN_eq e2 h)).stp, tr_stp_eq e2]
  refine ⟨⟨W3, hd, by rw [h3, tr_up_self], ho, hn, R3, tr_okL_same L2 (sm3 _ _ L2.1), tr_Ub_all R2 U2 (fun k m hm => (sm3 k m hm).1) b3, fun a b ha hb e hs => ?_, fun a ha e hs => ?_, hz, ?_, fun i hi => ?_, fun b hb => by rw [lfb3 b hb, stl b hb]; exact hav.2.2.1 b hb, by rw [(sm3 _ _ L2.1).stp, s2]; exact hz⟩, K2.tr K3, ?_⟩
  · rw [lfb3 a ha, lfb3 b hb] at e
    rw [lfb3 a ha, stl a ha] at hs
    exact hl a b ha hb e hs
  · rw [lfb3 a ha] at e
    rcases f2 with ⟨e1, e2⟩ | e1
    · exact hut a ha (e.trans e1) e2
    · obtain ⟨-, s, x, hx⟩ := (hR.lf ha).1
      rw [e, e1] at hx
      cases hx
  · rw [(sm3 _ _ R2.1).stp, tr_stp_eq (c2 _ _ hR.1)]; exact hav.1
  · have hN := (hR.br hi).1
    rw [b3, b2, (sm3 _ _ (tr_isN_eq (c2 _ _ hN) hN)).stp, tr_stp_eq (c2 _ _ hN)]; exact hav.2.1 i hi
  · refine tr_write_vl hR ht hl hut hpos sm2 (by rw [eb]; exact v2) (by rw [eb]; exact f2) c2 L2.1 (fun z hz => sm3 _ _ hz) (fun b hb => ?_)
    unfold tr_blk
    rw [← hT]
    by_cases e : b = pos / 32
    · rw [if_pos e, if_pos e]
    · rw [if_neg e, if_neg e, if_neg e]; exact lfb3 b hb
/-- a write elsewhere: the leaf is hung -/
theorem tr_writeH {Z : Int32 → Prop} {cJ cL cB M d q r r1 t o n lf pos : Nat} {v : Int64} {w w1 w2 w3 : tr_W} {f : Nat → Int64} (hD : tr_Df cJ cL cB M d Z w q r t o n) (hpos : pos < 32768) (hT : pos / 32 ≠ tr_tb o n)
    (h1 : tr_Ow tr_kL d w w1 (tr_lfb w r (pos / 32)) lf) (hf : w1 (tr_arr w1 lf) = some (tr_V cJ f)) (h2 : w2 = va_up w1 (tr_arr w1 lf) (some (tr_V cJ (vp_updL f (pos % 32) v)))) (h3 : tr_Hg cJ cL cB M d q r t (pos / 32) lf (nI o) (nI n) w2 w3 r1) :
    tr_Df cJ cL cB M d Z w3 q r1 t o n ∧ tr_Kp d q w w3 ∧ ∀ p, p < 32768 → tr_vl w3 r1 t (tr_tb o n) p = if p = pos then v else tr_vl w r t (tr_tb o n) p := by
  obtain ⟨hW, hd, hq, ho, hn, hR, ht, hU, hl, hut, hz, hav⟩ := hD
  have hb0 : pos / 32 < 1024 := by omega
  obtain ⟨K2, W2, q2, R2, l2, U2, L2, s2, sm2, v2, f2, c2, b2⟩ := tr_leaf (pos := pos) (v := v) hW hd hq hR hU (hR.lf hb0) h1 hf h2
  obtain ⟨q3, R3, U3, l3, W3, K3, sm3, rs3, bs3⟩ := h3
  have lfb3 : ∀ b, b < 1024 → tr_lfb w3 r1 b = if b = pos / 32 then lf else tr_lfb w r b := fun b hb => by rw [l3 b hb, l2 b hb]
  have eb : tr_blk w r t (tr_tb o n) (pos / 32) = tr_lfb w r (pos / 32) := by unfold tr_blk; rw [if_neg hT]
  have stz : ∀ z, tr_isN w tr_kL z → tr_stp w3 z = tr_stp w z := fun z h => by
    have e2 := c2 _ _ h
    rw [(sm3 _ (tr_isN_eq e2 h)).stp, tr_stp_eq e2]
  -- lf is at one block only
  have one : ∀ b, b < 1024 → b ≠ pos / 32 → tr_lfb w r b ≠ lf := by
    intro b hb hne h
    rcases f2 with ⟨e1, e2⟩ | e1
    · exact hne (hl b (pos / 32) hb hb0 (h.trans e1) (by rw [h, e1]; exact e2))
    · obtain ⟨-, s, x, hx⟩ := (hR.lf hb).1
      rw [h, e1] at hx
      cases hx
  have nt : t ≠ lf ∨ tr_stp w t ≠ nI d := by
    by_cases h : t = lf
    · refine Or.inr (fun hs => ?_)
      rcases f2 with ⟨e1, e2⟩ | e1
      · exact hT (hut (pos / 32) hb0 (e1.symm.trans h.symm) hs)
      · obtain ⟨-, s, x, hx⟩ := ht.1
        rw [h, e1] at hx
        cases hx
    · exact Or.inl h
  refine ⟨⟨W3, hd, q3, ho, hn, R3, ?_, U3, fun a b ha hb e hs => ?_, fun a ha e hs => ?_, hz, by rw [rs3]; exact hz, fun i hi => ?_, fun b hb => ?_, by rw [stz _ ht.1]; exact hav.2.2.2⟩, K2.tr K3, ?_⟩
  · have h := tr_isN_eq (c2 _ _ ht.1) ht.1
    by_cases e : t = lf
    · rw [e]; exact tr_okL_same L2 (sm3 _ L2.1)
    · exact tr_okL_same (tr_okL_same ht (sm2 _ _ ht.1 e)) (sm3 _ h)
  · rw [lfb3 a ha, lfb3 b hb] at e
    rw [lfb3 a ha] at hs
    by_cases ea : a = pos / 32
    · by_cases eb : b = pos / 32
      · rw [ea, eb]
      · rw [if_pos ea, if_neg eb] at e
        exact absurd e.symm (one b hb eb)
    · by_cases eb : b = pos / 32
      · rw [if_neg ea, if_pos eb] at e
        exact absurd e (one a ha ea)
      · rw [if_neg ea, if_neg eb] at e
        rw [if_neg ea, stz _ (hR.lf ha).1] at hs
        exact hl a b ha hb e hs
  · rw [lfb3 a ha] at e
    rw [stz _ ht.1] at hs
    by_cases ea : a = pos / 32
    · rw [if_pos ea] at e
      rcases nt with h | h
      · exact absurd e.symm h
      · exact absurd hs h
    · rw [if_neg ea] at e
      exact hut a ha e hs
  · rcases bs3 i hi with h | h
    · rw [h]; exact hz
    · rw [h, b2, tr_stp_eq (c2 _ _ (hR.br hi).1)]; exact hav.2.1 i hi
  · rw [lfb3 b hb]
    by_cases e : b = pos / 32
    · rw [if_pos e, (sm3 _ L2.1).stp, s2]; exact hz
    · rw [if_neg e, stz _ (hR.lf hb).1]; exact hav.2.2.1 b hb
  · refine tr_write_vl hR ht hl hut hpos sm2 (by rw [eb]; exact v2) (by rw [eb]; exact f2) c2 L2.1 sm3 (fun b hb => ?_)
    unfold tr_blk
    by_cases e : b = tr_tb o n
    · rw [if_pos e, if_pos e, if_neg (show b ≠ pos / 32 by rw [e]; exact Ne.symm hT)]
    · rw [if_neg e, if_neg e]; exact lfb3 b hb
/-- the sequence's numbers change, its tail's block doesn't -/
theorem tr_Df_seq {Z : Int32 → Prop} {cJ cL cB M d q r t o n o' n' : Nat} {w w' : tr_W} (hD : tr_Df cJ cL cB M d Z w q r t o n) (ho' : o' < 32768) (hn' : n' ≤ 3000) (hT : tr_tb o' n' = tr_tb o n) (h : w' = va_up w q (some (tr_S (nI d) r t (nI o') (nI n')))) :
    tr_Df cJ cL cB M d Z w' q r t o' n' ∧ tr_Kp d q w w' ∧ ∀ p, p < 32768 → tr_vl w' r t (tr_tb o' n') p = tr_vl w r t (tr_tb o n) p := by
  obtain ⟨hW, hd, hq, ho, hn, hR, ht, hU, hl, hut, hz, hav⟩ := hD
  have sm : ∀ k m, tr_isN w k m → tr_Same w w' m := fun k m hm => by rw [h]; exact tr_sq_same hW hq hm
  obtain ⟨R3, b3, l3⟩ := tr_okR_all hR sm
  refine ⟨⟨by rw [h]; exact tr_sq_Wi hW hq, hd, by rw [h, tr_up_self], ho', hn', R3, tr_okL_same ht (sm _ _ ht.1), tr_Ub_all hR hU (fun k m hm => (sm k m hm).1) b3, fun a b ha hb e hs => ?_, fun a ha e hs => ?_, hz, by rw [(sm _ _ hR.1).stp]; exact hav.1, fun i hi => by rw [b3, (sm _ _ (hR.br hi).1).stp]; exact hav.2.1 i hi, fun b hb => by rw [l3 b hb, (sm _ _ (hR.lf hb).1).stp]; exact hav.2.2.1 b hb, by rw [(sm _ _ ht.1).stp]; exact hav.2.2.2⟩, by rw [h]; exact tr_sq_Kp hq, fun p hp => ?_⟩
  · rw [l3 a ha, l3 b hb] at e
    rw [l3 a ha, (sm _ _ (hR.lf ha).1).stp] at hs
    exact hl a b ha hb e hs
  · rw [l3 a ha] at e
    rw [(sm _ _ ht.1).stp] at hs
    rw [hT]
    exact hut a ha e hs
  · have hb : p / 32 < 1024 := by omega
    unfold tr_vl
    have e : tr_blk w' r t (tr_tb o' n') (p / 32) = tr_blk w r t (tr_tb o n) (p / 32) := by
      unfold tr_blk
      rw [hT, l3 _ hb]
    rw [e]
    exact (sm _ _ (tr_blk_ok hR ht hb).1).val _
/-- the tail gives way: its leaf is hung, the next block's leaf becomes the tail -/
theorem tr_next {Z : Int32 → Prop} {cJ cL cB M d q r r1 t o n : Nat} {w w0 w1 w2 : tr_W} (hD : tr_Df cJ cL cB M d Z w q r t o n) (hn1 : n < 3000) (hne : tr_tb o (n + 1) ≠ tr_tb o n) (h0 : w0 = va_up w q (some (tr_S (nI d) r t (nI o) (nI (n + 1)))))
    (h1 : tr_Hg cJ cL cB M d q r t (tr_tb o n) t (nI o) (nI (n + 1)) w0 w1 r1) (h2 : w2 = va_up w1 q (some (tr_S (nI d) r1 (tr_lfb w1 r1 (tr_tb o (n + 1))) (nI o) (nI (n + 1))))) :
    tr_Df cJ cL cB M d Z w2 q r1 (tr_lfb w1 r1 (tr_tb o (n + 1))) o (n + 1) ∧ tr_Kp d q w w2 ∧ ∀ p, p < 32768 → tr_vl w2 r1 (tr_lfb w1 r1 (tr_tb o (n + 1))) (tr_tb o (n + 1)) p = tr_vl w r t (tr_tb o n) p := by
  obtain ⟨hW, hd, hq, ho, hn, hR, ht, hU, hl, hut, hz, hav⟩ := hD
  have sm0 : ∀ k m, tr_isN w k m → tr_Same w w0 m := fun k m hm => by rw [h0]; exact tr_sq_same hW hq hm
  obtain ⟨R0, b0, l0⟩ := tr_okR_all hR sm0
  obtain ⟨q1, R1, U1, l1, W1, K1, sm1, rs1, bs1⟩ := h1
  have sm2 : ∀ k m, tr_isN w1 k m → tr_Same w1 w2 m := fun k m hm => by rw [h2]; exact tr_sq_same W1 q1 hm
  obtain ⟨R2, b2, l2⟩ := tr_okR_all R1 sm2
  have hB : tr_tb o (n + 1) < 1024 := tr_tb_lt _ _
  have hB0 : tr_tb o n < 1024 := tr_tb_lt _ _
  have lfb1 : ∀ b, b < 1024 → tr_lfb w1 r1 b = if b = tr_tb o n then t else tr_lfb w r b := fun b hb => by rw [l1 b hb, l0 b hb]
  have lfb2 : ∀ b, b < 1024 → tr_lfb w2 r1 b = if b = tr_tb o n then t else tr_lfb w r b := fun b hb => by rw [l2 b hb, lfb1 b hb]
  have lsm : ∀ z, tr_isN w tr_kL z → tr_Same w w2 z := fun z hz => by
    have e0 := sm0 _ _ hz
    have z0 := tr_isN_eq e0.1 hz
    have e1 := sm1 _ z0
    have z1 := tr_isN_eq e1.1 z0
    exact (e0.tr e1).tr (sm2 _ _ z1)
  have hUl : tr_Ul w2 r1 d := by
    intro a b ha hb e hs
    rw [lfb2 a ha, lfb2 b hb] at e
    rw [lfb2 a ha] at hs
    by_cases ea : a = tr_tb o n
    · by_cases eb : b = tr_tb o n
      · rw [ea, eb]
      · rw [if_pos ea, if_neg eb] at e
        rw [if_pos ea, (lsm _ ht.1).stp] at hs
        exact absurd (hut b hb e.symm hs) eb
    · by_cases eb : b = tr_tb o n
      · rw [if_neg ea, if_pos eb] at e
        rw [if_neg ea, e, (lsm _ ht.1).stp] at hs
        exact absurd (hut a ha e hs) ea
      · rw [if_neg ea, if_neg eb] at e
        rw [if_neg ea, (lsm _ (hR.lf ha).1).stp] at hs
        exact hl a b ha hb e hs
  have hlv : ∀ b, b < 1024 → Z (tr_stp w2 (tr_lfb w2 r1 b)) := by
    intro b hb
    rw [lfb2 b hb]
    by_cases e : b = tr_tb o n
    · rw [if_pos e, (lsm _ ht.1).stp]; exact hav.2.2.2
    · rw [if_neg e, (lsm _ (hR.lf hb).1).stp]; exact hav.2.2.1 b hb
  have eT : tr_lfb w2 r1 (tr_tb o (n + 1)) = tr_lfb w1 r1 (tr_tb o (n + 1)) := l2 _ hB
  refine ⟨⟨by rw [h2]; exact tr_sq_Wi W1 q1, hd, by rw [h2, tr_up_self], ho, hn1, R2, by rw [← eT]; exact R2.lf hB, tr_Ub_all R1 U1 (fun k m hm => (sm2 k m hm).1) b2, hUl, fun a ha e hs => ?_, hz, by rw [(sm2 _ _ R1.1).stp, rs1]; exact hz, fun i hi => ?_, hlv, by rw [← eT]; exact hlv _ hB⟩, ?_, fun p hp => ?_⟩
  · rw [← eT] at e hs
    exact hUl a _ ha hB e (by rw [e]; exact hs)
  · rw [b2, (sm2 _ _ (R1.br hi).1).stp]
    rcases bs1 i hi with h | h
    · rw [h]; exact hz
    · rw [h, b0, (sm0 _ _ (hR.br hi).1).stp]; exact hav.2.1 i hi
  · have K0 : tr_Kp d q w w0 := by rw [h0]; exact tr_sq_Kp hq
    have K2 : tr_Kp d q w1 w2 := by rw [h2]; exact tr_sq_Kp q1
    exact (K0.tr K1).tr K2
  · have hb : p / 32 < 1024 := by omega
    unfold tr_vl
    have e : tr_blk w2 r1 (tr_lfb w1 r1 (tr_tb o (n + 1))) (tr_tb o (n + 1)) (p / 32) = tr_blk w r t (tr_tb o n) (p / 32) := by
      unfold tr_blk
      by_cases e1 : p / 32 = tr_tb o (n + 1)
      · rw [if_pos e1, if_neg (show p / 32 ≠ tr_tb o n by rw [e1]; exact hne), lfb1 _ hB, if_neg hne, e1]
      · rw [if_neg e1]; exact lfb2 _ hb
    rw [e]
    exact (lsm _ (tr_blk_ok hR ht hb).1).val _
/-- the tail goes back to an earlier block -/
theorem tr_trim {Z : Int32 → Prop} {cJ cL cB M d q r t o n o' n' : Nat} {w w' : tr_W} (hD : tr_Df cJ cL cB M d Z w q r t o n) (ho' : o' < 32768) (hn' : n' ≤ 3000) (h : w' = va_up w q (some (tr_S (nI d) r (tr_lfb w r (tr_tb o' n')) (nI o') (nI n')))) :
    tr_Df cJ cL cB M d Z w' q r (tr_lfb w r (tr_tb o' n')) o' n' ∧ tr_Kp d q w w' ∧ ∀ p, p < 32768 → p / 32 ≠ tr_tb o n → tr_vl w' r (tr_lfb w r (tr_tb o' n')) (tr_tb o' n') p = tr_vl w r t (tr_tb o n) p := by
  obtain ⟨hW, hd, hq, ho, hn, hR, ht, hU, hl, hut, hz, hav⟩ := hD
  have sm : ∀ k m, tr_isN w k m → tr_Same w w' m := fun k m hm => by rw [h]; exact tr_sq_same hW hq hm
  obtain ⟨R3, b3, l3⟩ := tr_okR_all hR sm
  have hB : tr_tb o' n' < 1024 := tr_tb_lt _ _
  refine ⟨⟨by rw [h]; exact tr_sq_Wi hW hq, hd, by rw [h, tr_up_self], ho', hn', R3, tr_okL_same (hR.lf hB) (sm _ _ (hR.lf hB).1), tr_Ub_all hR hU (fun k m hm => (sm k m hm).1) b3, fun a b ha hb e hs => ?_, fun a ha e hs => ?_, hz, by rw [(sm _ _ hR.1).stp]; exact hav.1, fun i hi => by rw [b3, (sm _ _ (hR.br hi).1).stp]; exact hav.2.1 i hi, fun b hb => by rw [l3 b hb, (sm _ _ (hR.lf hb).1).stp]; exact hav.2.2.1 b hb, by rw [(sm _ _ (hR.lf hB).1).stp]; exact hav.2.2.1 _ hB⟩, by rw [h]; exact tr_sq_Kp hq, fun p hp hne => ?_⟩
  · rw [l3 a ha, l3 b hb] at e
    rw [l3 a ha, (sm _ _ (hR.lf ha).1).stp] at hs
    exact hl a b ha hb e hs
  · rw [l3 a ha] at e
    rw [(sm _ _ (hR.lf hB).1).stp] at hs
    exact hl a _ ha hB e (by rw [e]; exact hs)
  · have hb : p / 32 < 1024 := by omega
    unfold tr_vl
    have e : tr_blk w' r (tr_lfb w r (tr_tb o' n')) (tr_tb o' n') (p / 32) = tr_lfb w r (p / 32) := by
      unfold tr_blk
      by_cases e1 : p / 32 = tr_tb o' n'
      · rw [if_pos e1, e1]
      · rw [if_neg e1]; exact l3 _ hb
    have e2 : tr_blk w r t (tr_tb o n) (p / 32) = tr_lfb w r (p / 32) := by unfold tr_blk; rw [if_neg hne]
    rw [e, e2]
    exact (sm _ _ (hR.lf hb).1).val _
end
section
set_option maxHeartbeats 4000000 in
set_option maxRecDepth 100000 in
theorem c_B_init (l : Launch) (G : g_G) (w : xw_W) (q : Nat) (st : Int32) (x : Nat) (hq : w q = some (.inr (0, [.int 0, .null]))) : Met l ny_B_init nw_B_init ({ frames := 1, cells := 0, slots := 0, locals := 12 }) (g_Pc G w [.ref q, .int st, .ref x]) (g_Qv G (fun w' => w' = va_up w q (some (.inr (0, [.int st, .ref x]))))) 0 0 (xw_A (g_b G)) := by
  refine g_met (by decide) (Nat.le_of_ble_eq_true rfl) rfl ?_
  intro p e s m below meth c ls hx hb hr hts hown hlocks hin hml hl hK hB hw hS
  have hT : ∀ w ∈ nw_T, w.before _ s = true := fun w h => hts w (List.mem_cons_of_mem _ h)
  have hown : s.vm.findClass "RadixShelf$Branch" = some m.cls := hown
  have hl : lv_has ls 3 [(0, .ref q), (1, .int st), (2, .ref x)] := hl
  refine lv_aload_n hx hb nd_B_init_0 rfl (lv_at hl 0 rfl) ?_
  refine W.objInit hx hb hown (hT _ nh_ml_B_1) (hT _ nh_im_obj) (hT _ nh_co_obj) rfl (by rw [hml]; exact hl.1) rfl nd_B_init_1 (Nat.le_of_ble_eq_true rfl) (Nat.le_of_ble_eq_true rfl) ?_
  refine W.eq (g2 := F0 m 4 ls []) rfl ?_
  refine lv_aload_n hx hb nd_B_init_4 rfl (lv_at hl 0 rfl) ?_
  refine lv_iload_n hx hb nd_B_init_5 rfl (lv_at hl 1 rfl) ?_
  refine xw_putF (T := nT_B) (N := 2) (ci := 0) (v := .int st) (ty := .int) hx hb hT nu_B nt_B nk_B nn_B hown hK.1 hB hw hS hq rfl 0 (by decide) (hT _ nh_fl_B_7) (fun _ h9 => h9) rfl hin rfl (by decide +kernel) rfl rfl (Nat.le_of_ble_eq_true rfl) nd_B_init_6 (fun H locs hw hS => ?_)
  obtain ⟨w1, ew2⟩ : ∃ z, z = va_up w q (some (.inr (0, [.int st, .null]))) := ⟨_, rfl⟩
  have hw : g_P G w1 H := by rw [ew2]; exact hw
  have hq : w1 q = some (.inr (0, [.int st, .null])) := by rw [ew2]; exact va_up_self _ _ _
  refine lv_aload_n hx hb nd_B_init_9 rfl (lv_at hl 0 rfl) ?_
  refine lv_aload_n hx hb nd_B_init_10 rfl (lv_at hl 2 rfl) ?_
  refine xw_putF (T := nT_B) (N := 2) (ci := 0) (v := .ref x) (ty := (.array (.object "RadixShelf$Leaf"))) hx hb hT nu_B nt_B nk_B nn_B hown hK.1 hB hw hS hq rfl 1 (by decide) (hT _ nh_fl_B_13) (fun _ h9 => h9) rfl hin rfl (by decide +kernel) rfl rfl (Nat.le_of_ble_eq_true rfl) nd_B_init_11 (fun H locs hw hS => ?_)
  obtain ⟨w3, ew4⟩ : ∃ z, z = va_up w1 q (some (.inr (0, [.int st, .ref x]))) := ⟨_, rfl⟩
  have hw : g_P G w3 H := by rw [ew4]; exact hw
  have hq : w3 q = some (.inr (0, [.int st, .ref x])) := by rw [ew4]; exact va_up_self _ _ _
  exact g_vret hx hb hr hlocks hw hS (by rw [ew4, ew2, bx_uu]) (by decide) (by decide) nd_B_init_14

set_option maxHeartbeats 4000000 in
set_option maxRecDepth 100000 in
theorem c_F_init (l : Launch) (G : g_G) (w : xw_W) (q : Nat) (st : Int32) (x : Nat) (hq : w q = some (.inr (1, [.int 0, .null]))) : Met l ny_F_init nw_F_init ({ frames := 1, cells := 0, slots := 0, locals := 12 }) (g_Pc G w [.ref q, .int st, .ref x]) (g_Qv G (fun w' => w' = va_up w q (some (.inr (1, [.int st, .ref x]))))) 0 0 (xw_A (g_b G)) := by
  refine g_met (by decide) (Nat.le_of_ble_eq_true rfl) rfl ?_
  intro p e s m below meth c ls hx hb hr hts hown hlocks hin hml hl hK hB hw hS
  have hT : ∀ w ∈ nw_T, w.before _ s = true := fun w h => hts w (List.mem_cons_of_mem _ h)
  have hown : s.vm.findClass "RadixShelf$Leaf" = some m.cls := hown
  have hl : lv_has ls 3 [(0, .ref q), (1, .int st), (2, .ref x)] := hl
  refine lv_aload_n hx hb nd_F_init_0 rfl (lv_at hl 0 rfl) ?_
  refine W.objInit hx hb hown (hT _ nh_ml_F_1) (hT _ nh_im_obj) (hT _ nh_co_obj) rfl (by rw [hml]; exact hl.1) rfl nd_F_init_1 (Nat.le_of_ble_eq_true rfl) (Nat.le_of_ble_eq_true rfl) ?_
  refine W.eq (g2 := F0 m 4 ls []) rfl ?_
  refine lv_aload_n hx hb nd_F_init_4 rfl (lv_at hl 0 rfl) ?_
  refine lv_iload_n hx hb nd_F_init_5 rfl (lv_at hl 1 rfl) ?_
  refine xw_putF (T := nT_F) (N := 2) (ci := 1) (v := .int st) (ty := .int) hx hb hT nu_F nt_F nk_F nn_F hown hK.1 hB hw hS hq rfl 0 (by decide) (hT _ nh_fl_F_7) (fun _ h9 => h9) rfl hin rfl (by decide +kernel) rfl rfl (Nat.le_of_ble_eq_true rfl) nd_F_init_6 (fun H locs hw hS => ?_)
  obtain ⟨w1, ew2⟩ : ∃ z, z = va_up w q (some (.inr (1, [.int st, .null]))) := ⟨_, rfl⟩
  have hw : g_P G w1 H := by rw [ew2]; exact hw
  have hq : w1 q = some (.inr (1, [.int st, .null])) := by rw [ew2]; exact va_up_self _ _ _
  refine lv_aload_n hx hb nd_F_init_9 rfl (lv_at hl 0 rfl) ?_
  refine lv_aload_n hx hb nd_F_init_10 rfl (lv_at hl 2 rfl) ?_
  refine xw_putF (T := nT_F) (N := 2) (ci := 1) (v := .ref x) (ty := (.array .long)) hx hb hT nu_F nt_F nk_F nn_F hown hK.1 hB hw hS hq rfl 1 (by decide) (hT _ nh_fl_F_13) (fun _ h9 => h9) rfl hin rfl (by decide +kernel) rfl rfl (Nat.le_of_ble_eq_true rfl) nd_F_init_11 (fun H locs hw hS => ?_)
  obtain ⟨w3, ew4⟩ : ∃ z, z = va_up w1 q (some (.inr (1, [.int st, .ref x]))) := ⟨_, rfl⟩
  have hw : g_P G w3 H := by rw [ew4]; exact hw
  have hq : w3 q = some (.inr (1, [.int st, .ref x])) := by rw [ew4]; exact va_up_self _ _ _
  exact g_vret hx hb hr hlocks hw hS (by rw [ew4, ew2, bx_uu]) (by decide) (by decide) nd_F_init_14

set_option maxHeartbeats 4000000 in
set_option maxRecDepth 100000 in
theorem c_R_init (l : Launch) (G : g_G) (w : xw_W) (q : Nat) (st : Int32) (x : Nat) (hq : w q = some (.inr (2, [.int 0, .null]))) : Met l ny_R_init nw_R_init ({ frames := 1, cells := 0, slots := 0, locals := 12 }) (g_Pc G w [.ref q, .int st, .ref x]) (g_Qv G (fun w' => w' = va_up w q (some (.inr (2, [.int st, .ref x]))))) 0 0 (xw_A (g_b G)) := by
  refine g_met (by decide) (Nat.le_of_ble_eq_true rfl) rfl ?_
  intro p e s m below meth c ls hx hb hr hts hown hlocks hin hml hl hK hB hw hS
  have hT : ∀ w ∈ nw_T, w.before _ s = true := fun w h => hts w (List.mem_cons_of_mem _ h)
  have hown : s.vm.findClass "RadixShelf$Root" = some m.cls := hown
  have hl : lv_has ls 3 [(0, .ref q), (1, .int st), (2, .ref x)] := hl
  refine lv_aload_n hx hb nd_R_init_0 rfl (lv_at hl 0 rfl) ?_
  refine W.objInit hx hb hown (hT _ nh_ml_R_3) (hT _ nh_im_obj) (hT _ nh_co_obj) rfl (by rw [hml]; exact hl.1) rfl nd_R_init_1 (Nat.le_of_ble_eq_true rfl) (Nat.le_of_ble_eq_true rfl) ?_
  refine W.eq (g2 := F0 m 4 ls []) rfl ?_
  refine lv_aload_n hx hb nd_R_init_4 rfl (lv_at hl 0 rfl) ?_
  refine lv_iload_n hx hb nd_R_init_5 rfl (lv_at hl 1 rfl) ?_
  refine xw_putF (T := nT_R) (N := 2) (ci := 2) (v := .int st) (ty := .int) hx hb hT nu_R nt_R nk_R nn_R hown hK.1 hB hw hS hq rfl 0 (by decide) (hT _ nh_fl_R_9) (fun _ h9 => h9) rfl hin rfl (by decide +kernel) rfl rfl (Nat.le_of_ble_eq_true rfl) nd_R_init_6 (fun H locs hw hS => ?_)
  obtain ⟨w1, ew2⟩ : ∃ z, z = va_up w q (some (.inr (2, [.int st, .null]))) := ⟨_, rfl⟩
  have hw : g_P G w1 H := by rw [ew2]; exact hw
  have hq : w1 q = some (.inr (2, [.int st, .null])) := by rw [ew2]; exact va_up_self _ _ _
  refine lv_aload_n hx hb nd_R_init_9 rfl (lv_at hl 0 rfl) ?_
  refine lv_aload_n hx hb nd_R_init_10 rfl (lv_at hl 2 rfl) ?_
  refine xw_putF (T := nT_R) (N := 2) (ci := 2) (v := .ref x) (ty := (.array (.object "RadixShelf$Branch"))) hx hb hT nu_R nt_R nk_R nn_R hown hK.1 hB hw hS hq rfl 1 (by decide) (hT _ nh_fl_R_15) (fun _ h9 => h9) rfl hin rfl (by decide +kernel) rfl rfl (Nat.le_of_ble_eq_true rfl) nd_R_init_11 (fun H locs hw hS => ?_)
  obtain ⟨w3, ew4⟩ : ∃ z, z = va_up w1 q (some (.inr (2, [.int st, .ref x]))) := ⟨_, rfl⟩
  have hw : g_P G w3 H := by rw [ew4]; exact hw
  have hq : w3 q = some (.inr (2, [.int st, .ref x])) := by rw [ew4]; exact va_up_self _ _ _
  exact g_vret hx hb hr hlocks hw hS (by rw [ew4, ew2, bx_uu]) (by decide) (by decide) nd_R_init_14

theorem tr_pos_and {o : Nat} (ho : o < 32768) (i : Int32) : (nI o + i) &&& 32767 = nI ((o + i.toBitVec.toNat) % 32768) := by
  rw [pk_and (nI o + i) (m := 32767) 15 (by decide)]
  have e : (nI o + i).toBitVec.toNat = (o + i.toBitVec.toNat) % 2 ^ 32 := by
    rw [Int32.toBitVec_add, BitVec.toNat_add, pk_tn (by omega)]
  rw [e]
  congr 1
  omega

set_option maxHeartbeats 4000000 in
set_option maxRecDepth 100000 in
theorem c_Q_position (l : Launch) (G : g_G) (w : xw_W) (q r t o : Nat) (st n i : Int32) (ho : o < 32768) (hq : w q = some (.inr (3, [.int st, .ref r, .ref t, .int (nI o), .int n]))) : Met l ny_Q_position nw_Q_position ({ frames := 0, cells := 0, slots := 0, locals := 0 }) (g_Pc G w [.ref q, .int i]) (g_Qi G (fun v w' => v = nI ((o + i.toBitVec.toNat) % 32768) ∧ w' = w)) 0 0 (xw_A (g_b G)) := by
  refine g_met (by decide) (Nat.le_of_ble_eq_true rfl) rfl ?_
  intro p e s m below meth c ls hx hb hr hts hown hlocks hin hml hl hK hB hw hS
  have hT : ∀ w ∈ nw_T, w.before _ s = true := fun w h => hts w (List.mem_cons_of_mem _ h)
  have hown : s.vm.findClass "RadixShelf$Sequence" = some m.cls := hown
  have hl : lv_has ls 2 [(0, .ref q), (1, .int i)] := hl
  refine lv_aload_n hx hb nd_Q_position_0 rfl (lv_at hl 0 rfl) ?_
  refine xw_get (T := nT_Q) (N := 5) (ci := 3) hx hb hT nu_Q hown hK.1 hw hq rfl 3 (by decide) (hT _ nh_fl_Q_23) (fun _ h9 => h9) rfl nd_Q_position_1 ?_
  refine lv_iload_n hx hb nd_Q_position_4 rfl (lv_at hl 1 rfl) ?_
  refine lv_iadd hx hb nd_Q_position_5 ?_
  refine lv_sipush (v := 32767) hx hb nd_Q_position_6 (by decide) ?_
  refine lv_iand hx hb nd_Q_position_9 ?_
  refine lv_topi (fun y1 ey2 => ?_)
  obtain rfl : y1 = nI ((o + i.toBitVec.toNat) % 32768) := ey2.trans (tr_pos_and ho i)
  exact g_iret hx hb hr hlocks hw hS (⟨rfl, rfl⟩) (by decide) (by decide) nd_Q_position_10
end
section
theorem tr_isN.cell {w : tr_W} {k n : Nat} (h : tr_isN w k n) : w n = some (tr_N k (tr_stp w n) (tr_arr w n)) := by
  obtain ⟨-, s, x, hx⟩ := h
  rw [tr_stp_of hx, tr_arr_of hx]
  exact hx
theorem tr_fitJ (c n : Nat) (f : Nat → Int64) : ∀ (i : Nat) (v : Value), (vp_cell c (n, .inr (.inl f))).slots[i]? = some v → fits .long v = true := fun i v hv => va_fit (F := fun j => .long (f j)) (fun _ _ => rfl) i v hv
theorem tr_fitQ (c n : Nat) (C : String) (f : Nat → Option Nat) : ∀ (i : Nat) (v : Value), (vp_cell c (n, .inr (.inr (.inr (.inr f))))).slots[i]? = some v → fits (.object C) v = true := fun i v hv => va_fit (F := fun j => va_rf (f j)) (fun j _ => by cases f j <;> rfl) i v hv
theorem tr_over {w : tr_W} {n x : Nat} {e0 a e1 : Option va_E} : va_up (va_up (va_up w n e0) x a) n e1 = va_up (va_up w x a) n e1 := by
  funext j
  by_cases h : j = n
  · simp [va_up, h]
  · by_cases h' : j = x
    · simp [va_up, h, h']
    · simp [va_up, h, h']
theorem tr_ush5 {n : Nat} (h : n < 2 ^ 31) : ((nI n).toUInt32 >>> ((5 : Int32).toUInt32 &&& Int32.toUInt32 31)).toInt32 = nI (n / 32) := pk_ushrN (by omega) 5 5 (by decide)
theorem tr_and31 {n : Nat} (h : n < 2 ^ 31) : nI n &&& 31 = nI (n % 32) := pk_andN (by omega) 5 (by decide)

set_option maxHeartbeats 4000000 in
set_option maxRecDepth 100000 in
theorem c_B_ownedBy (l : Launch) (G : g_G) (w : xw_W) (a x d : Nat) (st : Int32) (f : Nat → Option Nat) (ha : w a = some (.inr (0, [.int st, .ref x]))) (hx0 : w x = some (.inl (G.2.1 1, 32, .inr (.inr (.inr (.inr f)))))) : Met l ny_B_ownedBy nw_B_ownedBy ({ frames := 2, cells := 2, slots := 34, locals := 34 }) (g_Pc G w [.ref a, .int (nI d)]) (g_Qr G (fun r w' => tr_Ow tr_kB d w w' a r)) 2 34 (xw_A (g_b G)) := by
  refine g_met (by decide) (Nat.le_of_ble_eq_true rfl) rfl ?_
  intro p e s m below meth c ls hx hb hr hts hown hlocks hin hml hl hK hB hw hS
  have ha0 := ha
  have hx00 := hx0
  have hT : ∀ w ∈ nw_T, w.before _ s = true := fun w h => hts w (List.mem_cons_of_mem _ h)
  have hown : s.vm.findClass "RadixShelf$Branch" = some m.cls := hown
  have hl : lv_has ls 2 [(0, .ref a), (1, .int (nI d))] := hl
  refine lv_aload_n hx hb nd_B_ownedBy_0 rfl (lv_at hl 0 rfl) ?_
  refine xw_get (T := nT_B) (N := 2) (ci := 0) hx hb hT nu_B hown hK.1 hw ha rfl 0 (by decide) (hT _ nh_fl_B_7) (fun _ h9 => h9) rfl nd_B_ownedBy_1 ?_
  refine lv_iload_n hx hb nd_B_ownedBy_4 rfl (lv_at hl 1 rfl) ?_
  refine lv_icmp_ne (tgt := 12) hx hb nd_B_ownedBy_5 (by decide) (fun hc => ?_) (fun hc => ?_)
  · refine xw_new (T := nT_B) (N := 2) (ci := 0) (fs := [.int 0, .null]) hx hb hT nu_B nt_B nk_B hown (hT _ nh_cl_B_8) (hT _ nh_is_B) (hT _ nh_in_B) hK.1 hB hw hS rfl (fun j hj => by rcases (show j = 0 ∨ j = 1 by omega) with rfl | rfl <;> rfl) (by exact Nat.le_of_ble_eq_true rfl) (by exact Nat.le_of_ble_eq_true rfl) nd_B_ownedBy_12 (fun q H hn_q hw hS => ?_)
    obtain ⟨w1, ew2⟩ : ∃ z, z = va_up w q (some (.inr (0, [.int 0, .null]))) := ⟨_, rfl⟩
    have hw : g_P G w1 H := by rw [ew2]; exact hw
    have ha : w1 a = some (.inr (0, [.int st, .ref x])) := by rw [ew2, va_up_ne _ _ (xw_nn ha hn_q)]; exact ha
    have hx0 : w1 x = some (.inl (G.2.1 1, 32, .inr (.inr (.inr (.inr f))))) := by rw [ew2, va_up_ne _ _ (xw_nn hx0 hn_q)]; exact hx0
    have h_q : w1 q = some (.inr (0, [.int 0, .null])) := by rw [ew2]; exact va_up_self _ _ _
    refine lv_dup hx hb nd_B_ownedBy_15 rfl ?_
    refine lv_iload_n hx hb nd_B_ownedBy_16 rfl (lv_at hl 1 rfl) ?_
    refine lv_aload_n hx hb nd_B_ownedBy_17 rfl (lv_at hl 0 rfl) ?_
    refine xw_get (T := nT_B) (N := 2) (ci := 0) hx hb hT nu_B hown hK.1 hw ha rfl 1 (by decide) (hT _ nh_fl_B_13) (fun _ h9 => h9) rfl nd_B_ownedBy_18 ?_
    refine xw_clone hx hb (by rw [hml]; exact hl.1.symm) hown (hT _ nh_ml_B_17) (hT _ nh_sm_clone_F) (hT _ nh_na_clone) (hT _ nh_im_clone) (hT _ nh_se_clone_F) (hK.2.2.1 ("[LRadixShelf$Leaf;", "java/lang/Cloneable") (by decide)) hK.1 hB hw hS 1 hx0 rfl (by decide +kernel) (tr_fitQ _ _ _ f) (by decide) (Nat.le_of_ble_eq_true rfl) (Nat.le_of_ble_eq_true rfl) (Nat.le_of_ble_eq_true rfl) nd_B_ownedBy_21 (fun y H hn_y hw hS => ?_)
    obtain ⟨w3, ew4⟩ : ∃ z, z = va_up w1 y (some (.inl (G.2.1 1, 32, .inr (.inr (.inr (.inr f)))))) := ⟨_, rfl⟩
    have hw : g_P G w3 H := by rw [ew4]; exact hw
    have ha : w3 a = some (.inr (0, [.int st, .ref x])) := by rw [ew4, va_up_ne _ _ (xw_nn ha hn_y)]; exact ha
    have hx0 : w3 x = some (.inl (G.2.1 1, 32, .inr (.inr (.inr (.inr f))))) := by rw [ew4, va_up_ne _ _ (xw_nn hx0 hn_y)]; exact hx0
    have h_q : w3 q = some (.inr (0, [.int 0, .null])) := by rw [ew4, va_up_ne _ _ (xw_nn h_q hn_y)]; exact h_q
    have h_y : w3 y = some (.inl (G.2.1 1, 32, .inr (.inr (.inr (.inr f))))) := by rw [ew4]; exact va_up_self _ _ _
    refine xw_castA hx hb hown (hT _ nh_cl_B_18) hK.1 hw 1 h_y rfl (by decide +kernel) nd_B_ownedBy_24 ?_
    refine g_callv (va_runI (As := [.int (nI d), .ref y]) (rest := [.ref q]) ⟨hx, hb, hml, hown, hts⟩ (c_B_init l G w3 q (nI d) y h_q) (cwI 2 hts (nw_of (nw_0 nh_co_B_init)) rfl rfl rfl (hT _ nh_in_B) (hT _ nh_ml_B_22) (hT _ nh_im_B_init) rfl (by decide +kernel) ⟨Nat.le_of_ble_eq_true rfl, Nat.le_of_ble_eq_true rfl⟩) (g_preS hK hw hS _) rfl rfl hl.1 rfl (lv_room (Nat.le_of_ble_eq_true rfl)) nd_B_ownedBy_27 ⟨by exact Nat.le_of_ble_eq_true rfl, by exact Nat.le_of_ble_eq_true rfl⟩) hS (fun w5 H locs hp hw hS => ?_)
    have hyw : w y = none := by
      have h9 := hn_y
      rw [ew2, va_up_ne _ _ (fun z => ?_)] at h9
      · exact h9
      · rw [z, ew2, va_up_self] at hn_y
        cases hn_y
    have hne : q ≠ y := fun z => by
      rw [← z, ew2, va_up_self] at hn_y
      cases hn_y
    exact g_aret hx hb hr hlocks hw hS (Or.inr ⟨by rw [tr_stp_of ha0]; exact hc, y, _, hn_q, hyw, hne, by rw [tr_arr_of ha0]; exact hx00, by rw [hp, ew4, ew2, tr_over]⟩) (by exact Nat.le_of_ble_eq_true rfl) (by exact Nat.le_of_ble_eq_true rfl) nd_B_ownedBy_30
  · subst hc
    refine lv_aload_n hx hb nd_B_ownedBy_8 rfl (lv_at hl 0 rfl) ?_
    refine lv_goto (tgt := 30) hx hb nd_B_ownedBy_9 (by decide) ?_
    exact g_aret hx hb hr hlocks hw hS (Or.inl ⟨tr_stp_of ha0, rfl, rfl⟩) (by exact Nat.le_of_ble_eq_true rfl) (by exact Nat.le_of_ble_eq_true rfl) nd_B_ownedBy_30

set_option maxHeartbeats 4000000 in
set_option maxRecDepth 100000 in
theorem c_B_ownedBy0 (l : Launch) (G : g_G) (w : xw_W) (a x d : Nat) (ha : w a = some (.inr (0, [.int (nI d), .ref x]))) : Met l ny_B_ownedBy nw_B_ownedBy ({ frames := 0, cells := 0, slots := 0, locals := 0 }) (g_Pc G w [.ref a, .int (nI d)]) (g_Qr G (fun r w' => r = a ∧ w' = w)) 0 0 (xw_A (g_b G)) := by
  refine g_met (by decide) (Nat.le_of_ble_eq_true rfl) rfl ?_
  intro p e s m below meth c ls hx hb hr hts hown hlocks hin hml hl hK hB hw hS
  have hT : ∀ w ∈ nw_T, w.before _ s = true := fun w h => hts w (List.mem_cons_of_mem _ h)
  have hown : s.vm.findClass "RadixShelf$Branch" = some m.cls := hown
  have hl : lv_has ls 2 [(0, .ref a), (1, .int (nI d))] := hl
  refine lv_aload_n hx hb nd_B_ownedBy_0 rfl (lv_at hl 0 rfl) ?_
  refine xw_get (T := nT_B) (N := 2) (ci := 0) hx hb hT nu_B hown hK.1 hw ha rfl 0 (by decide) (hT _ nh_fl_B_7) (fun _ h9 => h9) rfl nd_B_ownedBy_1 ?_
  refine lv_iload_n hx hb nd_B_ownedBy_4 rfl (lv_at hl 1 rfl) ?_
  refine lv_icmp_ne (tgt := 12) hx hb nd_B_ownedBy_5 (by decide) (fun hc => ?_) (fun hc => ?_)
  · exact absurd rfl hc
  · refine lv_aload_n hx hb nd_B_ownedBy_8 rfl (lv_at hl 0 rfl) ?_
    refine lv_goto (tgt := 30) hx hb nd_B_ownedBy_9 (by decide) ?_
    exact g_aret hx hb hr hlocks hw hS (⟨rfl, rfl⟩) (by exact Nat.le_of_ble_eq_true rfl) (by exact Nat.le_of_ble_eq_true rfl) nd_B_ownedBy_30

set_option maxHeartbeats 4000000 in
set_option maxRecDepth 100000 in
theorem c_F_ownedBy (l : Launch) (G : g_G) (w : xw_W) (a x d : Nat) (st : Int32) (f : Nat → Int64) (ha : w a = some (.inr (1, [.int st, .ref x]))) (hx0 : w x = some (.inl (G.2.1 0, 32, .inr (.inl f)))) : Met l ny_F_ownedBy nw_F_ownedBy ({ frames := 2, cells := 2, slots := 34, locals := 34 }) (g_Pc G w [.ref a, .int (nI d)]) (g_Qr G (fun r w' => tr_Ow tr_kL d w w' a r)) 2 34 (xw_A (g_b G)) := by
  refine g_met (by decide) (Nat.le_of_ble_eq_true rfl) rfl ?_
  intro p e s m below meth c ls hx hb hr hts hown hlocks hin hml hl hK hB hw hS
  have ha0 := ha
  have hx00 := hx0
  have hT : ∀ w ∈ nw_T, w.before _ s = true := fun w h => hts w (List.mem_cons_of_mem _ h)
  have hown : s.vm.findClass "RadixShelf$Leaf" = some m.cls := hown
  have hl : lv_has ls 2 [(0, .ref a), (1, .int (nI d))] := hl
  refine lv_aload_n hx hb nd_F_ownedBy_0 rfl (lv_at hl 0 rfl) ?_
  refine xw_get (T := nT_F) (N := 2) (ci := 1) hx hb hT nu_F hown hK.1 hw ha rfl 0 (by decide) (hT _ nh_fl_F_7) (fun _ h9 => h9) rfl nd_F_ownedBy_1 ?_
  refine lv_iload_n hx hb nd_F_ownedBy_4 rfl (lv_at hl 1 rfl) ?_
  refine lv_icmp_ne (tgt := 12) hx hb nd_F_ownedBy_5 (by decide) (fun hc => ?_) (fun hc => ?_)
  · refine xw_new (T := nT_F) (N := 2) (ci := 1) (fs := [.int 0, .null]) hx hb hT nu_F nt_F nk_F hown (hT _ nh_cl_F_8) (hT _ nh_is_F) (hT _ nh_in_F) hK.1 hB hw hS rfl (fun j hj => by rcases (show j = 0 ∨ j = 1 by omega) with rfl | rfl <;> rfl) (by exact Nat.le_of_ble_eq_true rfl) (by exact Nat.le_of_ble_eq_true rfl) nd_F_ownedBy_12 (fun q H hn_q hw hS => ?_)
    obtain ⟨w1, ew2⟩ : ∃ z, z = va_up w q (some (.inr (1, [.int 0, .null]))) := ⟨_, rfl⟩
    have hw : g_P G w1 H := by rw [ew2]; exact hw
    have ha : w1 a = some (.inr (1, [.int st, .ref x])) := by rw [ew2, va_up_ne _ _ (xw_nn ha hn_q)]; exact ha
    have hx0 : w1 x = some (.inl (G.2.1 0, 32, .inr (.inl f))) := by rw [ew2, va_up_ne _ _ (xw_nn hx0 hn_q)]; exact hx0
    have h_q : w1 q = some (.inr (1, [.int 0, .null])) := by rw [ew2]; exact va_up_self _ _ _
    refine lv_dup hx hb nd_F_ownedBy_15 rfl ?_
    refine lv_iload_n hx hb nd_F_ownedBy_16 rfl (lv_at hl 1 rfl) ?_
    refine lv_aload_n hx hb nd_F_ownedBy_17 rfl (lv_at hl 0 rfl) ?_
    refine xw_get (T := nT_F) (N := 2) (ci := 1) hx hb hT nu_F hown hK.1 hw ha rfl 1 (by decide) (hT _ nh_fl_F_13) (fun _ h9 => h9) rfl nd_F_ownedBy_18 ?_
    refine xw_clone hx hb (by rw [hml]; exact hl.1.symm) hown (hT _ nh_ml_F_17) (hT _ nh_sm_clone_J) (hT _ nh_na_clone) (hT _ nh_im_clone) (hT _ nh_se_clone_J) (hK.2.2.1 ("[J", "java/lang/Cloneable") (by decide)) hK.1 hB hw hS 0 hx0 rfl (by decide +kernel) (tr_fitJ _ _ f) (by decide) (Nat.le_of_ble_eq_true rfl) (Nat.le_of_ble_eq_true rfl) (Nat.le_of_ble_eq_true rfl) nd_F_ownedBy_21 (fun y H hn_y hw hS => ?_)
    obtain ⟨w3, ew4⟩ : ∃ z, z = va_up w1 y (some (.inl (G.2.1 0, 32, .inr (.inl f)))) := ⟨_, rfl⟩
    have hw : g_P G w3 H := by rw [ew4]; exact hw
    have ha : w3 a = some (.inr (1, [.int st, .ref x])) := by rw [ew4, va_up_ne _ _ (xw_nn ha hn_y)]; exact ha
    have hx0 : w3 x = some (.inl (G.2.1 0, 32, .inr (.inl f))) := by rw [ew4, va_up_ne _ _ (xw_nn hx0 hn_y)]; exact hx0
    have h_q : w3 q = some (.inr (1, [.int 0, .null])) := by rw [ew4, va_up_ne _ _ (xw_nn h_q hn_y)]; exact h_q
    have h_y : w3 y = some (.inl (G.2.1 0, 32, .inr (.inl f))) := by rw [ew4]; exact va_up_self _ _ _
    refine xw_castA hx hb hown (hT _ nh_cl_F_18) hK.1 hw 0 h_y rfl (by decide +kernel) nd_F_ownedBy_24 ?_
    refine g_callv (va_runI (As := [.int (nI d), .ref y]) (rest := [.ref q]) ⟨hx, hb, hml, hown, hts⟩ (c_F_init l G w3 q (nI d) y h_q) (cwI 2 hts (nw_of (nw_0 nh_co_F_init)) rfl rfl rfl (hT _ nh_in_F) (hT _ nh_ml_F_22) (hT _ nh_im_F_init) rfl (by decide +kernel) ⟨Nat.le_of_ble_eq_true rfl, Nat.le_of_ble_eq_true rfl⟩) (g_preS hK hw hS _) rfl rfl hl.1 rfl (lv_room (Nat.le_of_ble_eq_true rfl)) nd_F_ownedBy_27 ⟨by exact Nat.le_of_ble_eq_true rfl, by exact Nat.le_of_ble_eq_true rfl⟩) hS (fun w5 H locs hp hw hS => ?_)
    have hyw : w y = none := by
      have h9 := hn_y
      rw [ew2, va_up_ne _ _ (fun z => ?_)] at h9
      · exact h9
      · rw [z, ew2, va_up_self] at hn_y
        cases hn_y
    have hne : q ≠ y := fun z => by
      rw [← z, ew2, va_up_self] at hn_y
      cases hn_y
    exact g_aret hx hb hr hlocks hw hS (Or.inr ⟨by rw [tr_stp_of ha0]; exact hc, y, _, hn_q, hyw, hne, by rw [tr_arr_of ha0]; exact hx00, by rw [hp, ew4, ew2, tr_over]⟩) (by exact Nat.le_of_ble_eq_true rfl) (by exact Nat.le_of_ble_eq_true rfl) nd_F_ownedBy_30
  · subst hc
    refine lv_aload_n hx hb nd_F_ownedBy_8 rfl (lv_at hl 0 rfl) ?_
    refine lv_goto (tgt := 30) hx hb nd_F_ownedBy_9 (by decide) ?_
    exact g_aret hx hb hr hlocks hw hS (Or.inl ⟨tr_stp_of ha0, rfl, rfl⟩) (by exact Nat.le_of_ble_eq_true rfl) (by exact Nat.le_of_ble_eq_true rfl) nd_F_ownedBy_30

set_option maxHeartbeats 4000000 in
set_option maxRecDepth 100000 in
theorem c_F_ownedBy0 (l : Launch) (G : g_G) (w : xw_W) (a x d : Nat) (ha : w a = some (.inr (1, [.int (nI d), .ref x]))) : Met l ny_F_ownedBy nw_F_ownedBy ({ frames := 0, cells := 0, slots := 0, locals := 0 }) (g_Pc G w [.ref a, .int (nI d)]) (g_Qr G (fun r w' => r = a ∧ w' = w)) 0 0 (xw_A (g_b G)) := by
  refine g_met (by decide) (Nat.le_of_ble_eq_true rfl) rfl ?_
  intro p e s m below meth c ls hx hb hr hts hown hlocks hin hml hl hK hB hw hS
  have hT : ∀ w ∈ nw_T, w.before _ s = true := fun w h => hts w (List.mem_cons_of_mem _ h)
  have hown : s.vm.findClass "RadixShelf$Leaf" = some m.cls := hown
  have hl : lv_has ls 2 [(0, .ref a), (1, .int (nI d))] := hl
  refine lv_aload_n hx hb nd_F_ownedBy_0 rfl (lv_at hl 0 rfl) ?_
  refine xw_get (T := nT_F) (N := 2) (ci := 1) hx hb hT nu_F hown hK.1 hw ha rfl 0 (by decide) (hT _ nh_fl_F_7) (fun _ h9 => h9) rfl nd_F_ownedBy_1 ?_
  refine lv_iload_n hx hb nd_F_ownedBy_4 rfl (lv_at hl 1 rfl) ?_
  refine lv_icmp_ne (tgt := 12) hx hb nd_F_ownedBy_5 (by decide) (fun hc => ?_) (fun hc => ?_)
  · exact absurd rfl hc
  · refine lv_aload_n hx hb nd_F_ownedBy_8 rfl (lv_at hl 0 rfl) ?_
    refine lv_goto (tgt := 30) hx hb nd_F_ownedBy_9 (by decide) ?_
    exact g_aret hx hb hr hlocks hw hS (⟨rfl, rfl⟩) (by exact Nat.le_of_ble_eq_true rfl) (by exact Nat.le_of_ble_eq_true rfl) nd_F_ownedBy_30

set_option maxHeartbeats 4000000 in
set_option maxRecDepth 100000 in
theorem c_R_ownedBy (l : Launch) (G : g_G) (w : xw_W) (a x d : Nat) (st : Int32) (f : Nat → Option Nat) (ha : w a = some (.inr (2, [.int st, .ref x]))) (hx0 : w x = some (.inl (G.2.1 2, 32, .inr (.inr (.inr (.inr f)))))) : Met l ny_R_ownedBy nw_R_ownedBy ({ frames := 2, cells := 2, slots := 34, locals := 34 }) (g_Pc G w [.ref a, .int (nI d)]) (g_Qr G (fun r w' => tr_Ow tr_kR d w w' a r)) 2 34 (xw_A (g_b G)) := by
  refine g_met (by decide) (Nat.le_of_ble_eq_true rfl) rfl ?_
  intro p e s m below meth c ls hx hb hr hts hown hlocks hin hml hl hK hB hw hS
  have ha0 := ha
  have hx00 := hx0
  have hT : ∀ w ∈ nw_T, w.before _ s = true := fun w h => hts w (List.mem_cons_of_mem _ h)
  have hown : s.vm.findClass "RadixShelf$Root" = some m.cls := hown
  have hl : lv_has ls 2 [(0, .ref a), (1, .int (nI d))] := hl
  refine lv_aload_n hx hb nd_R_ownedBy_0 rfl (lv_at hl 0 rfl) ?_
  refine xw_get (T := nT_R) (N := 2) (ci := 2) hx hb hT nu_R hown hK.1 hw ha rfl 0 (by decide) (hT _ nh_fl_R_9) (fun _ h9 => h9) rfl nd_R_ownedBy_1 ?_
  refine lv_iload_n hx hb nd_R_ownedBy_4 rfl (lv_at hl 1 rfl) ?_
  refine lv_icmp_ne (tgt := 12) hx hb nd_R_ownedBy_5 (by decide) (fun hc => ?_) (fun hc => ?_)
  · refine xw_new (T := nT_R) (N := 2) (ci := 2) (fs := [.int 0, .null]) hx hb hT nu_R nt_R nk_R hown (hT _ nh_cl_R_10) (hT _ nh_is_R) (hT _ nh_in_R) hK.1 hB hw hS rfl (fun j hj => by rcases (show j = 0 ∨ j = 1 by omega) with rfl | rfl <;> rfl) (by exact Nat.le_of_ble_eq_true rfl) (by exact Nat.le_of_ble_eq_true rfl) nd_R_ownedBy_12 (fun q H hn_q hw hS => ?_)
    obtain ⟨w1, ew2⟩ : ∃ z, z = va_up w q (some (.inr (2, [.int 0, .null]))) := ⟨_, rfl⟩
    have hw : g_P G w1 H := by rw [ew2]; exact hw
    have ha : w1 a = some (.inr (2, [.int st, .ref x])) := by rw [ew2, va_up_ne _ _ (xw_nn ha hn_q)]; exact ha
    have hx0 : w1 x = some (.inl (G.2.1 2, 32, .inr (.inr (.inr (.inr f))))) := by rw [ew2, va_up_ne _ _ (xw_nn hx0 hn_q)]; exact hx0
    have h_q : w1 q = some (.inr (2, [.int 0, .null])) := by rw [ew2]; exact va_up_self _ _ _
    refine lv_dup hx hb nd_R_ownedBy_15 rfl ?_
    refine lv_iload_n hx hb nd_R_ownedBy_16 rfl (lv_at hl 1 rfl) ?_
    refine lv_aload_n hx hb nd_R_ownedBy_17 rfl (lv_at hl 0 rfl) ?_
    refine xw_get (T := nT_R) (N := 2) (ci := 2) hx hb hT nu_R hown hK.1 hw ha rfl 1 (by decide) (hT _ nh_fl_R_15) (fun _ h9 => h9) rfl nd_R_ownedBy_18 ?_
    refine xw_clone hx hb (by rw [hml]; exact hl.1.symm) hown (hT _ nh_ml_R_19) (hT _ nh_sm_clone_B) (hT _ nh_na_clone) (hT _ nh_im_clone) (hT _ nh_se_clone_B) (hK.2.2.1 ("[LRadixShelf$Branch;", "java/lang/Cloneable") (by decide)) hK.1 hB hw hS 2 hx0 rfl (by decide +kernel) (tr_fitQ _ _ _ f) (by decide) (Nat.le_of_ble_eq_true rfl) (Nat.le_of_ble_eq_true rfl) (Nat.le_of_ble_eq_true rfl) nd_R_ownedBy_21 (fun y H hn_y hw hS => ?_)
    obtain ⟨w3, ew4⟩ : ∃ z, z = va_up w1 y (some (.inl (G.2.1 2, 32, .inr (.inr (.inr (.inr f)))))) := ⟨_, rfl⟩
    have hw : g_P G w3 H := by rw [ew4]; exact hw
    have ha : w3 a = some (.inr (2, [.int st, .ref x])) := by rw [ew4, va_up_ne _ _ (xw_nn ha hn_y)]; exact ha
    have hx0 : w3 x = some (.inl (G.2.1 2, 32, .inr (.inr (.inr (.inr f))))) := by rw [ew4, va_up_ne _ _ (xw_nn hx0 hn_y)]; exact hx0
    have h_q : w3 q = some (.inr (2, [.int 0, .null])) := by rw [ew4, va_up_ne _ _ (xw_nn h_q hn_y)]; exact h_q
    have h_y : w3 y = some (.inl (G.2.1 2, 32, .inr (.inr (.inr (.inr f))))) := by rw [ew4]; exact va_up_self _ _ _
    refine xw_castA hx hb hown (hT _ nh_cl_R_20) hK.1 hw 2 h_y rfl (by decide +kernel) nd_R_ownedBy_24 ?_
    refine g_callv (va_runI (As := [.int (nI d), .ref y]) (rest := [.ref q]) ⟨hx, hb, hml, hown, hts⟩ (c_R_init l G w3 q (nI d) y h_q) (cwI 2 hts (nw_of (nw_0 nh_co_R_init)) rfl rfl rfl (hT _ nh_in_R) (hT _ nh_ml_R_24) (hT _ nh_im_R_init) rfl (by decide +kernel) ⟨Nat.le_of_ble_eq_true rfl, Nat.le_of_ble_eq_true rfl⟩) (g_preS hK hw hS _) rfl rfl hl.1 rfl (lv_room (Nat.le_of_ble_eq_true rfl)) nd_R_ownedBy_27 ⟨by exact Nat.le_of_ble_eq_true rfl, by exact Nat.le_of_ble_eq_true rfl⟩) hS (fun w5 H locs hp hw hS => ?_)
    have hyw : w y = none := by
      have h9 := hn_y
      rw [ew2, va_up_ne _ _ (fun z => ?_)] at h9
      · exact h9
      · rw [z, ew2, va_up_self] at hn_y
        cases hn_y
    have hne : q ≠ y := fun z => by
      rw [← z, ew2, va_up_self] at hn_y
      cases hn_y
    exact g_aret hx hb hr hlocks hw hS (Or.inr ⟨by rw [tr_stp_of ha0]; exact hc, y, _, hn_q, hyw, hne, by rw [tr_arr_of ha0]; exact hx00, by rw [hp, ew4, ew2, tr_over]⟩) (by exact Nat.le_of_ble_eq_true rfl) (by exact Nat.le_of_ble_eq_true rfl) nd_R_ownedBy_30
  · subst hc
    refine lv_aload_n hx hb nd_R_ownedBy_8 rfl (lv_at hl 0 rfl) ?_
    refine lv_goto (tgt := 30) hx hb nd_R_ownedBy_9 (by decide) ?_
    exact g_aret hx hb hr hlocks hw hS (Or.inl ⟨tr_stp_of ha0, rfl, rfl⟩) (by exact Nat.le_of_ble_eq_true rfl) (by exact Nat.le_of_ble_eq_true rfl) nd_R_ownedBy_30

set_option maxHeartbeats 4000000 in
set_option maxRecDepth 100000 in
theorem c_R_ownedBy0 (l : Launch) (G : g_G) (w : xw_W) (a x d : Nat) (ha : w a = some (.inr (2, [.int (nI d), .ref x]))) : Met l ny_R_ownedBy nw_R_ownedBy ({ frames := 0, cells := 0, slots := 0, locals := 0 }) (g_Pc G w [.ref a, .int (nI d)]) (g_Qr G (fun r w' => r = a ∧ w' = w)) 0 0 (xw_A (g_b G)) := by
  refine g_met (by decide) (Nat.le_of_ble_eq_true rfl) rfl ?_
  intro p e s m below meth c ls hx hb hr hts hown hlocks hin hml hl hK hB hw hS
  have hT : ∀ w ∈ nw_T, w.before _ s = true := fun w h => hts w (List.mem_cons_of_mem _ h)
  have hown : s.vm.findClass "RadixShelf$Root" = some m.cls := hown
  have hl : lv_has ls 2 [(0, .ref a), (1, .int (nI d))] := hl
  refine lv_aload_n hx hb nd_R_ownedBy_0 rfl (lv_at hl 0 rfl) ?_
  refine xw_get (T := nT_R) (N := 2) (ci := 2) hx hb hT nu_R hown hK.1 hw ha rfl 0 (by decide) (hT _ nh_fl_R_9) (fun _ h9 => h9) rfl nd_R_ownedBy_1 ?_
  refine lv_iload_n hx hb nd_R_ownedBy_4 rfl (lv_at hl 1 rfl) ?_
  refine lv_icmp_ne (tgt := 12) hx hb nd_R_ownedBy_5 (by decide) (fun hc => ?_) (fun hc => ?_)
  · exact absurd rfl hc
  · refine lv_aload_n hx hb nd_R_ownedBy_8 rfl (lv_at hl 0 rfl) ?_
    refine lv_goto (tgt := 30) hx hb nd_R_ownedBy_9 (by decide) ?_
    exact g_aret hx hb hr hlocks hw hS (⟨rfl, rfl⟩) (by exact Nat.le_of_ble_eq_true rfl) (by exact Nat.le_of_ble_eq_true rfl) nd_R_ownedBy_30
end
section
theorem tr_tb_eq {o n : Nat} (hn : n ≤ 3000) : (o + (nI n - 1).toBitVec.toNat) % 32768 / 32 = tr_tb o n := by
  have e : (nI n - 1).toBitVec.toNat = (n + (2 ^ 32 - 1)) % 2 ^ 32 := by
    rw [Int32.toBitVec_sub, BitVec.toNat_sub, pk_tn (by omega)]
    show (2 ^ 32 - 1 + n) % 2 ^ 32 = _
    omega
  unfold tr_tb
  rw [e]
  omega
theorem tr_hang0 {cJ cL cB d q M r r1 t leaf : Nat} {o n : Int32} {w w1 w2 : tr_W} (hW : tr_Wi w M) (hd : d ≤ M) (hq : w q = some (tr_S (nI d) r t o n)) (hR : tr_okR cJ cL cB w r) (hlf : tr_okL cJ w leaf)
    (h1 : tr_Ow tr_kR d w w1 r r1) (h2 : w2 = va_up w1 q (some (tr_S (nI d) r1 t o n))) : tr_Wi w2 M ∧ tr_okR cJ cL cB w2 r1 ∧ tr_stp w2 r1 = nI d ∧ tr_okL cJ w2 leaf := by
  obtain ⟨K1, W1, n1, s1, -, m1, f1, x1⟩ := h1.out (q := q) hW hd hR.1
  obtain ⟨R1, b1, l1⟩ := tr_okR_own (q := q) hW hd hR h1
  have q1 : w1 q = some (tr_S (nI d) r t o n) := x1 _ _ hq
  have m2 : ∀ k n, tr_isN w1 k n → tr_Same w1 w2 n := fun k n hn => by rw [h2]; exact tr_sq_same W1 q1 hn
  have L1 := tr_okL_same hlf (m1 _ _ hlf.1)
  exact ⟨by rw [h2]; exact tr_sq_Wi W1 q1, (tr_okR_all R1 m2).1, by rw [(m2 _ _ R1.1).stp]; exact s1, tr_okL_same L1 (m2 _ _ L1.1)⟩

set_option maxHeartbeats 4000000 in
set_option maxRecDepth 100000 in
theorem c_R_leafOf (l : Launch) (G : g_G) (w : xw_W) (r b : Nat) (hR : tr_okR (G.2.1 0) (G.2.1 1) (G.2.1 2) w r) (hb0 : b < 1024) : Met l ny_R_leafOf nw_R_leafOf ({ frames := 0, cells := 0, slots := 0, locals := 0 }) (g_Pc G w [.ref r, .int (nI b)]) (g_Qr G (fun v w' => v = tr_lfb w r b ∧ w' = w)) 0 0 (xw_A (g_b G)) := by
  refine g_met (by decide) (Nat.le_of_ble_eq_true rfl) rfl ?_
  intro p e s m below meth c ls hx hb hr hts hown hlocks hin hml hl hK hB hw hS
  have hT : ∀ w ∈ nw_T, w.before _ s = true := fun w h => hts w (List.mem_cons_of_mem _ h)
  have hown : s.vm.findClass "RadixShelf$Root" = some m.cls := hown
  have hl : lv_has ls 2 [(0, .ref r), (1, .int (nI b))] := hl
  have hr0 : w r = some (.inr (2, [.int (tr_stp w r), .ref (tr_arr w r)])) := hR.1.cell
  obtain ⟨f, hf, hj⟩ := hR.2.1
  have hY := hR.br (show b / 32 < 32 by omega)
  obtain ⟨y, ey⟩ : ∃ y, y = tr_brn w r (b / 32) := ⟨_, rfl⟩
  rw [← ey] at hY
  have hy0 : w y = some (.inr (0, [.int (tr_stp w y), .ref (tr_arr w y)])) := hY.1.cell
  obtain ⟨f2, hf2, hj2⟩ := hY.2.1
  have h1 : f (b / 32) = some y := by rw [ey]; exact hj _ (by omega)
  have h2 : f2 (b % 32) = some (tr_lfb w r b) := by rw [hj2 (b % 32) (by omega), ey]; rfl
  refine lv_aload_n hx hb nd_R_leafOf_0 rfl (lv_at hl 0 rfl) ?_
  refine xw_get (T := nT_R) (N := 2) (ci := 2) hx hb hT nu_R hown hK.1 hw hr0 rfl 1 (by decide) (hT _ nh_fl_R_15) (fun _ h9 => h9) rfl nd_R_leafOf_1 ?_
  refine lv_iload_n hx hb nd_R_leafOf_4 rfl (lv_at hl 1 rfl) ?_
  refine lv_iconst (v := 5) hx hb nd_R_leafOf_5 (by decide) ?_
  refine lv_iushr (v := nI (b / 32)) hx hb nd_R_leafOf_6 (tr_ush5 (by omega)) ?_
  refine xw_aald (y := y) hx hb hK.1 hw 2 hf rfl (vp_in_nI (by omega) (by decide)) (by rw [nI_clamp (by omega)]; exact h1) nd_R_leafOf_7 ?_
  refine xw_get (T := nT_B) (N := 2) (ci := 0) hx hb hT nu_B hown hK.1 hw hy0 rfl 1 (by decide) (hT _ nh_fl_R_27) (fun _ h9 => h9) rfl nd_R_leafOf_8 ?_
  refine lv_iload_n hx hb nd_R_leafOf_11 rfl (lv_at hl 1 rfl) ?_
  refine lv_bipush (v := 31) hx hb nd_R_leafOf_12 (by decide) ?_
  refine lv_iand hx hb nd_R_leafOf_14 ?_
  refine lv_topi (fun y1 ey2 => ?_)
  obtain rfl : y1 = nI (b % 32) := ey2.trans (tr_and31 (by omega))
  refine xw_aald (y := (tr_lfb w r b)) hx hb hK.1 hw 1 hf2 rfl (vp_in_nI (by omega) (by decide)) (by rw [nI_clamp (by omega)]; exact h2) nd_R_leafOf_15 ?_
  exact g_aret hx hb hr hlocks hw hS (⟨rfl, rfl⟩) (by exact Nat.le_of_ble_eq_true rfl) (by exact Nat.le_of_ble_eq_true rfl) nd_R_leafOf_16

set_option maxHeartbeats 4000000 in
set_option maxRecDepth 100000 in
theorem c_R_hangOwned (l : Launch) (G : g_G) (w : xw_W) (M d r b leaf : Nat) (hW : tr_Wi w M) (hd : d ≤ M) (hR : tr_okR (G.2.1 0) (G.2.1 1) (G.2.1 2) w r) (hs : tr_stp w r = nI d) (hlf : tr_okL (G.2.1 0) w leaf) (hb0 : b < 1024) : Met l ny_R_hangOwned nw_R_hangOwned ({ frames := 3, cells := 2, slots := 34, locals := 55 }) (g_Pc G w [.ref r, .int (nI b), .ref leaf]) (g_Qv G (fun w' => ∃ y1 w3 w4 f4 f5, tr_Ow tr_kB d w w3 (tr_brn w r (b / 32)) y1 ∧ w3 (tr_arr w3 y1) = some (tr_Q (G.2.1 1) f4) ∧ w4 = va_up w3 (tr_arr w3 y1) (some (tr_Q (G.2.1 1) (va_up f4 (b % 32) (some leaf)))) ∧ w4 (tr_arr w3 r) = some (tr_Q (G.2.1 2) f5) ∧ w' = va_up w4 (tr_arr w3 r) (some (tr_Q (G.2.1 2) (va_up f5 (b / 32) (some y1)))))) 2 34 (xw_A (g_b G)) := by
  refine g_met (by decide) (Nat.le_of_ble_eq_true rfl) rfl ?_
  intro p e s m below meth c ls hx hb hr hts hown hlocks hin hml hl hK hB hw hS
  have hT : ∀ w ∈ nw_T, w.before _ s = true := fun w h => hts w (List.mem_cons_of_mem _ h)
  have hown : s.vm.findClass "RadixShelf$Root" = some m.cls := hown
  have hl : lv_has ls 4 [(0, .ref r), (1, .int (nI b)), (2, .ref leaf)] := hl
  have hr0 : w r = some (.inr (2, [.int (tr_stp w r), .ref (tr_arr w r)])) := hR.1.cell
  obtain ⟨f, hf, hj⟩ := hR.2.1
  have hY := hR.br (show b / 32 < 32 by omega)
  obtain ⟨y, ey⟩ : ∃ y, y = tr_brn w r (b / 32) := ⟨_, rfl⟩
  rw [← ey] at hY
  have hy0 : w y = some (.inr (0, [.int (tr_stp w y), .ref (tr_arr w y)])) := hY.1.cell
  obtain ⟨f2, hf2, hj2⟩ := hY.2.1
  have h1 : f (b / 32) = some y := by rw [ey]; exact hj _ (by omega)
  have h2 : f2 (b % 32) = some (tr_lfb w r b) := by rw [hj2 (b % 32) (by omega), ey]; rfl
  have hl0 : w leaf = some (.inr (1, [.int (tr_stp w leaf), .ref (tr_arr w leaf)])) := hlf.1.cell
  refine lv_aload_n hx hb nd_R_hangOwned_0 rfl (lv_at hl 0 rfl) ?_
  refine xw_get (T := nT_R) (N := 2) (ci := 2) hx hb hT nu_R hown hK.1 hw hr0 rfl 1 (by decide) (hT _ nh_fl_R_15) (fun _ h9 => h9) rfl nd_R_hangOwned_1 ?_
  refine lv_iload_n hx hb nd_R_hangOwned_4 rfl (lv_at hl 1 rfl) ?_
  refine lv_iconst (v := 5) hx hb nd_R_hangOwned_5 (by decide) ?_
  refine lv_iushr (v := nI (b / 32)) hx hb nd_R_hangOwned_6 (tr_ush5 (by omega)) ?_
  refine xw_aald (y := y) hx hb hK.1 hw 2 hf rfl (vp_in_nI (by omega) (by decide)) (by rw [nI_clamp (by omega)]; exact h1) nd_R_hangOwned_7 ?_
  refine lv_aload_n hx hb nd_R_hangOwned_8 rfl (lv_at hl 0 rfl) ?_
  refine xw_get (T := nT_R) (N := 2) (ci := 2) hx hb hT nu_R hown hK.1 hw hr0 rfl 0 (by decide) (hT _ nh_fl_R_9) (fun _ h9 => h9) rfl nd_R_hangOwned_9 ?_
  refine lv_topi (fun y1 ey2 => ?_)
  obtain rfl : y1 = nI d := ey2.trans (hs)
  refine g_callr (va_runV (As := [.int (nI d)]) (rest := []) ⟨hx, hb, hml, hown, hts⟩ (c_B_ownedBy l G w y (tr_arr w y) d (tr_stp w y) f2 hy0 hf2) (cwV (C := nR_B) 1 hts (nw_of (nw_4 nh_ml_R_33 nh_im_B_ownedBy nh_se_B_ownedBy nh_in_B nh_co_B_ownedBy)) rfl rfl rfl (by decide +kernel) ⟨Nat.le_of_ble_eq_true rfl, Nat.le_of_ble_eq_true rfl⟩) (g_preV (ci := 0) (q := (nR_B, nT_B, 2)) hK hw hS rfl hy0 _) rfl rfl hl.1 rfl (lv_room (Nat.le_of_ble_eq_true rfl)) nd_R_hangOwned_12 ⟨by exact Nat.le_of_ble_eq_true rfl, by exact Nat.le_of_ble_eq_true rfl⟩) hS (fun y1 w3 H locs hO hw hS => ?_)
  obtain ⟨-, W3, n3, s3, a3, m3, -, x3⟩ := hO.out (q := 0) hW hd hY.1
  have hy1 : w3 y1 = some (.inr (0, [.int (tr_stp w3 y1), .ref (tr_arr w3 y1)])) := n3.cell
  have hr3 : tr_isN w3 tr_kR r := tr_isN_eq (m3 _ _ hR.1).1 hR.1
  have har : tr_arr w3 r = tr_arr w r := (m3 _ _ hR.1).arr
  have hr0 : w3 r = some (.inr (2, [.int (tr_stp w r), .ref (tr_arr w r)])) := x3 _ _ hr0
  have hf2 : w3 (tr_arr w3 y1) = some (.inl (G.2.1 1, 32, .inr (.inr (.inr (.inr f2))))) := by rw [a3]; exact hf2
  have hf : w3 (tr_arr w r) = some (.inl (G.2.1 2, 32, .inr (.inr (.inr (.inr f))))) := x3 _ _ hf
  have hl0 : w3 leaf = some (.inr (1, [.int (tr_stp w leaf), .ref (tr_arr w leaf)])) := x3 _ _ hl0
  have hxx : tr_arr w r ≠ tr_arr w3 y1 := fun z => tr_kinds n3 hr3 (by decide) (W3.2.1 _ _ _ _ n3 hr3 (by rw [har]; exact z.symm))
  have hf20 := hf2
  refine lv_astore_n hx hb nd_R_hangOwned_15 rfl hl (by decide) (lv' := [(3, .ref y1), (0, .ref r), (1, .int (nI b)), (2, .ref leaf)]) rfl (fun ls hl => ?_)
  refine lv_aload_n hx hb nd_R_hangOwned_16 rfl (lv_at hl 0 rfl) ?_
  refine xw_get (T := nT_B) (N := 2) (ci := 0) hx hb hT nu_B hown hK.1 hw hy1 rfl 1 (by decide) (hT _ nh_fl_R_27) (fun _ h9 => h9) rfl nd_R_hangOwned_17 ?_
  refine lv_iload_n hx hb nd_R_hangOwned_20 rfl (lv_at hl 2 rfl) ?_
  refine lv_bipush (v := 31) hx hb nd_R_hangOwned_21 (by decide) ?_
  refine lv_iand hx hb nd_R_hangOwned_23 ?_
  refine lv_topi (fun y4 ey5 => ?_)
  obtain rfl : y4 = nI (b % 32) := ey5.trans (tr_and31 (by omega))
  refine lv_aload_n hx hb nd_R_hangOwned_24 rfl (lv_at hl 3 rfl) ?_
  refine xw_aast (r := (nR_F, nT_F, 2)) hx hb hK.1 hB hw hS 1 1 hf2 rfl hl0 rfl (vp_in_nI (by omega) (by decide)) nd_R_hangOwned_25 (fun H locs hw hS => ?_)
  rw [nI_clamp (by omega)] at hw
  obtain ⟨w6, ew7⟩ : ∃ z, z = va_up w3 (tr_arr w3 y1) (some (.inl (G.2.1 1, 32, .inr (.inr (.inr (.inr (va_up f2 (b % 32) (some leaf)))))))) := ⟨_, rfl⟩
  have hw : g_P G w6 H := by rw [ew7]; exact hw
  have hr0 : w6 r = some (.inr (2, [.int (tr_stp w r), .ref (tr_arr w r)])) := by rw [ew7, va_up_ne _ _ (xw_ne hr0 hf2 (by simp))]; exact hr0
  have hy1 : w6 y1 = some (.inr (0, [.int (tr_stp w3 y1), .ref (tr_arr w3 y1)])) := by rw [ew7, va_up_ne _ _ (xw_ne hy1 hf2 (by simp))]; exact hy1
  have hf : w6 (tr_arr w r) = some (.inl (G.2.1 2, 32, .inr (.inr (.inr (.inr f))))) := by rw [ew7, va_up_ne _ _ (hxx)]; exact hf
  have hl0 : w6 leaf = some (.inr (1, [.int (tr_stp w leaf), .ref (tr_arr w leaf)])) := by rw [ew7, va_up_ne _ _ (xw_ne hl0 hf2 (by simp))]; exact hl0
  have hf2 : w6 (tr_arr w3 y1) = some (.inl (G.2.1 1, 32, .inr (.inr (.inr (.inr (va_up f2 (b % 32) (some leaf))))))) := by rw [ew7]; exact va_up_self _ _ _
  have hf9 := hf
  refine lv_aload_n hx hb nd_R_hangOwned_26 rfl (lv_at hl 1 rfl) ?_
  refine xw_get (T := nT_R) (N := 2) (ci := 2) hx hb hT nu_R hown hK.1 hw hr0 rfl 1 (by decide) (hT _ nh_fl_R_15) (fun _ h9 => h9) rfl nd_R_hangOwned_27 ?_
  refine lv_iload_n hx hb nd_R_hangOwned_30 rfl (lv_at hl 2 rfl) ?_
  refine lv_iconst (v := 5) hx hb nd_R_hangOwned_31 (by decide) ?_
  refine lv_iushr (v := nI (b / 32)) hx hb nd_R_hangOwned_32 (tr_ush5 (by omega)) ?_
  refine lv_aload_n hx hb nd_R_hangOwned_33 rfl (lv_at hl 0 rfl) ?_
  refine xw_aast (r := (nR_B, nT_B, 2)) hx hb hK.1 hB hw hS 2 0 hf rfl hy1 rfl (vp_in_nI (by omega) (by decide)) nd_R_hangOwned_34 (fun H locs hw hS => ?_)
  rw [nI_clamp (by omega)] at hw
  obtain ⟨w8, ew9⟩ : ∃ z, z = va_up w6 (tr_arr w r) (some (.inl (G.2.1 2, 32, .inr (.inr (.inr (.inr (va_up f (b / 32) (some y1)))))))) := ⟨_, rfl⟩
  have hw : g_P G w8 H := by rw [ew9]; exact hw
  have hr0 : w8 r = some (.inr (2, [.int (tr_stp w r), .ref (tr_arr w r)])) := by rw [ew9, va_up_ne _ _ (xw_ne hr0 hf (by simp))]; exact hr0
  have hy1 : w8 y1 = some (.inr (0, [.int (tr_stp w3 y1), .ref (tr_arr w3 y1)])) := by rw [ew9, va_up_ne _ _ (xw_ne hy1 hf (by simp))]; exact hy1
  have hf2 : w8 (tr_arr w3 y1) = some (.inl (G.2.1 1, 32, .inr (.inr (.inr (.inr (va_up f2 (b % 32) (some leaf))))))) := by rw [ew9, va_up_ne _ _ (Ne.symm hxx)]; exact hf2
  have hl0 : w8 leaf = some (.inr (1, [.int (tr_stp w leaf), .ref (tr_arr w leaf)])) := by rw [ew9, va_up_ne _ _ (xw_ne hl0 hf (by simp))]; exact hl0
  have hf : w8 (tr_arr w r) = some (.inl (G.2.1 2, 32, .inr (.inr (.inr (.inr (va_up f (b / 32) (some y1))))))) := by rw [ew9]; exact va_up_self _ _ _
  exact g_vret hx hb hr hlocks hw hS (⟨y1, w3, w6, f2, f, by rw [← ey]; exact hO, hf20, ew7, by rw [har]; exact hf9, by rw [har]; exact ew9⟩) (by exact Nat.le_of_ble_eq_true rfl) (by exact Nat.le_of_ble_eq_true rfl) nd_R_hangOwned_35

set_option maxHeartbeats 4000000 in
set_option maxRecDepth 100000 in
theorem c_Q_hang (l : Launch) (G : g_G) (w : xw_W) (M d q r t b leaf : Nat) (o n : Int32) (hW : tr_Wi w M) (hd : d ≤ M) (hq : w q = some (.inr (3, [.int (nI d), .ref r, .ref t, .int o, .int n]))) (hR : tr_okR (G.2.1 0) (G.2.1 1) (G.2.1 2) w r) (hU : tr_Ub w r d) (hlf : tr_okL (G.2.1 0) w leaf) (hb0 : b < 1024) : Met l ny_Q_hang nw_Q_hang ({ frames := 4, cells := 4, slots := 68, locals := 80 }) (g_Pc G w [.ref q, .int (nI b), .ref leaf]) (g_Qv G (fun w' => ∃ r1, tr_Hg (G.2.1 0) (G.2.1 1) (G.2.1 2) M d q r t b leaf o n w w' r1)) 4 68 (xw_A (g_b G)) := by
  refine g_met (by decide) (Nat.le_of_ble_eq_true rfl) rfl ?_
  intro p e s m below meth c ls hx hb hr hts hown hlocks hin hml hl hK hB hw hS
  have hT : ∀ w ∈ nw_T, w.before _ s = true := fun w h => hts w (List.mem_cons_of_mem _ h)
  have hown : s.vm.findClass "RadixShelf$Sequence" = some m.cls := hown
  have hl : lv_has ls 3 [(0, .ref q), (1, .int (nI b)), (2, .ref leaf)] := hl
  have hq0 := hq
  have hr0 : w r = some (.inr (2, [.int (tr_stp w r), .ref (tr_arr w r)])) := hR.1.cell
  obtain ⟨f, hf, hj⟩ := hR.2.1
  refine lv_aload_n hx hb nd_Q_hang_0 rfl (lv_at hl 0 rfl) ?_
  refine lv_aload_n hx hb nd_Q_hang_1 rfl (lv_at hl 0 rfl) ?_
  refine xw_get (T := nT_Q) (N := 5) (ci := 3) hx hb hT nu_Q hown hK.1 hw hq rfl 1 (by decide) (hT _ nh_fl_Q_15) (fun _ h9 => h9) rfl nd_Q_hang_2 ?_
  refine lv_aload_n hx hb nd_Q_hang_5 rfl (lv_at hl 0 rfl) ?_
  refine xw_get (T := nT_Q) (N := 5) (ci := 3) hx hb hT nu_Q hown hK.1 hw hq rfl 0 (by decide) (hT _ nh_fl_Q_9) (fun _ h9 => h9) rfl nd_Q_hang_6 ?_
  refine g_callr (va_runV (As := [.int (nI d)]) (rest := [.ref q]) ⟨hx, hb, hml, hown, hts⟩ (c_R_ownedBy l G w r (tr_arr w r) d (tr_stp w r) f hr0 hf) (cwV (C := nR_R) 1 hts (nw_of (nw_4 nh_ml_Q_61 nh_im_R_ownedBy nh_se_R_ownedBy nh_in_R nh_co_R_ownedBy)) rfl rfl rfl (by decide +kernel) ⟨Nat.le_of_ble_eq_true rfl, Nat.le_of_ble_eq_true rfl⟩) (g_preV (ci := 2) (q := (nR_R, nT_R, 2)) hK hw hS rfl hr0 _) rfl rfl hl.1 rfl (lv_room (Nat.le_of_ble_eq_true rfl)) nd_Q_hang_9 ⟨by exact Nat.le_of_ble_eq_true rfl, by exact Nat.le_of_ble_eq_true rfl⟩) hS (fun r1 w1 H locs hO hw hS => ?_)
  obtain ⟨-, W1, n1, s1, -, m1, -, x1⟩ := hO.out (q := q) hW hd hR.1
  have hq : w1 q = some (.inr (3, [.int (nI d), .ref r, .ref t, .int o, .int n])) := x1 _ _ hq
  have hr1 : w1 r1 = some (.inr (2, [.int (tr_stp w1 r1), .ref (tr_arr w1 r1)])) := n1.cell
  refine xw_put (T := nT_Q) (N := 5) (ci := 3) (v := .ref r1) (ty := (.object "RadixShelf$Root")) hx hb hT nu_Q nt_Q nk_Q nn_Q hown hK.1 hB hw hS hq rfl 1 (by decide) (hT _ nh_fl_Q_15) (fun _ h9 => h9) rfl (by decide +kernel) rfl rfl (Nat.le_of_ble_eq_true rfl) nd_Q_hang_12 (fun H locs hw hS => ?_)
  obtain ⟨w2, ew3⟩ : ∃ z, z = va_up w1 q (some (.inr (3, [.int (nI d), .ref r1, .ref t, .int o, .int n]))) := ⟨_, rfl⟩
  have hw : g_P G w2 H := by rw [ew3]; exact hw
  have hr1 : w2 r1 = some (.inr (2, [.int (tr_stp w1 r1), .ref (tr_arr w1 r1)])) := by rw [ew3, va_up_ne _ _ (xw_ne hr1 hq (by simp))]; exact hr1
  have hq : w2 q = some (.inr (3, [.int (nI d), .ref r1, .ref t, .int o, .int n])) := by rw [ew3]; exact va_up_self _ _ _
  refine lv_aload_n hx hb nd_Q_hang_15 rfl (lv_at hl 0 rfl) ?_
  refine xw_get (T := nT_Q) (N := 5) (ci := 3) hx hb hT nu_Q hown hK.1 hw hq rfl 1 (by decide) (hT _ nh_fl_Q_15) (fun _ h9 => h9) rfl nd_Q_hang_16 ?_
  refine lv_iload_n hx hb nd_Q_hang_19 rfl (lv_at hl 1 rfl) ?_
  refine lv_aload_n hx hb nd_Q_hang_20 rfl (lv_at hl 2 rfl) ?_
  obtain ⟨W2, R2, s2, L2⟩ := tr_hang0 hW hd hq0 hR hlf hO ew3
  refine g_callv (va_runV (As := [.int (nI b), .ref leaf]) (rest := []) ⟨hx, hb, hml, hown, hts⟩ (c_R_hangOwned l G w2 M d r1 b leaf W2 hd R2 s2 L2 hb0) (cwV (C := nR_R) 2 hts (nw_of (nw_4 nh_ml_Q_64 nh_im_R_hangOwned nh_se_R_hangOwned nh_in_R nh_co_R_hangOwned)) rfl rfl rfl (by decide +kernel) ⟨Nat.le_of_ble_eq_true rfl, Nat.le_of_ble_eq_true rfl⟩) (g_preV (ci := 2) (q := (nR_R, nT_R, 2)) hK hw hS rfl hr1 _) rfl rfl hl.1 rfl (lv_room (Nat.le_of_ble_eq_true rfl)) nd_Q_hang_21 ⟨by exact Nat.le_of_ble_eq_true rfl, by exact Nat.le_of_ble_eq_true rfl⟩) hS (fun w4 H locs hp hw hS => ?_)
  obtain ⟨y1, w3, w4, f4, f5, h3, h4, h4e, h5, h5e⟩ := hp
  exact g_vret hx hb hr hlocks hw hS (⟨r1, tr_hang hW hd hq0 hR hU hlf hb0 hO ew3 h3 h4 h4e h5 h5e⟩) (by exact Nat.le_of_ble_eq_true rfl) (by exact Nat.le_of_ble_eq_true rfl) nd_Q_hang_24

set_option maxHeartbeats 4000000 in
set_option maxRecDepth 100000 in
theorem c_Q_tailBlock (l : Launch) (G : g_G) (w : xw_W) (q r t o n : Nat) (st : Int32) (ho : o < 32768) (hn : n ≤ 3000) (hq : w q = some (.inr (3, [.int st, .ref r, .ref t, .int (nI o), .int (nI n)]))) : Met l ny_Q_tailBlock nw_Q_tailBlock ({ frames := 1, cells := 0, slots := 0, locals := 21 }) (g_Pc G w [.ref q]) (g_Qi G (fun v w' => v = nI (tr_tb o n) ∧ w' = w)) 0 0 (xw_A (g_b G)) := by
  refine g_met (by decide) (Nat.le_of_ble_eq_true rfl) rfl ?_
  intro p e s m below meth c ls hx hb hr hts hown hlocks hin hml hl hK hB hw hS
  have hT : ∀ w ∈ nw_T, w.before _ s = true := fun w h => hts w (List.mem_cons_of_mem _ h)
  have hown : s.vm.findClass "RadixShelf$Sequence" = some m.cls := hown
  have hl : lv_has ls 1 [(0, .ref q)] := hl
  refine lv_aload_n hx hb nd_Q_tailBlock_0 rfl (lv_at hl 0 rfl) ?_
  refine lv_aload_n hx hb nd_Q_tailBlock_1 rfl (lv_at hl 0 rfl) ?_
  refine xw_get (T := nT_Q) (N := 5) (ci := 3) hx hb hT nu_Q hown hK.1 hw hq rfl 4 (by decide) (hT _ nh_fl_Q_26) (fun _ h9 => h9) rfl nd_Q_tailBlock_2 ?_
  refine lv_iconst (v := 1) hx hb nd_Q_tailBlock_5 (by decide) ?_
  refine lv_isub hx hb nd_Q_tailBlock_6 ?_
  refine g_calli (va_runV (As := [.int ((nI n) - 1)]) (rest := []) ⟨hx, hb, hml, hown, hts⟩ (c_Q_position l G w q r t o st (nI n) (nI n - 1) ho hq) (cwV (C := nR_Q) 1 hts (nw_of (nw_4 nh_ml_Q_29 nh_im_Q_position nh_se_Q_position nh_in_Q nh_co_Q_position)) rfl rfl rfl (by decide +kernel) ⟨Nat.le_of_ble_eq_true rfl, Nat.le_of_ble_eq_true rfl⟩) (g_preV (ci := 3) (q := (nR_Q, nT_Q, 5)) hK hw hS rfl hq _) rfl rfl hl.1 rfl (lv_room (Nat.le_of_ble_eq_true rfl)) nd_Q_tailBlock_7 ⟨by exact Nat.le_of_ble_eq_true rfl, by exact Nat.le_of_ble_eq_true rfl⟩) hS (fun v w1 H locs hp hw hS => ?_)
  obtain ⟨rfl, hw9⟩ := hp
  rw [hw9] at hw
  refine lv_iconst (v := 5) hx hb nd_Q_tailBlock_10 (by decide) ?_
  refine lv_iushr (v := nI (tr_tb o n)) hx hb nd_Q_tailBlock_11 ((tr_ush5 (by omega)).trans (congrArg nI (tr_tb_eq hn))) ?_
  exact g_iret hx hb hr hlocks hw hS (⟨rfl, rfl⟩) (by exact Nat.le_of_ble_eq_true rfl) (by exact Nat.le_of_ble_eq_true rfl) nd_Q_tailBlock_12

set_option maxHeartbeats 4000000 in
set_option maxRecDepth 100000 in
theorem c_Q_leafOf (l : Launch) (G : g_G) (w : xw_W) (q r t o n b : Nat) (st : Int32) (ho : o < 32768) (hn : n ≤ 3000) (hq : w q = some (.inr (3, [.int st, .ref r, .ref t, .int (nI o), .int (nI n)]))) (hR : tr_okR (G.2.1 0) (G.2.1 1) (G.2.1 2) w r) (hb0 : b < 1024) : Met l ny_Q_leafOf nw_Q_leafOf ({ frames := 2, cells := 0, slots := 0, locals := 41 }) (g_Pc G w [.ref q, .int (nI b)]) (g_Qr G (fun v w' => v = tr_blk w r t (tr_tb o n) b ∧ w' = w)) 0 0 (xw_A (g_b G)) := by
  refine g_met (by decide) (Nat.le_of_ble_eq_true rfl) rfl ?_
  intro p e s m below meth c ls hx hb hr hts hown hlocks hin hml hl hK hB hw hS
  have hT : ∀ w ∈ nw_T, w.before _ s = true := fun w h => hts w (List.mem_cons_of_mem _ h)
  have hown : s.vm.findClass "RadixShelf$Sequence" = some m.cls := hown
  have hl : lv_has ls 2 [(0, .ref q), (1, .int (nI b))] := hl
  have hr0 : w r = some (.inr (2, [.int (tr_stp w r), .ref (tr_arr w r)])) := hR.1.cell
  have hTl := tr_tb_lt o n
  refine lv_iload_n hx hb nd_Q_leafOf_0 rfl (lv_at hl 1 rfl) ?_
  refine lv_aload_n hx hb nd_Q_leafOf_1 rfl (lv_at hl 0 rfl) ?_
  refine g_calli (va_runV (As := []) (rest := [.int (nI b)]) ⟨hx, hb, hml, hown, hts⟩ (c_Q_tailBlock l G w q r t o n st ho hn hq) (cwV (C := nR_Q) 0 hts (nw_of (nw_4 nh_ml_Q_43 nh_im_Q_tailBlock nh_se_Q_tailBlock nh_in_Q nh_co_Q_tailBlock)) rfl rfl rfl (by decide +kernel) ⟨Nat.le_of_ble_eq_true rfl, Nat.le_of_ble_eq_true rfl⟩) (g_preV (ci := 3) (q := (nR_Q, nT_Q, 5)) hK hw hS rfl hq _) rfl rfl hl.1 rfl (lv_room (Nat.le_of_ble_eq_true rfl)) nd_Q_leafOf_2 ⟨by exact Nat.le_of_ble_eq_true rfl, by exact Nat.le_of_ble_eq_true rfl⟩) hS (fun v w1 H locs hp hw hS => ?_)
  obtain ⟨rfl, hw9⟩ := hp
  rw [hw9] at hw
  refine lv_icmp_ne (tgt := 15) hx hb nd_Q_leafOf_5 (by decide) (fun hc => ?_) (fun hc => ?_)
  · refine lv_aload_n hx hb nd_Q_leafOf_15 rfl (lv_at hl 0 rfl) ?_
    refine xw_get (T := nT_Q) (N := 5) (ci := 3) hx hb hT nu_Q hown hK.1 hw hq rfl 1 (by decide) (hT _ nh_fl_Q_15) (fun _ h9 => h9) rfl nd_Q_leafOf_16 ?_
    refine lv_iload_n hx hb nd_Q_leafOf_19 rfl (lv_at hl 1 rfl) ?_
    refine g_callr (va_runV (As := [.int (nI b)]) (rest := []) ⟨hx, hb, hml, hown, hts⟩ (c_R_leafOf l G w r b hR hb0) (cwV (C := nR_R) 1 hts (nw_of (nw_4 nh_ml_Q_51 nh_im_R_leafOf nh_se_R_leafOf nh_in_R nh_co_R_leafOf)) rfl rfl rfl (by decide +kernel) ⟨Nat.le_of_ble_eq_true rfl, Nat.le_of_ble_eq_true rfl⟩) (g_preV (ci := 2) (q := (nR_R, nT_R, 2)) hK hw hS rfl hr0 _) rfl rfl hl.1 rfl (lv_room (Nat.le_of_ble_eq_true rfl)) nd_Q_leafOf_20 ⟨by exact Nat.le_of_ble_eq_true rfl, by exact Nat.le_of_ble_eq_true rfl⟩) hS (fun v w2 H locs hp hw hS => ?_)
    obtain ⟨rfl, hw9⟩ := hp
    rw [hw9] at hw
    exact g_aret hx hb hr hlocks hw hS (⟨by unfold tr_blk; rw [if_neg (fun z => hc (by rw [z]))], rfl⟩) (by exact Nat.le_of_ble_eq_true rfl) (by exact Nat.le_of_ble_eq_true rfl) nd_Q_leafOf_23
  · refine lv_aload_n hx hb nd_Q_leafOf_8 rfl (lv_at hl 0 rfl) ?_
    refine xw_get (T := nT_Q) (N := 5) (ci := 3) hx hb hT nu_Q hown hK.1 hw hq rfl 2 (by decide) (hT _ nh_fl_Q_19) (fun _ h9 => h9) rfl nd_Q_leafOf_9 ?_
    refine lv_goto (tgt := 23) hx hb nd_Q_leafOf_12 (by decide) ?_
    exact g_aret hx hb hr hlocks hw hS (⟨by unfold tr_blk; rw [if_pos ((nI_eq (by omega) (by omega)).mp hc)], rfl⟩) (by exact Nat.le_of_ble_eq_true rfl) (by exact Nat.le_of_ble_eq_true rfl) nd_Q_leafOf_23

set_option maxHeartbeats 4000000 in
set_option maxRecDepth 100000 in
theorem c_Q_element (l : Launch) (G : g_G) (w : xw_W) (q r t o n i : Nat) (st : Int32) (ho : o < 32768) (hn : n ≤ 3000) (hi : i < n) (hq : w q = some (.inr (3, [.int st, .ref r, .ref t, .int (nI o), .int (nI n)]))) (hR : tr_okR (G.2.1 0) (G.2.1 1) (G.2.1 2) w r) (hT0 : tr_okL (G.2.1 0) w t) : Met l ny_Q_element nw_Q_element ({ frames := 3, cells := 0, slots := 0, locals := 62 }) (g_Pc G w [.ref q, .int (nI i)]) (g_Ql G (fun v w' => v = tr_vl w r t (tr_tb o n) ((o + i) % 32768) ∧ w' = w)) 0 0 (xw_A (g_b G)) := by
  refine g_met (by decide) (Nat.le_of_ble_eq_true rfl) rfl ?_
  intro p e s m below meth c ls hx hb hr hts hown hlocks hin hml hl hK hB hw hS
  have hT : ∀ w ∈ nw_T, w.before _ s = true := fun w h => hts w (List.mem_cons_of_mem _ h)
  have hown : s.vm.findClass "RadixShelf$Sequence" = some m.cls := hown
  have hl : lv_has ls 3 [(0, .ref q), (1, .int (nI i))] := hl
  refine lv_aload_n hx hb nd_Q_element_0 rfl (lv_at hl 0 rfl) ?_
  refine lv_iload_n hx hb nd_Q_element_1 rfl (lv_at hl 1 rfl) ?_
  refine g_calli (va_runV (As := [.int (nI i)]) (rest := []) ⟨hx, hb, hml, hown, hts⟩ (c_Q_position l G w q r t o st (nI n) (nI i) ho hq) (cwV (C := nR_Q) 1 hts (nw_of (nw_4 nh_ml_Q_29 nh_im_Q_position nh_se_Q_position nh_in_Q nh_co_Q_position)) rfl rfl rfl (by decide +kernel) ⟨Nat.le_of_ble_eq_true rfl, Nat.le_of_ble_eq_true rfl⟩) (g_preV (ci := 3) (q := (nR_Q, nT_Q, 5)) hK hw hS rfl hq _) rfl rfl hl.1 rfl (lv_room (Nat.le_of_ble_eq_true rfl)) nd_Q_element_2 ⟨by exact Nat.le_of_ble_eq_true rfl, by exact Nat.le_of_ble_eq_true rfl⟩) hS (fun v w1 H locs hp hw hS => ?_)
  obtain ⟨rfl, hw9⟩ := hp
  rw [hw9] at hw
  refine lv_topi (fun y2 ey3 => ?_)
  obtain rfl : y2 = nI ((o + i) % 32768) := ey3.trans (by rw [pk_tn (by omega)])
  refine lv_istore_n hx hb nd_Q_element_5 rfl hl (by decide) (lv' := [(2, .int (nI ((o + i) % 32768))), (0, .ref q), (1, .int (nI i))]) rfl (fun ls hl => ?_)
  refine lv_aload_n hx hb nd_Q_element_6 rfl (lv_at hl 1 rfl) ?_
  refine lv_iload_n hx hb nd_Q_element_7 rfl (lv_at hl 0 rfl) ?_
  refine lv_iconst (v := 5) hx hb nd_Q_element_8 (by decide) ?_
  refine lv_iushr (v := nI ((o + i) % 32768 / 32)) hx hb nd_Q_element_9 (tr_ush5 (by omega)) ?_
  refine g_callr (va_runV (As := [.int (nI ((o + i) % 32768 / 32))]) (rest := []) ⟨hx, hb, hml, hown, hts⟩ (c_Q_leafOf l G w q r t o n ((o + i) % 32768 / 32) st ho hn hq hR (by omega)) (cwV (C := nR_Q) 1 hts (nw_of (nw_4 nh_ml_Q_33 nh_im_Q_leafOf nh_se_Q_leafOf nh_in_Q nh_co_Q_leafOf)) rfl rfl rfl (by decide +kernel) ⟨Nat.le_of_ble_eq_true rfl, Nat.le_of_ble_eq_true rfl⟩) (g_preV (ci := 3) (q := (nR_Q, nT_Q, 5)) hK hw hS rfl hq _) rfl rfl hl.1 rfl (lv_room (Nat.le_of_ble_eq_true rfl)) nd_Q_element_10 ⟨by exact Nat.le_of_ble_eq_true rfl, by exact Nat.le_of_ble_eq_true rfl⟩) hS (fun z w4 H locs hp hw hS => ?_)
  obtain ⟨ez, hw9⟩ := hp
  rw [hw9] at hw
  have hZ : tr_okL (G.2.1 0) w z := by rw [ez]; exact tr_blk_ok hR hT0 (by omega)
  have hz0 : w z = some (.inr (1, [.int (tr_stp w z), .ref (tr_arr w z)])) := hZ.1.cell
  obtain ⟨f, hf⟩ := hZ.2
  refine xw_get (T := nT_F) (N := 2) (ci := 1) hx hb hT nu_F hown hK.1 hw hz0 rfl 1 (by decide) (hT _ nh_fl_Q_37) (fun _ h9 => h9) rfl nd_Q_element_13 ?_
  refine lv_iload_n hx hb nd_Q_element_16 rfl (lv_at hl 0 rfl) ?_
  refine lv_bipush (v := 31) hx hb nd_Q_element_17 (by decide) ?_
  refine lv_iand hx hb nd_Q_element_19 ?_
  refine lv_topi (fun y5 ey6 => ?_)
  obtain rfl : y5 = nI ((o + i) % 32768 % 32) := ey6.trans (tr_and31 (by omega))
  refine xw_lald hx hb hK.1 hw 0 hf rfl (vp_in_nI (by omega) (by decide)) nd_Q_element_20 ?_
  exact g_lret hx hb hr hlocks hw hS (⟨by rw [nI_clamp (by omega)]; unfold tr_vl; rw [← ez, tr_val_of hf], rfl⟩) (by exact Nat.le_of_ble_eq_true rfl) (by exact Nat.le_of_ble_eq_true rfl) nd_Q_element_21
end
section
theorem tr_ring {u v z : Nat} (h1 : u ≤ v) (h2 : v ≤ z) (h3 : z ≤ u + 2999) (h : u % 32768 / 32 = z % 32768 / 32) : v % 32768 / 32 = z % 32768 / 32 := by omega
theorem tr_tb1 (o n : Nat) : (o + n) % 32768 / 32 = tr_tb o (n + 1) := by unfold tr_tb; omega
theorem tr_tbp (o n : Nat) : tr_tb ((o + 32767) % 32768) (n + 1) = tr_tb o n := by unfold tr_tb; omega
/-- what a write says -/
def tr_Wr (cJ cL cB M d : Nat) (Z : Int32 → Prop) (w w' : tr_W) (q r t o n p r1 t1 : Nat) (v : Int64) : Prop := tr_Df cJ cL cB M d Z w' q r1 t1 o n ∧ tr_Kp d q w w' ∧ (∀ x, x < 32768 → tr_vl w' r1 t1 (tr_tb o n) x = if x = p then v else tr_vl w r t (tr_tb o n) x) ∧ (p / 32 = tr_tb o n → tr_stp w' t1 = nI d)

set_option maxHeartbeats 4000000 in
set_option maxRecDepth 100000 in
theorem c_Q_init (l : Launch) (G : g_G) (w : xw_W) (q r t : Nat) (st o n : Int32) (hq : w q = some (.inr (3, [.int 0, .null, .null, .int 0, .int 0]))) : Met l ny_Q_init nw_Q_init ({ frames := 1, cells := 0, slots := 0, locals := 12 }) (g_Pc G w [.ref q, .int st, .ref r, .ref t, .int o, .int n]) (g_Qv G (fun w' => w' = va_up w q (some (.inr (3, [.int st, .ref r, .ref t, .int o, .int n]))))) 0 0 (xw_A (g_b G)) := by
  refine g_met (by decide) (Nat.le_of_ble_eq_true rfl) rfl ?_
  intro p e s m below meth c ls hx hb hr hts hown hlocks hin hml hl hK hB hw hS
  have hT : ∀ w ∈ nw_T, w.before _ s = true := fun w h => hts w (List.mem_cons_of_mem _ h)
  have hown : s.vm.findClass "RadixShelf$Sequence" = some m.cls := hown
  have hl : lv_has ls 6 [(0, .ref q), (1, .int st), (2, .ref r), (3, .ref t), (4, .int o), (5, .int n)] := hl
  refine lv_aload_n hx hb nd_Q_init_0 rfl (lv_at hl 0 rfl) ?_
  refine W.objInit hx hb hown (hT _ nh_ml_Q_3) (hT _ nh_im_obj) (hT _ nh_co_obj) rfl (by rw [hml]; exact hl.1) rfl nd_Q_init_1 (Nat.le_of_ble_eq_true rfl) (Nat.le_of_ble_eq_true rfl) ?_
  refine W.eq (g2 := F0 m 4 ls []) rfl ?_
  refine lv_aload_n hx hb nd_Q_init_4 rfl (lv_at hl 0 rfl) ?_
  refine lv_iload_n hx hb nd_Q_init_5 rfl (lv_at hl 1 rfl) ?_
  refine xw_putF (T := nT_Q) (N := 5) (ci := 3) (v := .int st) (ty := .int) hx hb hT nu_Q nt_Q nk_Q nn_Q hown hK.1 hB hw hS hq rfl 0 (by decide) (hT _ nh_fl_Q_9) (fun _ h9 => h9) rfl hin rfl (by decide +kernel) rfl rfl (Nat.le_of_ble_eq_true rfl) nd_Q_init_6 (fun H locs hw hS => ?_)
  obtain ⟨w1, ew2⟩ : ∃ z, z = va_up w q (some (.inr (3, [.int st, .null, .null, .int 0, .int 0]))) := ⟨_, rfl⟩
  have hw : g_P G w1 H := by rw [ew2]; exact hw
  have hq : w1 q = some (.inr (3, [.int st, .null, .null, .int 0, .int 0])) := by rw [ew2]; exact va_up_self _ _ _
  refine lv_aload_n hx hb nd_Q_init_9 rfl (lv_at hl 0 rfl) ?_
  refine lv_aload_n hx hb nd_Q_init_10 rfl (lv_at hl 2 rfl) ?_
  refine xw_put (T := nT_Q) (N := 5) (ci := 3) (v := .ref r) (ty := (.object "RadixShelf$Root")) hx hb hT nu_Q nt_Q nk_Q nn_Q hown hK.1 hB hw hS hq rfl 1 (by decide) (hT _ nh_fl_Q_15) (fun _ h9 => h9) rfl (by decide +kernel) rfl rfl (Nat.le_of_ble_eq_true rfl) nd_Q_init_11 (fun H locs hw hS => ?_)
  obtain ⟨w3, ew4⟩ : ∃ z, z = va_up w1 q (some (.inr (3, [.int st, .ref r, .null, .int 0, .int 0]))) := ⟨_, rfl⟩
  have hw : g_P G w3 H := by rw [ew4]; exact hw
  have hq : w3 q = some (.inr (3, [.int st, .ref r, .null, .int 0, .int 0])) := by rw [ew4]; exact va_up_self _ _ _
  refine lv_aload_n hx hb nd_Q_init_14 rfl (lv_at hl 0 rfl) ?_
  refine lv_aload_n hx hb nd_Q_init_15 rfl (lv_at hl 3 rfl) ?_
  refine xw_put (T := nT_Q) (N := 5) (ci := 3) (v := .ref t) (ty := (.object "RadixShelf$Leaf")) hx hb hT nu_Q nt_Q nk_Q nn_Q hown hK.1 hB hw hS hq rfl 2 (by decide) (hT _ nh_fl_Q_19) (fun _ h9 => h9) rfl (by decide +kernel) rfl rfl (Nat.le_of_ble_eq_true rfl) nd_Q_init_16 (fun H locs hw hS => ?_)
  obtain ⟨w5, ew6⟩ : ∃ z, z = va_up w3 q (some (.inr (3, [.int st, .ref r, .ref t, .int 0, .int 0]))) := ⟨_, rfl⟩
  have hw : g_P G w5 H := by rw [ew6]; exact hw
  have hq : w5 q = some (.inr (3, [.int st, .ref r, .ref t, .int 0, .int 0])) := by rw [ew6]; exact va_up_self _ _ _
  refine lv_aload_n hx hb nd_Q_init_19 rfl (lv_at hl 0 rfl) ?_
  refine lv_iload hx hb nd_Q_init_20 (lv_at hl 4 rfl) ?_
  refine xw_put (T := nT_Q) (N := 5) (ci := 3) (v := .int o) (ty := .int) hx hb hT nu_Q nt_Q nk_Q nn_Q hown hK.1 hB hw hS hq rfl 3 (by decide) (hT _ nh_fl_Q_23) (fun _ h9 => h9) rfl (by decide +kernel) rfl rfl (Nat.le_of_ble_eq_true rfl) nd_Q_init_22 (fun H locs hw hS => ?_)
  obtain ⟨w7, ew8⟩ : ∃ z, z = va_up w5 q (some (.inr (3, [.int st, .ref r, .ref t, .int o, .int 0]))) := ⟨_, rfl⟩
  have hw : g_P G w7 H := by rw [ew8]; exact hw
  have hq : w7 q = some (.inr (3, [.int st, .ref r, .ref t, .int o, .int 0])) := by rw [ew8]; exact va_up_self _ _ _
  refine lv_aload_n hx hb nd_Q_init_25 rfl (lv_at hl 0 rfl) ?_
  refine lv_iload hx hb nd_Q_init_26 (lv_at hl 5 rfl) ?_
  refine xw_put (T := nT_Q) (N := 5) (ci := 3) (v := .int n) (ty := .int) hx hb hT nu_Q nt_Q nk_Q nn_Q hown hK.1 hB hw hS hq rfl 4 (by decide) (hT _ nh_fl_Q_26) (fun _ h9 => h9) rfl (by decide +kernel) rfl rfl (Nat.le_of_ble_eq_true rfl) nd_Q_init_28 (fun H locs hw hS => ?_)
  obtain ⟨w9, ew10⟩ : ∃ z, z = va_up w7 q (some (.inr (3, [.int st, .ref r, .ref t, .int o, .int n]))) := ⟨_, rfl⟩
  have hw : g_P G w9 H := by rw [ew10]; exact hw
  have hq : w9 q = some (.inr (3, [.int st, .ref r, .ref t, .int o, .int n])) := by rw [ew10]; exact va_up_self _ _ _
  exact g_vret hx hb hr hlocks hw hS (by rw [ew10, ew8, ew6, ew4, ew2, bx_uu, bx_uu, bx_uu, bx_uu]) (by exact Nat.le_of_ble_eq_true rfl) (by exact Nat.le_of_ble_eq_true rfl) nd_Q_init_31

set_option maxHeartbeats 4000000 in
set_option maxRecDepth 100000 in
theorem c_Q_write (l : Launch) {Z : Int32 → Prop} (G : g_G) (w : xw_W) (M d q r t o n p0 : Nat) (v : Int64) (hD : tr_Df (G.2.1 0) (G.2.1 1) (G.2.1 2) M d Z w q r t o n) (hp0 : p0 < 32768) : Met l ny_Q_write nw_Q_write ({ frames := 5, cells := 6, slots := 102, locals := 102 }) (g_Pc G w [.ref q, .int (nI p0), .long v]) (g_Qv G (fun w' => ∃ r1 t1, tr_Wr (G.2.1 0) (G.2.1 1) (G.2.1 2) M d Z w w' q r t o n p0 r1 t1 v)) 6 102 (xw_A (g_b G)) := by
  refine g_met (by decide) (Nat.le_of_ble_eq_true rfl) rfl ?_
  intro p e s m below meth c ls hx hb hr hts hown hlocks hin hml hl hK hB hw hS
  have hT : ∀ w ∈ nw_T, w.before _ s = true := fun w h => hts w (List.mem_cons_of_mem _ h)
  have hown : s.vm.findClass "RadixShelf$Sequence" = some m.cls := hown
  have hl : lv_has ls 6 [(0, .ref q), (1, .int (nI p0)), (2, .long v)] := hl
  obtain ⟨hW, hd, hq, ho, hn, hR, ht, hU, hul, hut, hz, hav⟩ := id hD
  have hq0 := hq
  have hTl := tr_tb_lt o n
  refine lv_iload_n hx hb nd_Q_write_0 rfl (lv_at hl 1 rfl) ?_
  refine lv_iconst (v := 5) hx hb nd_Q_write_1 (by decide) ?_
  refine lv_iushr (v := nI (p0 / 32)) hx hb nd_Q_write_2 (tr_ush5 (by omega)) ?_
  refine lv_istore hx hb nd_Q_write_3 hl (by decide) (lv' := [(4, .int (nI (p0 / 32))), (0, .ref q), (1, .int (nI p0)), (2, .long v)]) rfl (fun ls hl => ?_)
  refine lv_aload_n hx hb nd_Q_write_5 rfl (lv_at hl 1 rfl) ?_
  refine lv_iload hx hb nd_Q_write_6 (lv_at hl 0 rfl) ?_
  refine g_callr (va_runV (As := [.int (nI (p0 / 32))]) (rest := []) ⟨hx, hb, hml, hown, hts⟩ (c_Q_leafOf l G w q r t o n (p0 / 32) (nI d) ho hn hq hR (by omega)) (cwV (C := nR_Q) 1 hts (nw_of (nw_4 nh_ml_Q_33 nh_im_Q_leafOf nh_se_Q_leafOf nh_in_Q nh_co_Q_leafOf)) rfl rfl rfl (by decide +kernel) ⟨Nat.le_of_ble_eq_true rfl, Nat.le_of_ble_eq_true rfl⟩) (g_preV (ci := 3) (q := (nR_Q, nT_Q, 5)) hK hw hS rfl hq _) rfl rfl hl.1 rfl (lv_room (Nat.le_of_ble_eq_true rfl)) nd_Q_write_8 ⟨by exact Nat.le_of_ble_eq_true rfl, by exact Nat.le_of_ble_eq_true rfl⟩) hS (fun z w1 H locs hp hw hS => ?_)
  obtain ⟨ez, hw9⟩ := hp
  rw [hw9] at hw
  have hZ : tr_okL (G.2.1 0) w z := by rw [ez]; exact tr_blk_ok hR ht (by omega)
  have hz0 : w z = some (.inr (1, [.int (tr_stp w z), .ref (tr_arr w z)])) := hZ.1.cell
  obtain ⟨f, hf⟩ := hZ.2
  refine lv_aload_n hx hb nd_Q_write_11 rfl (lv_at hl 1 rfl) ?_
  refine xw_get (T := nT_Q) (N := 5) (ci := 3) hx hb hT nu_Q hown hK.1 hw hq rfl 0 (by decide) (hT _ nh_fl_Q_9) (fun _ h9 => h9) rfl nd_Q_write_12 ?_
  refine g_callr (va_runV (As := [.int (nI d)]) (rest := []) ⟨hx, hb, hml, hown, hts⟩ (c_F_ownedBy l G w z (tr_arr w z) d (tr_stp w z) f hz0 hf) (cwV (C := nR_F) 1 hts (nw_of (nw_4 nh_ml_Q_58 nh_im_F_ownedBy nh_se_F_ownedBy nh_in_F nh_co_F_ownedBy)) rfl rfl rfl (by decide +kernel) ⟨Nat.le_of_ble_eq_true rfl, Nat.le_of_ble_eq_true rfl⟩) (g_preV (ci := 1) (q := (nR_F, nT_F, 2)) hK hw hS rfl hz0 _) rfl rfl hl.1 rfl (lv_room (Nat.le_of_ble_eq_true rfl)) nd_Q_write_15 ⟨by exact Nat.le_of_ble_eq_true rfl, by exact Nat.le_of_ble_eq_true rfl⟩) hS (fun lf w2 H locs hO hw hS => ?_)
  obtain ⟨-, W1, n1, s1, a1, m1, f1, x1⟩ := hO.out (q := q) hW hd hZ.1
  have hq : w2 q = some (.inr (3, [.int (nI d), .ref r, .ref t, .int (nI o), .int (nI n)])) := x1 _ _ hq
  have hlf : w2 lf = some (.inr (1, [.int (tr_stp w2 lf), .ref (tr_arr w2 lf)])) := n1.cell
  have hf1 : w2 (tr_arr w2 lf) = some (.inl (G.2.1 0, 32, .inr (.inl f))) := by rw [a1]; exact hf
  have hf0 := hf1
  refine lv_astore hx hb nd_Q_write_18 hl (by decide) (lv' := [(5, .ref lf), (4, .int (nI (p0 / 32))), (0, .ref q), (1, .int (nI p0)), (2, .long v)]) rfl (fun ls hl => ?_)
  refine lv_aload hx hb nd_Q_write_20 (lv_at hl 0 rfl) ?_
  refine xw_get (T := nT_F) (N := 2) (ci := 1) hx hb hT nu_F hown hK.1 hw hlf rfl 1 (by decide) (hT _ nh_fl_Q_37) (fun _ h9 => h9) rfl nd_Q_write_22 ?_
  refine lv_iload_n hx hb nd_Q_write_25 rfl (lv_at hl 3 rfl) ?_
  refine lv_bipush (v := 31) hx hb nd_Q_write_26 (by decide) ?_
  refine lv_iand hx hb nd_Q_write_28 ?_
  refine lv_topi (fun y3 ey4 => ?_)
  obtain rfl : y3 = nI (p0 % 32) := ey4.trans (tr_and31 (by omega))
  refine lv_lload_n hx hb nd_Q_write_29 rfl (lv_at hl 4 rfl) ?_
  refine xw_last hx hb hK.1 hB hw hS 0 hf1 rfl (vp_in_nI (by omega) (by decide)) nd_Q_write_30 (fun H locs hw hS => ?_)
  rw [nI_clamp (by omega)] at hw
  obtain ⟨w5, ew6⟩ : ∃ z, z = va_up w2 (tr_arr w2 lf) (some (.inl (G.2.1 0, 32, .inr (.inl (vp_updL f (p0 % 32) v))))) := ⟨_, rfl⟩
  have hw : g_P G w5 H := by rw [ew6]; exact hw
  have hq : w5 q = some (.inr (3, [.int (nI d), .ref r, .ref t, .int (nI o), .int (nI n)])) := by rw [ew6, va_up_ne _ _ (xw_ne hq hf1 (by simp))]; exact hq
  have hlf : w5 lf = some (.inr (1, [.int (tr_stp w2 lf), .ref (tr_arr w2 lf)])) := by rw [ew6, va_up_ne _ _ (xw_ne hlf hf1 (by simp))]; exact hlf
  have hf1 : w5 (tr_arr w2 lf) = some (.inl (G.2.1 0, 32, .inr (.inl (vp_updL f (p0 % 32) v)))) := by rw [ew6]; exact va_up_self _ _ _
  obtain ⟨K2, W2, q2, R2, l2, U2, L2, s2, sm2, v2, f2, c2, b2⟩ := tr_leaf (pos := p0) (v := v) hW hd hq0 hR hU hZ hO hf0 ew6
  refine lv_iload hx hb nd_Q_write_31 (lv_at hl 1 rfl) ?_
  refine lv_aload_n hx hb nd_Q_write_33 rfl (lv_at hl 2 rfl) ?_
  refine g_calli (va_runV (As := []) (rest := [.int (nI (p0 / 32))]) ⟨hx, hb, hml, hown, hts⟩ (c_Q_tailBlock l G w5 q r t o n (nI d) ho hn hq) (cwV (C := nR_Q) 0 hts (nw_of (nw_4 nh_ml_Q_43 nh_im_Q_tailBlock nh_se_Q_tailBlock nh_in_Q nh_co_Q_tailBlock)) rfl rfl rfl (by decide +kernel) ⟨Nat.le_of_ble_eq_true rfl, Nat.le_of_ble_eq_true rfl⟩) (g_preV (ci := 3) (q := (nR_Q, nT_Q, 5)) hK hw hS rfl hq _) rfl rfl hl.1 rfl (lv_room (Nat.le_of_ble_eq_true rfl)) nd_Q_write_34 ⟨by exact Nat.le_of_ble_eq_true rfl, by exact Nat.le_of_ble_eq_true rfl⟩) hS (fun vt w7 H locs hp hw hS => ?_)
  obtain ⟨rfl, hw9⟩ := hp
  rw [hw9] at hw
  refine lv_icmp_ne (tgt := 49) hx hb nd_Q_write_37 (by decide) (fun hc => ?_) (fun hc => ?_)
  · refine lv_aload_n hx hb nd_Q_write_49 rfl (lv_at hl 2 rfl) ?_
    refine lv_iload hx hb nd_Q_write_50 (lv_at hl 1 rfl) ?_
    refine lv_aload hx hb nd_Q_write_52 (lv_at hl 0 rfl) ?_
    refine g_callv (va_runV (As := [.int (nI (p0 / 32)), .ref lf]) (rest := []) ⟨hx, hb, hml, hown, hts⟩ (c_Q_hang l G w5 M d q r t (p0 / 32) lf (nI o) (nI n) W2 hd hq R2 U2 L2 (by omega)) (cwV (C := nR_Q) 2 hts (nw_of (nw_4 nh_ml_Q_47 nh_im_Q_hang nh_se_Q_hang nh_in_Q nh_co_Q_hang)) rfl rfl rfl (by decide +kernel) ⟨Nat.le_of_ble_eq_true rfl, Nat.le_of_ble_eq_true rfl⟩) (g_preV (ci := 3) (q := (nR_Q, nT_Q, 5)) hK hw hS rfl hq _) rfl rfl hl.1 rfl (lv_room (Nat.le_of_ble_eq_true rfl)) nd_Q_write_54 ⟨by exact Nat.le_of_ble_eq_true rfl, by exact Nat.le_of_ble_eq_true rfl⟩) hS (fun w8 H locs hp hw hS => ?_)
    obtain ⟨r1, hG⟩ := hp
    have hT : p0 / 32 ≠ tr_tb o n := fun z => hc (by rw [z])
    have ez2 : z = tr_lfb w r (p0 / 32) := by rw [ez]; unfold tr_blk; rw [if_neg hT]
    obtain ⟨D3, K3, V3⟩ := tr_writeH hD hp0 hT (by rw [← ez2]; exact hO) hf0 ew6 hG
    exact g_vret hx hb hr hlocks hw hS (⟨r1, t, D3, K3, V3, fun z => absurd z hT⟩) (by exact Nat.le_of_ble_eq_true rfl) (by exact Nat.le_of_ble_eq_true rfl) nd_Q_write_57
  · refine lv_aload_n hx hb nd_Q_write_40 rfl (lv_at hl 2 rfl) ?_
    refine lv_aload hx hb nd_Q_write_41 (lv_at hl 0 rfl) ?_
    refine xw_put (T := nT_Q) (N := 5) (ci := 3) (v := .ref lf) (ty := (.object "RadixShelf$Leaf")) hx hb hT nu_Q nt_Q nk_Q nn_Q hown hK.1 hB hw hS hq rfl 2 (by decide) (hT _ nh_fl_Q_19) (fun _ h9 => h9) rfl (by decide +kernel) rfl rfl (Nat.le_of_ble_eq_true rfl) nd_Q_write_43 (fun H locs hw hS => ?_)
    obtain ⟨w8, ew9⟩ : ∃ z, z = va_up w5 q (some (.inr (3, [.int (nI d), .ref r, .ref lf, .int (nI o), .int (nI n)]))) := ⟨_, rfl⟩
    have hw : g_P G w8 H := by rw [ew9]; exact hw
    have hlf : w8 lf = some (.inr (1, [.int (tr_stp w2 lf), .ref (tr_arr w2 lf)])) := by rw [ew9, va_up_ne _ _ (xw_ne hlf hq (by simp))]; exact hlf
    have hf1 : w8 (tr_arr w2 lf) = some (.inl (G.2.1 0, 32, .inr (.inl (vp_updL f (p0 % 32) v)))) := by rw [ew9, va_up_ne _ _ (xw_ne hf1 hq (by simp))]; exact hf1
    have hq : w8 q = some (.inr (3, [.int (nI d), .ref r, .ref lf, .int (nI o), .int (nI n)])) := by rw [ew9]; exact va_up_self _ _ _
    refine lv_goto (tgt := 57) hx hb nd_Q_write_46 (by decide) ?_
    have hT : p0 / 32 = tr_tb o n := (nI_eq (by omega) (by omega)).mp hc
    have ez2 : z = t := by rw [ez]; unfold tr_blk; rw [if_pos hT]
    obtain ⟨D3, K3, V3⟩ := tr_writeT hD hp0 hT (by rw [← ez2]; exact hO) hf0 ew6 ew9
    exact g_vret hx hb hr hlocks hw hS (⟨r, lf, D3, K3, V3, fun _ => by rw [ew9, tr_stp_eq (tr_up_ne (tr_notSeq L2.1 q2))]; exact s2⟩) (by exact Nat.le_of_ble_eq_true rfl) (by exact Nat.le_of_ble_eq_true rfl) nd_Q_write_57

set_option maxHeartbeats 4000000 in
set_option maxRecDepth 100000 in
theorem c_Q_writeT (l : Launch) {Z : Int32 → Prop} (G : g_G) (w : xw_W) (M d q r t o n p0 : Nat) (v : Int64) (hD : tr_Df (G.2.1 0) (G.2.1 1) (G.2.1 2) M d Z w q r t o n) (hp0 : p0 < 32768) (hT0 : p0 / 32 = tr_tb o n) : Met l ny_Q_write nw_Q_write ({ frames := 3, cells := 2, slots := 34, locals := 62 }) (g_Pc G w [.ref q, .int (nI p0), .long v]) (g_Qv G (fun w' => ∃ r1 t1, tr_Wr (G.2.1 0) (G.2.1 1) (G.2.1 2) M d Z w w' q r t o n p0 r1 t1 v)) 2 34 (xw_A (g_b G)) := by
  refine g_met (by decide) (Nat.le_of_ble_eq_true rfl) rfl ?_
  intro p e s m below meth c ls hx hb hr hts hown hlocks hin hml hl hK hB hw hS
  have hT : ∀ w ∈ nw_T, w.before _ s = true := fun w h => hts w (List.mem_cons_of_mem _ h)
  have hown : s.vm.findClass "RadixShelf$Sequence" = some m.cls := hown
  have hl : lv_has ls 6 [(0, .ref q), (1, .int (nI p0)), (2, .long v)] := hl
  obtain ⟨hW, hd, hq, ho, hn, hR, ht, hU, hul, hut, hz, hav⟩ := id hD
  have hq0 := hq
  have hTl := tr_tb_lt o n
  refine lv_iload_n hx hb nd_Q_write_0 rfl (lv_at hl 1 rfl) ?_
  refine lv_iconst (v := 5) hx hb nd_Q_write_1 (by decide) ?_
  refine lv_iushr (v := nI (p0 / 32)) hx hb nd_Q_write_2 (tr_ush5 (by omega)) ?_
  refine lv_istore hx hb nd_Q_write_3 hl (by decide) (lv' := [(4, .int (nI (p0 / 32))), (0, .ref q), (1, .int (nI p0)), (2, .long v)]) rfl (fun ls hl => ?_)
  refine lv_aload_n hx hb nd_Q_write_5 rfl (lv_at hl 1 rfl) ?_
  refine lv_iload hx hb nd_Q_write_6 (lv_at hl 0 rfl) ?_
  refine g_callr (va_runV (As := [.int (nI (p0 / 32))]) (rest := []) ⟨hx, hb, hml, hown, hts⟩ (c_Q_leafOf l G w q r t o n (p0 / 32) (nI d) ho hn hq hR (by omega)) (cwV (C := nR_Q) 1 hts (nw_of (nw_4 nh_ml_Q_33 nh_im_Q_leafOf nh_se_Q_leafOf nh_in_Q nh_co_Q_leafOf)) rfl rfl rfl (by decide +kernel) ⟨Nat.le_of_ble_eq_true rfl, Nat.le_of_ble_eq_true rfl⟩) (g_preV (ci := 3) (q := (nR_Q, nT_Q, 5)) hK hw hS rfl hq _) rfl rfl hl.1 rfl (lv_room (Nat.le_of_ble_eq_true rfl)) nd_Q_write_8 ⟨by exact Nat.le_of_ble_eq_true rfl, by exact Nat.le_of_ble_eq_true rfl⟩) hS (fun z w1 H locs hp hw hS => ?_)
  obtain ⟨ez, hw9⟩ := hp
  rw [hw9] at hw
  have hZ : tr_okL (G.2.1 0) w z := by rw [ez]; exact tr_blk_ok hR ht (by omega)
  have hz0 : w z = some (.inr (1, [.int (tr_stp w z), .ref (tr_arr w z)])) := hZ.1.cell
  obtain ⟨f, hf⟩ := hZ.2
  refine lv_aload_n hx hb nd_Q_write_11 rfl (lv_at hl 1 rfl) ?_
  refine xw_get (T := nT_Q) (N := 5) (ci := 3) hx hb hT nu_Q hown hK.1 hw hq rfl 0 (by decide) (hT _ nh_fl_Q_9) (fun _ h9 => h9) rfl nd_Q_write_12 ?_
  refine g_callr (va_runV (As := [.int (nI d)]) (rest := []) ⟨hx, hb, hml, hown, hts⟩ (c_F_ownedBy l G w z (tr_arr w z) d (tr_stp w z) f hz0 hf) (cwV (C := nR_F) 1 hts (nw_of (nw_4 nh_ml_Q_58 nh_im_F_ownedBy nh_se_F_ownedBy nh_in_F nh_co_F_ownedBy)) rfl rfl rfl (by decide +kernel) ⟨Nat.le_of_ble_eq_true rfl, Nat.le_of_ble_eq_true rfl⟩) (g_preV (ci := 1) (q := (nR_F, nT_F, 2)) hK hw hS rfl hz0 _) rfl rfl hl.1 rfl (lv_room (Nat.le_of_ble_eq_true rfl)) nd_Q_write_15 ⟨by exact Nat.le_of_ble_eq_true rfl, by exact Nat.le_of_ble_eq_true rfl⟩) hS (fun lf w2 H locs hO hw hS => ?_)
  obtain ⟨-, W1, n1, s1, a1, m1, f1, x1⟩ := hO.out (q := q) hW hd hZ.1
  have hq : w2 q = some (.inr (3, [.int (nI d), .ref r, .ref t, .int (nI o), .int (nI n)])) := x1 _ _ hq
  have hlf : w2 lf = some (.inr (1, [.int (tr_stp w2 lf), .ref (tr_arr w2 lf)])) := n1.cell
  have hf1 : w2 (tr_arr w2 lf) = some (.inl (G.2.1 0, 32, .inr (.inl f))) := by rw [a1]; exact hf
  have hf0 := hf1
  refine lv_astore hx hb nd_Q_write_18 hl (by decide) (lv' := [(5, .ref lf), (4, .int (nI (p0 / 32))), (0, .ref q), (1, .int (nI p0)), (2, .long v)]) rfl (fun ls hl => ?_)
  refine lv_aload hx hb nd_Q_write_20 (lv_at hl 0 rfl) ?_
  refine xw_get (T := nT_F) (N := 2) (ci := 1) hx hb hT nu_F hown hK.1 hw hlf rfl 1 (by decide) (hT _ nh_fl_Q_37) (fun _ h9 => h9) rfl nd_Q_write_22 ?_
  refine lv_iload_n hx hb nd_Q_write_25 rfl (lv_at hl 3 rfl) ?_
  refine lv_bipush (v := 31) hx hb nd_Q_write_26 (by decide) ?_
  refine lv_iand hx hb nd_Q_write_28 ?_
  refine lv_topi (fun y3 ey4 => ?_)
  obtain rfl : y3 = nI (p0 % 32) := ey4.trans (tr_and31 (by omega))
  refine lv_lload_n hx hb nd_Q_write_29 rfl (lv_at hl 4 rfl) ?_
  refine xw_last hx hb hK.1 hB hw hS 0 hf1 rfl (vp_in_nI (by omega) (by decide)) nd_Q_write_30 (fun H locs hw hS => ?_)
  rw [nI_clamp (by omega)] at hw
  obtain ⟨w5, ew6⟩ : ∃ z, z = va_up w2 (tr_arr w2 lf) (some (.inl (G.2.1 0, 32, .inr (.inl (vp_updL f (p0 % 32) v))))) := ⟨_, rfl⟩
  have hw : g_P G w5 H := by rw [ew6]; exact hw
  have hq : w5 q = some (.inr (3, [.int (nI d), .ref r, .ref t, .int (nI o), .int (nI n)])) := by rw [ew6, va_up_ne _ _ (xw_ne hq hf1 (by simp))]; exact hq
  have hlf : w5 lf = some (.inr (1, [.int (tr_stp w2 lf), .ref (tr_arr w2 lf)])) := by rw [ew6, va_up_ne _ _ (xw_ne hlf hf1 (by simp))]; exact hlf
  have hf1 : w5 (tr_arr w2 lf) = some (.inl (G.2.1 0, 32, .inr (.inl (vp_updL f (p0 % 32) v)))) := by rw [ew6]; exact va_up_self _ _ _
  obtain ⟨K2, W2, q2, R2, l2, U2, L2, s2, sm2, v2, f2, c2, b2⟩ := tr_leaf (pos := p0) (v := v) hW hd hq0 hR hU hZ hO hf0 ew6
  refine lv_iload hx hb nd_Q_write_31 (lv_at hl 1 rfl) ?_
  refine lv_aload_n hx hb nd_Q_write_33 rfl (lv_at hl 2 rfl) ?_
  refine g_calli (va_runV (As := []) (rest := [.int (nI (p0 / 32))]) ⟨hx, hb, hml, hown, hts⟩ (c_Q_tailBlock l G w5 q r t o n (nI d) ho hn hq) (cwV (C := nR_Q) 0 hts (nw_of (nw_4 nh_ml_Q_43 nh_im_Q_tailBlock nh_se_Q_tailBlock nh_in_Q nh_co_Q_tailBlock)) rfl rfl rfl (by decide +kernel) ⟨Nat.le_of_ble_eq_true rfl, Nat.le_of_ble_eq_true rfl⟩) (g_preV (ci := 3) (q := (nR_Q, nT_Q, 5)) hK hw hS rfl hq _) rfl rfl hl.1 rfl (lv_room (Nat.le_of_ble_eq_true rfl)) nd_Q_write_34 ⟨by exact Nat.le_of_ble_eq_true rfl, by exact Nat.le_of_ble_eq_true rfl⟩) hS (fun vt w7 H locs hp hw hS => ?_)
  obtain ⟨rfl, hw9⟩ := hp
  rw [hw9] at hw
  refine lv_icmp_ne (tgt := 49) hx hb nd_Q_write_37 (by decide) (fun hc => ?_) (fun hc => ?_)
  · exact absurd (by rw [hT0]) hc
  · refine lv_aload_n hx hb nd_Q_write_40 rfl (lv_at hl 2 rfl) ?_
    refine lv_aload hx hb nd_Q_write_41 (lv_at hl 0 rfl) ?_
    refine xw_put (T := nT_Q) (N := 5) (ci := 3) (v := .ref lf) (ty := (.object "RadixShelf$Leaf")) hx hb hT nu_Q nt_Q nk_Q nn_Q hown hK.1 hB hw hS hq rfl 2 (by decide) (hT _ nh_fl_Q_19) (fun _ h9 => h9) rfl (by decide +kernel) rfl rfl (Nat.le_of_ble_eq_true rfl) nd_Q_write_43 (fun H locs hw hS => ?_)
    obtain ⟨w8, ew9⟩ : ∃ z, z = va_up w5 q (some (.inr (3, [.int (nI d), .ref r, .ref lf, .int (nI o), .int (nI n)]))) := ⟨_, rfl⟩
    have hw : g_P G w8 H := by rw [ew9]; exact hw
    have hlf : w8 lf = some (.inr (1, [.int (tr_stp w2 lf), .ref (tr_arr w2 lf)])) := by rw [ew9, va_up_ne _ _ (xw_ne hlf hq (by simp))]; exact hlf
    have hf1 : w8 (tr_arr w2 lf) = some (.inl (G.2.1 0, 32, .inr (.inl (vp_updL f (p0 % 32) v)))) := by rw [ew9, va_up_ne _ _ (xw_ne hf1 hq (by simp))]; exact hf1
    have hq : w8 q = some (.inr (3, [.int (nI d), .ref r, .ref lf, .int (nI o), .int (nI n)])) := by rw [ew9]; exact va_up_self _ _ _
    refine lv_goto (tgt := 57) hx hb nd_Q_write_46 (by decide) ?_
    have hT : p0 / 32 = tr_tb o n := (nI_eq (by omega) (by omega)).mp hc
    have ez2 : z = t := by rw [ez]; unfold tr_blk; rw [if_pos hT]
    obtain ⟨D3, K3, V3⟩ := tr_writeT hD hp0 hT (by rw [← ez2]; exact hO) hf0 ew6 ew9
    exact g_vret hx hb hr hlocks hw hS (⟨r, lf, D3, K3, V3, fun _ => by rw [ew9, tr_stp_eq (tr_up_ne (tr_notSeq L2.1 q2))]; exact s2⟩) (by exact Nat.le_of_ble_eq_true rfl) (by exact Nat.le_of_ble_eq_true rfl) nd_Q_write_57

set_option maxHeartbeats 4000000 in
set_option maxRecDepth 100000 in
theorem c_Q_write0 (l : Launch) {Z : Int32 → Prop} (G : g_G) (w : xw_W) (M d q r t o n p0 : Nat) (v : Int64) (hD : tr_Df (G.2.1 0) (G.2.1 1) (G.2.1 2) M d Z w q r t o n) (hp0 : p0 < 32768) (hT0 : p0 / 32 = tr_tb o n) (hs0 : tr_stp w t = nI d) : Met l ny_Q_write nw_Q_write ({ frames := 3, cells := 0, slots := 0, locals := 62 }) (g_Pc G w [.ref q, .int (nI p0), .long v]) (g_Qv G (fun w' => ∃ r1 t1, tr_Wr (G.2.1 0) (G.2.1 1) (G.2.1 2) M d Z w w' q r t o n p0 r1 t1 v)) 0 0 (xw_A (g_b G)) := by
  refine g_met (by decide) (Nat.le_of_ble_eq_true rfl) rfl ?_
  intro p e s m below meth c ls hx hb hr hts hown hlocks hin hml hl hK hB hw hS
  have hT : ∀ w ∈ nw_T, w.before _ s = true := fun w h => hts w (List.mem_cons_of_mem _ h)
  have hown : s.vm.findClass "RadixShelf$Sequence" = some m.cls := hown
  have hl : lv_has ls 6 [(0, .ref q), (1, .int (nI p0)), (2, .long v)] := hl
  obtain ⟨hW, hd, hq, ho, hn, hR, ht, hU, hul, hut, hz, hav⟩ := id hD
  have hq0 := hq
  have hTl := tr_tb_lt o n
  refine lv_iload_n hx hb nd_Q_write_0 rfl (lv_at hl 1 rfl) ?_
  refine lv_iconst (v := 5) hx hb nd_Q_write_1 (by decide) ?_
  refine lv_iushr (v := nI (p0 / 32)) hx hb nd_Q_write_2 (tr_ush5 (by omega)) ?_
  refine lv_istore hx hb nd_Q_write_3 hl (by decide) (lv' := [(4, .int (nI (p0 / 32))), (0, .ref q), (1, .int (nI p0)), (2, .long v)]) rfl (fun ls hl => ?_)
  refine lv_aload_n hx hb nd_Q_write_5 rfl (lv_at hl 1 rfl) ?_
  refine lv_iload hx hb nd_Q_write_6 (lv_at hl 0 rfl) ?_
  refine g_callr (va_runV (As := [.int (nI (p0 / 32))]) (rest := []) ⟨hx, hb, hml, hown, hts⟩ (c_Q_leafOf l G w q r t o n (p0 / 32) (nI d) ho hn hq hR (by omega)) (cwV (C := nR_Q) 1 hts (nw_of (nw_4 nh_ml_Q_33 nh_im_Q_leafOf nh_se_Q_leafOf nh_in_Q nh_co_Q_leafOf)) rfl rfl rfl (by decide +kernel) ⟨Nat.le_of_ble_eq_true rfl, Nat.le_of_ble_eq_true rfl⟩) (g_preV (ci := 3) (q := (nR_Q, nT_Q, 5)) hK hw hS rfl hq _) rfl rfl hl.1 rfl (lv_room (Nat.le_of_ble_eq_true rfl)) nd_Q_write_8 ⟨by exact Nat.le_of_ble_eq_true rfl, by exact Nat.le_of_ble_eq_true rfl⟩) hS (fun z w1 H locs hp hw hS => ?_)
  obtain ⟨ez, hw9⟩ := hp
  rw [hw9] at hw
  have hZ : tr_okL (G.2.1 0) w z := by rw [ez]; exact tr_blk_ok hR ht (by omega)
  have hz0 : w z = some (.inr (1, [.int (tr_stp w z), .ref (tr_arr w z)])) := hZ.1.cell
  obtain ⟨f, hf⟩ := hZ.2
  have ezt : z = t := by rw [ez]; unfold tr_blk; rw [if_pos hT0]
  have hzs : tr_stp w z = nI d := by rw [ezt]; exact hs0
  rw [hzs] at hz0
  refine lv_aload_n hx hb nd_Q_write_11 rfl (lv_at hl 1 rfl) ?_
  refine xw_get (T := nT_Q) (N := 5) (ci := 3) hx hb hT nu_Q hown hK.1 hw hq rfl 0 (by decide) (hT _ nh_fl_Q_9) (fun _ h9 => h9) rfl nd_Q_write_12 ?_
  refine g_callr (va_runV (As := [.int (nI d)]) (rest := []) ⟨hx, hb, hml, hown, hts⟩ (c_F_ownedBy0 l G w z (tr_arr w z) d hz0) (cwV (C := nR_F) 1 hts (nw_of (nw_4 nh_ml_Q_58 nh_im_F_ownedBy nh_se_F_ownedBy nh_in_F nh_co_F_ownedBy)) rfl rfl rfl (by decide +kernel) ⟨Nat.le_of_ble_eq_true rfl, Nat.le_of_ble_eq_true rfl⟩) (g_preV (ci := 1) (q := (nR_F, nT_F, 2)) hK hw hS rfl hz0 _) rfl rfl hl.1 rfl (lv_room (Nat.le_of_ble_eq_true rfl)) nd_Q_write_15 ⟨by exact Nat.le_of_ble_eq_true rfl, by exact Nat.le_of_ble_eq_true rfl⟩) hS (fun lf w2 H locs hp hw hS => ?_)
  have hO : tr_Ow tr_kL d w w2 z lf := Or.inl ⟨hzs, hp.1, hp.2⟩
  obtain ⟨-, W1, n1, s1, a1, m1, f1, x1⟩ := hO.out (q := q) hW hd hZ.1
  have hq : w2 q = some (.inr (3, [.int (nI d), .ref r, .ref t, .int (nI o), .int (nI n)])) := x1 _ _ hq
  have hlf : w2 lf = some (.inr (1, [.int (tr_stp w2 lf), .ref (tr_arr w2 lf)])) := n1.cell
  have hf1 : w2 (tr_arr w2 lf) = some (.inl (G.2.1 0, 32, .inr (.inl f))) := by rw [a1]; exact hf
  have hf0 := hf1
  refine lv_astore hx hb nd_Q_write_18 hl (by decide) (lv' := [(5, .ref lf), (4, .int (nI (p0 / 32))), (0, .ref q), (1, .int (nI p0)), (2, .long v)]) rfl (fun ls hl => ?_)
  refine lv_aload hx hb nd_Q_write_20 (lv_at hl 0 rfl) ?_
  refine xw_get (T := nT_F) (N := 2) (ci := 1) hx hb hT nu_F hown hK.1 hw hlf rfl 1 (by decide) (hT _ nh_fl_Q_37) (fun _ h9 => h9) rfl nd_Q_write_22 ?_
  refine lv_iload_n hx hb nd_Q_write_25 rfl (lv_at hl 3 rfl) ?_
  refine lv_bipush (v := 31) hx hb nd_Q_write_26 (by decide) ?_
  refine lv_iand hx hb nd_Q_write_28 ?_
  refine lv_topi (fun y3 ey4 => ?_)
  obtain rfl : y3 = nI (p0 % 32) := ey4.trans (tr_and31 (by omega))
  refine lv_lload_n hx hb nd_Q_write_29 rfl (lv_at hl 4 rfl) ?_
  refine xw_last hx hb hK.1 hB hw hS 0 hf1 rfl (vp_in_nI (by omega) (by decide)) nd_Q_write_30 (fun H locs hw hS => ?_)
  rw [nI_clamp (by omega)] at hw
  obtain ⟨w5, ew6⟩ : ∃ z, z = va_up w2 (tr_arr w2 lf) (some (.inl (G.2.1 0, 32, .inr (.inl (vp_updL f (p0 % 32) v))))) := ⟨_, rfl⟩
  have hw : g_P G w5 H := by rw [ew6]; exact hw
  have hq : w5 q = some (.inr (3, [.int (nI d), .ref r, .ref t, .int (nI o), .int (nI n)])) := by rw [ew6, va_up_ne _ _ (xw_ne hq hf1 (by simp))]; exact hq
  have hlf : w5 lf = some (.inr (1, [.int (tr_stp w2 lf), .ref (tr_arr w2 lf)])) := by rw [ew6, va_up_ne _ _ (xw_ne hlf hf1 (by simp))]; exact hlf
  have hf1 : w5 (tr_arr w2 lf) = some (.inl (G.2.1 0, 32, .inr (.inl (vp_updL f (p0 % 32) v)))) := by rw [ew6]; exact va_up_self _ _ _
  obtain ⟨K2, W2, q2, R2, l2, U2, L2, s2, sm2, v2, f2, c2, b2⟩ := tr_leaf (pos := p0) (v := v) hW hd hq0 hR hU hZ hO hf0 ew6
  refine lv_iload hx hb nd_Q_write_31 (lv_at hl 1 rfl) ?_
  refine lv_aload_n hx hb nd_Q_write_33 rfl (lv_at hl 2 rfl) ?_
  refine g_calli (va_runV (As := []) (rest := [.int (nI (p0 / 32))]) ⟨hx, hb, hml, hown, hts⟩ (c_Q_tailBlock l G w5 q r t o n (nI d) ho hn hq) (cwV (C := nR_Q) 0 hts (nw_of (nw_4 nh_ml_Q_43 nh_im_Q_tailBlock nh_se_Q_tailBlock nh_in_Q nh_co_Q_tailBlock)) rfl rfl rfl (by decide +kernel) ⟨Nat.le_of_ble_eq_true rfl, Nat.le_of_ble_eq_true rfl⟩) (g_preV (ci := 3) (q := (nR_Q, nT_Q, 5)) hK hw hS rfl hq _) rfl rfl hl.1 rfl (lv_room (Nat.le_of_ble_eq_true rfl)) nd_Q_write_34 ⟨by exact Nat.le_of_ble_eq_true rfl, by exact Nat.le_of_ble_eq_true rfl⟩) hS (fun vt w7 H locs hp hw hS => ?_)
  obtain ⟨rfl, hw9⟩ := hp
  rw [hw9] at hw
  refine lv_icmp_ne (tgt := 49) hx hb nd_Q_write_37 (by decide) (fun hc => ?_) (fun hc => ?_)
  · exact absurd (by rw [hT0]) hc
  · refine lv_aload_n hx hb nd_Q_write_40 rfl (lv_at hl 2 rfl) ?_
    refine lv_aload hx hb nd_Q_write_41 (lv_at hl 0 rfl) ?_
    refine xw_put (T := nT_Q) (N := 5) (ci := 3) (v := .ref lf) (ty := (.object "RadixShelf$Leaf")) hx hb hT nu_Q nt_Q nk_Q nn_Q hown hK.1 hB hw hS hq rfl 2 (by decide) (hT _ nh_fl_Q_19) (fun _ h9 => h9) rfl (by decide +kernel) rfl rfl (Nat.le_of_ble_eq_true rfl) nd_Q_write_43 (fun H locs hw hS => ?_)
    obtain ⟨w8, ew9⟩ : ∃ z, z = va_up w5 q (some (.inr (3, [.int (nI d), .ref r, .ref lf, .int (nI o), .int (nI n)]))) := ⟨_, rfl⟩
    have hw : g_P G w8 H := by rw [ew9]; exact hw
    have hlf : w8 lf = some (.inr (1, [.int (tr_stp w2 lf), .ref (tr_arr w2 lf)])) := by rw [ew9, va_up_ne _ _ (xw_ne hlf hq (by simp))]; exact hlf
    have hf1 : w8 (tr_arr w2 lf) = some (.inl (G.2.1 0, 32, .inr (.inl (vp_updL f (p0 % 32) v)))) := by rw [ew9, va_up_ne _ _ (xw_ne hf1 hq (by simp))]; exact hf1
    have hq : w8 q = some (.inr (3, [.int (nI d), .ref r, .ref lf, .int (nI o), .int (nI n)])) := by rw [ew9]; exact va_up_self _ _ _
    refine lv_goto (tgt := 57) hx hb nd_Q_write_46 (by decide) ?_
    have hT : p0 / 32 = tr_tb o n := (nI_eq (by omega) (by omega)).mp hc
    have ez2 : z = t := by rw [ez]; unfold tr_blk; rw [if_pos hT]
    obtain ⟨D3, K3, V3⟩ := tr_writeT hD hp0 hT (by rw [← ez2]; exact hO) hf0 ew6 ew9
    exact g_vret hx hb hr hlocks hw hS (⟨r, lf, D3, K3, V3, fun _ => by rw [ew9, tr_stp_eq (tr_up_ne (tr_notSeq L2.1 q2))]; exact s2⟩) (by exact Nat.le_of_ble_eq_true rfl) (by exact Nat.le_of_ble_eq_true rfl) nd_Q_write_57
end
section
theorem tr_seq0 {Z : Int32 → Prop} {cJ cL cB M d q r t o n : Nat} {o' n' : Int32} {w w0 : tr_W} (hD : tr_Df cJ cL cB M d Z w q r t o n) (h0 : w0 = va_up w q (some (tr_S (nI d) r t o' n'))) : tr_Wi w0 M ∧ tr_okR cJ cL cB w0 r ∧ tr_Ub w0 r d ∧ tr_okL cJ w0 t ∧ (∀ b, b < 1024 → tr_lfb w0 r b = tr_lfb w r b) ∧ tr_stp w0 t = tr_stp w t := by
  obtain ⟨hW, hd, hq, ho, hn, hR, ht, hU, hl, hut, -⟩ := hD
  have sm : ∀ k m, tr_isN w k m → tr_Same w w0 m := fun k m hm => by rw [h0]; exact tr_sq_same hW hq hm
  obtain ⟨R0, b0, l0⟩ := tr_okR_all hR sm
  exact ⟨by rw [h0]; exact tr_sq_Wi hW hq, R0, tr_Ub_all hR hU (fun k m hm => (sm k m hm).1) b0, tr_okL_same ht (sm _ _ ht.1), l0, (sm _ _ ht.1).stp⟩
/-- what an append says -/
def tr_Ap (cJ cL cB M d : Nat) (Z : Int32 → Prop) (w w' : tr_W) (q r t o n r1 t1 : Nat) (v : Int64) : Prop := tr_Df cJ cL cB M d Z w' q r1 t1 o (n + 1) ∧ tr_Kp d q w w' ∧ (∀ x, x < 32768 → tr_vl w' r1 t1 (tr_tb o (n + 1)) x = if x = (o + n) % 32768 then v else tr_vl w r t (tr_tb o n) x) ∧ tr_stp w' t1 = nI d
theorem tr_ap {Z : Int32 → Prop} {cJ cL cB M d q r t r0 t0 o n r1 t1 : Nat} {w w1 w' : tr_W} {v : Int64} (hK : tr_Kp d q w w1) (hV : ∀ x, x < 32768 → tr_vl w1 r0 t0 (tr_tb o (n + 1)) x = tr_vl w r t (tr_tb o n) x) (h : tr_Wr cJ cL cB M d Z w1 w' q r0 t0 o (n + 1) ((o + n) % 32768) r1 t1 v) : tr_Ap cJ cL cB M d Z w w' q r t o n r1 t1 v :=
  ⟨h.1, hK.tr h.2.1, fun x hx => by rw [h.2.2.1 x hx, hV x hx], h.2.2.2 (tr_tb1 o n)⟩

set_option maxHeartbeats 4000000 in
set_option maxRecDepth 100000 in
theorem c_Q_append (l : Launch) {Z : Int32 → Prop} (G : g_G) (w : xw_W) (M d q r t o n : Nat) (v : Int64) (hD : tr_Df (G.2.1 0) (G.2.1 1) (G.2.1 2) M d Z w q r t o n) (hn1 : n < 3000) : Met l ny_Q_append nw_Q_append ({ frames := 5, cells := 6, slots := 102, locals := 127 }) (g_Pc G w [.ref q, .long v]) (g_Qv G (fun w' => ∃ r1 t1, tr_Ap (G.2.1 0) (G.2.1 1) (G.2.1 2) M d Z w w' q r t o n r1 t1 v)) 6 102 (xw_A (g_b G)) := by
  refine g_met (by decide) (Nat.le_of_ble_eq_true rfl) rfl ?_
  intro p e s m below meth c ls hx hb hr hts hown hlocks hin hml hl hK hB hw hS
  have hT : ∀ w ∈ nw_T, w.before _ s = true := fun w h => hts w (List.mem_cons_of_mem _ h)
  have hown : s.vm.findClass "RadixShelf$Sequence" = some m.cls := hown
  have hl : lv_has ls 6 [(0, .ref q), (1, .long v)] := hl
  obtain ⟨hW, hd, hq, ho, hn, hR, ht, hU, hul, hut, hz, hav⟩ := id hD
  have hq0 := hq
  have hTl := tr_tb_lt o n
  have hTl1 := tr_tb_lt o (n + 1)
  refine lv_aload_n hx hb nd_Q_append_0 rfl (lv_at hl 0 rfl) ?_
  refine lv_aload_n hx hb nd_Q_append_1 rfl (lv_at hl 0 rfl) ?_
  refine xw_get (T := nT_Q) (N := 5) (ci := 3) hx hb hT nu_Q hown hK.1 hw hq rfl 4 (by decide) (hT _ nh_fl_Q_26) (fun _ h9 => h9) rfl nd_Q_append_2 ?_
  refine g_calli (va_runV (As := [.int (nI n)]) (rest := []) ⟨hx, hb, hml, hown, hts⟩ (c_Q_position l G w q r t o (nI d) (nI n) (nI n) ho hq) (cwV (C := nR_Q) 1 hts (nw_of (nw_4 nh_ml_Q_29 nh_im_Q_position nh_se_Q_position nh_in_Q nh_co_Q_position)) rfl rfl rfl (by decide +kernel) ⟨Nat.le_of_ble_eq_true rfl, Nat.le_of_ble_eq_true rfl⟩) (g_preV (ci := 3) (q := (nR_Q, nT_Q, 5)) hK hw hS rfl hq _) rfl rfl hl.1 rfl (lv_room (Nat.le_of_ble_eq_true rfl)) nd_Q_append_5 ⟨by exact Nat.le_of_ble_eq_true rfl, by exact Nat.le_of_ble_eq_true rfl⟩) hS (fun v1 w1 H locs hp hw hS => ?_)
  obtain ⟨rfl, hw9⟩ := hp
  rw [hw9] at hw
  refine lv_topi (fun y2 ey3 => ?_)
  obtain rfl : y2 = nI ((o + n) % 32768) := ey3.trans (by rw [pk_tn (by omega)])
  refine lv_istore_n hx hb nd_Q_append_8 rfl hl (by decide) (lv' := [(3, .int (nI ((o + n) % 32768))), (0, .ref q), (1, .long v)]) rfl (fun ls hl => ?_)
  refine lv_iload_n hx hb nd_Q_append_9 rfl (lv_at hl 0 rfl) ?_
  refine lv_iconst (v := 5) hx hb nd_Q_append_10 (by decide) ?_
  refine lv_iushr (v := nI (tr_tb o (n + 1))) hx hb nd_Q_append_11 ((tr_ush5 (by omega)).trans (congrArg nI (tr_tb1 o n))) ?_
  refine lv_istore hx hb nd_Q_append_12 hl (by decide) (lv' := [(4, .int (nI (tr_tb o (n + 1)))), (3, .int (nI ((o + n) % 32768))), (0, .ref q), (1, .long v)]) rfl (fun ls hl => ?_)
  refine lv_aload_n hx hb nd_Q_append_14 rfl (lv_at hl 2 rfl) ?_
  refine g_calli (va_runV (As := []) (rest := []) ⟨hx, hb, hml, hown, hts⟩ (c_Q_tailBlock l G w q r t o n (nI d) ho hn hq) (cwV (C := nR_Q) 0 hts (nw_of (nw_4 nh_ml_Q_43 nh_im_Q_tailBlock nh_se_Q_tailBlock nh_in_Q nh_co_Q_tailBlock)) rfl rfl rfl (by decide +kernel) ⟨Nat.le_of_ble_eq_true rfl, Nat.le_of_ble_eq_true rfl⟩) (g_preV (ci := 3) (q := (nR_Q, nT_Q, 5)) hK hw hS rfl hq _) rfl rfl hl.1 rfl (lv_room (Nat.le_of_ble_eq_true rfl)) nd_Q_append_15 ⟨by exact Nat.le_of_ble_eq_true rfl, by exact Nat.le_of_ble_eq_true rfl⟩) hS (fun v2 w4 H locs hp hw hS => ?_)
  obtain ⟨rfl, hw9⟩ := hp
  rw [hw9] at hw
  refine lv_istore hx hb nd_Q_append_18 hl (by decide) (lv' := [(5, .int (nI (tr_tb o n))), (4, .int (nI (tr_tb o (n + 1)))), (3, .int (nI ((o + n) % 32768))), (0, .ref q), (1, .long v)]) rfl (fun ls hl => ?_)
  refine lv_aload_n hx hb nd_Q_append_20 rfl (lv_at hl 3 rfl) ?_
  refine lv_dup hx hb nd_Q_append_21 rfl ?_
  refine xw_get (T := nT_Q) (N := 5) (ci := 3) hx hb hT nu_Q hown hK.1 hw hq rfl 4 (by decide) (hT _ nh_fl_Q_26) (fun _ h9 => h9) rfl nd_Q_append_22 ?_
  refine lv_iconst (v := 1) hx hb nd_Q_append_25 (by decide) ?_
  refine lv_iadd hx hb nd_Q_append_26 ?_
  refine lv_topi (fun y5 ey6 => ?_)
  obtain rfl : y5 = nI (n + 1) := ey6.trans (nI_1 n)
  refine xw_put (T := nT_Q) (N := 5) (ci := 3) (v := .int (nI (n + 1))) (ty := .int) hx hb hT nu_Q nt_Q nk_Q nn_Q hown hK.1 hB hw hS hq rfl 4 (by decide) (hT _ nh_fl_Q_26) (fun _ h9 => h9) rfl (by decide +kernel) rfl rfl (Nat.le_of_ble_eq_true rfl) nd_Q_append_27 (fun H locs hw hS => ?_)
  obtain ⟨w7, ew8⟩ : ∃ z, z = va_up w q (some (.inr (3, [.int (nI d), .ref r, .ref t, .int (nI o), .int (nI (n + 1))]))) := ⟨_, rfl⟩
  have hw : g_P G w7 H := by rw [ew8]; exact hw
  have hq : w7 q = some (.inr (3, [.int (nI d), .ref r, .ref t, .int (nI o), .int (nI (n + 1))])) := by rw [ew8]; exact va_up_self _ _ _
  refine lv_iload hx hb nd_Q_append_30 (lv_at hl 1 rfl) ?_
  refine lv_iload hx hb nd_Q_append_32 (lv_at hl 0 rfl) ?_
  obtain ⟨W1, R1, U1, L1, l1, s1⟩ := tr_seq0 hD ew8
  refine lv_icmp_eq (tgt := 60) hx hb nd_Q_append_34 (by decide) (fun hc => ?_) (fun hc => ?_)
  · have hTe : tr_tb o (n + 1) = tr_tb o n := (nI_eq (by omega) (by omega)).mp hc
    obtain ⟨D0, K0, V0⟩ := tr_Df_seq hD ho (by omega) hTe ew8
    refine lv_aload_n hx hb nd_Q_append_60 rfl (lv_at hl 3 rfl) ?_
    refine lv_iload_n hx hb nd_Q_append_61 rfl (lv_at hl 2 rfl) ?_
    refine lv_lload_n hx hb nd_Q_append_62 rfl (lv_at hl 4 rfl) ?_
    refine g_callv (va_runV (As := [.int (nI ((o + n) % 32768)), .long v]) (rest := []) ⟨hx, hb, hml, hown, hts⟩ (c_Q_writeT l G w7 M d q r t o (n + 1) ((o + n) % 32768) v D0 (by omega) (tr_tb1 o n)) (cwV (C := nR_Q) 2 hts (nw_of (nw_4 nh_ml_Q_54 nh_im_Q_write nh_se_Q_write nh_in_Q nh_co_Q_write)) rfl rfl rfl (by decide +kernel) ⟨Nat.le_of_ble_eq_true rfl, Nat.le_of_ble_eq_true rfl⟩) (g_preV (ci := 3) (q := (nR_Q, nT_Q, 5)) hK hw hS rfl hq _) rfl rfl hl.1 rfl (lv_room (Nat.le_of_ble_eq_true rfl)) nd_Q_append_63 ⟨by exact Nat.le_of_ble_eq_true rfl, by exact Nat.le_of_ble_eq_true rfl⟩) hS (fun w9 H locs hp hw hS => ?_)
    obtain ⟨r1, t1, hWr⟩ := hp
    exact g_vret hx hb hr hlocks hw hS (⟨r1, t1, tr_ap K0 V0 hWr⟩) (by exact Nat.le_of_ble_eq_true rfl) (by exact Nat.le_of_ble_eq_true rfl) nd_Q_append_66
  · refine lv_aload_n hx hb nd_Q_append_37 rfl (lv_at hl 3 rfl) ?_
    refine lv_iload hx hb nd_Q_append_38 (lv_at hl 0 rfl) ?_
    refine lv_aload_n hx hb nd_Q_append_40 rfl (lv_at hl 3 rfl) ?_
    refine xw_get (T := nT_Q) (N := 5) (ci := 3) hx hb hT nu_Q hown hK.1 hw hq rfl 2 (by decide) (hT _ nh_fl_Q_19) (fun _ h9 => h9) rfl nd_Q_append_41 ?_
    refine g_callv (va_runV (As := [.int (nI (tr_tb o n)), .ref t]) (rest := []) ⟨hx, hb, hml, hown, hts⟩ (c_Q_hang l G w7 M d q r t (tr_tb o n) t (nI o) (nI (n + 1)) W1 hd hq R1 U1 L1 hTl) (cwV (C := nR_Q) 2 hts (nw_of (nw_4 nh_ml_Q_47 nh_im_Q_hang nh_se_Q_hang nh_in_Q nh_co_Q_hang)) rfl rfl rfl (by decide +kernel) ⟨Nat.le_of_ble_eq_true rfl, Nat.le_of_ble_eq_true rfl⟩) (g_preV (ci := 3) (q := (nR_Q, nT_Q, 5)) hK hw hS rfl hq _) rfl rfl hl.1 rfl (lv_room (Nat.le_of_ble_eq_true rfl)) nd_Q_append_44 ⟨by exact Nat.le_of_ble_eq_true rfl, by exact Nat.le_of_ble_eq_true rfl⟩) hS (fun w9 H locs hp hw hS => ?_)
    obtain ⟨r1, hG⟩ := hp
    have hne : tr_tb o (n + 1) ≠ tr_tb o n := fun z => hc (by rw [z])
    have hq : w9 q = some (.inr (3, [.int (nI d), .ref r1, .ref t, .int (nI o), .int (nI (n + 1))])) := hG.1
    have hr1 : w9 r1 = some (.inr (2, [.int (tr_stp w9 r1), .ref (tr_arr w9 r1)])) := hG.2.1.1.cell
    refine lv_aload_n hx hb nd_Q_append_47 rfl (lv_at hl 3 rfl) ?_
    refine lv_aload_n hx hb nd_Q_append_48 rfl (lv_at hl 3 rfl) ?_
    refine xw_get (T := nT_Q) (N := 5) (ci := 3) hx hb hT nu_Q hown hK.1 hw hq rfl 1 (by decide) (hT _ nh_fl_Q_15) (fun _ h9 => h9) rfl nd_Q_append_49 ?_
    refine lv_iload hx hb nd_Q_append_52 (lv_at hl 1 rfl) ?_
    refine g_callr (va_runV (As := [.int (nI (tr_tb o (n + 1)))]) (rest := [.ref q]) ⟨hx, hb, hml, hown, hts⟩ (c_R_leafOf l G w9 r1 (tr_tb o (n + 1)) hG.2.1 hTl1) (cwV (C := nR_R) 1 hts (nw_of (nw_4 nh_ml_Q_51 nh_im_R_leafOf nh_se_R_leafOf nh_in_R nh_co_R_leafOf)) rfl rfl rfl (by decide +kernel) ⟨Nat.le_of_ble_eq_true rfl, Nat.le_of_ble_eq_true rfl⟩) (g_preV (ci := 2) (q := (nR_R, nT_R, 2)) hK hw hS rfl hr1 _) rfl rfl hl.1 rfl (lv_room (Nat.le_of_ble_eq_true rfl)) nd_Q_append_54 ⟨by exact Nat.le_of_ble_eq_true rfl, by exact Nat.le_of_ble_eq_true rfl⟩) hS (fun v3 w10 H locs hp hw hS => ?_)
    obtain ⟨rfl, hw9⟩ := hp
    rw [hw9] at hw
    refine xw_put (T := nT_Q) (N := 5) (ci := 3) (v := .ref (tr_lfb w9 r1 (tr_tb o (n + 1)))) (ty := (.object "RadixShelf$Leaf")) hx hb hT nu_Q nt_Q nk_Q nn_Q hown hK.1 hB hw hS hq rfl 2 (by decide) (hT _ nh_fl_Q_19) (fun _ h9 => h9) rfl (by decide +kernel) rfl rfl (Nat.le_of_ble_eq_true rfl) nd_Q_append_57 (fun H locs hw hS => ?_)
    obtain ⟨w11, ew12⟩ : ∃ z, z = va_up w9 q (some (.inr (3, [.int (nI d), .ref r1, .ref (tr_lfb w9 r1 (tr_tb o (n + 1))), .int (nI o), .int (nI (n + 1))]))) := ⟨_, rfl⟩
    have hw : g_P G w11 H := by rw [ew12]; exact hw
    have hr1 : w11 r1 = some (.inr (2, [.int (tr_stp w9 r1), .ref (tr_arr w9 r1)])) := by rw [ew12, va_up_ne _ _ (xw_ne hr1 hq (by simp))]; exact hr1
    have hq : w11 q = some (.inr (3, [.int (nI d), .ref r1, .ref (tr_lfb w9 r1 (tr_tb o (n + 1))), .int (nI o), .int (nI (n + 1))])) := by rw [ew12]; exact va_up_self _ _ _
    refine lv_aload_n hx hb nd_Q_append_60 rfl (lv_at hl 3 rfl) ?_
    refine lv_iload_n hx hb nd_Q_append_61 rfl (lv_at hl 2 rfl) ?_
    refine lv_lload_n hx hb nd_Q_append_62 rfl (lv_at hl 4 rfl) ?_
    obtain ⟨D2, K2, V2⟩ := tr_next hD hn1 hne ew8 hG ew12
    refine g_callv (va_runV (As := [.int (nI ((o + n) % 32768)), .long v]) (rest := []) ⟨hx, hb, hml, hown, hts⟩ (c_Q_writeT l G w11 M d q r1 (tr_lfb w9 r1 (tr_tb o (n + 1))) o (n + 1) ((o + n) % 32768) v D2 (by omega) (tr_tb1 o n)) (cwV (C := nR_Q) 2 hts (nw_of (nw_4 nh_ml_Q_54 nh_im_Q_write nh_se_Q_write nh_in_Q nh_co_Q_write)) rfl rfl rfl (by decide +kernel) ⟨Nat.le_of_ble_eq_true rfl, Nat.le_of_ble_eq_true rfl⟩) (g_preV (ci := 3) (q := (nR_Q, nT_Q, 5)) hK hw hS rfl hq _) rfl rfl hl.1 rfl (lv_room (Nat.le_of_ble_eq_true rfl)) nd_Q_append_63 ⟨by exact Nat.le_of_ble_eq_true rfl, by exact Nat.le_of_ble_eq_true rfl⟩) hS (fun w13 H locs hp hw hS => ?_)
    obtain ⟨r2, t2, hWr⟩ := hp
    exact g_vret hx hb hr hlocks hw hS (⟨r2, t2, tr_ap K2 V2 hWr⟩) (by exact Nat.le_of_ble_eq_true rfl) (by exact Nat.le_of_ble_eq_true rfl) nd_Q_append_66

set_option maxHeartbeats 4000000 in
set_option maxRecDepth 100000 in
theorem c_Q_append0 (l : Launch) {Z : Int32 → Prop} (G : g_G) (w : xw_W) (M d q r t o n : Nat) (v : Int64) (hD : tr_Df (G.2.1 0) (G.2.1 1) (G.2.1 2) M d Z w q r t o n) (hn1 : n < 3000) (hTe0 : tr_tb o (n + 1) = tr_tb o n) (hs0 : tr_stp w t = nI d) : Met l ny_Q_append nw_Q_append ({ frames := 4, cells := 0, slots := 0, locals := 87 }) (g_Pc G w [.ref q, .long v]) (g_Qv G (fun w' => ∃ r1 t1, tr_Ap (G.2.1 0) (G.2.1 1) (G.2.1 2) M d Z w w' q r t o n r1 t1 v)) 0 0 (xw_A (g_b G)) := by
  refine g_met (by decide) (Nat.le_of_ble_eq_true rfl) rfl ?_
  intro p e s m below meth c ls hx hb hr hts hown hlocks hin hml hl hK hB hw hS
  have hT : ∀ w ∈ nw_T, w.before _ s = true := fun w h => hts w (List.mem_cons_of_mem _ h)
  have hown : s.vm.findClass "RadixShelf$Sequence" = some m.cls := hown
  have hl : lv_has ls 6 [(0, .ref q), (1, .long v)] := hl
  obtain ⟨hW, hd, hq, ho, hn, hR, ht, hU, hul, hut, hz, hav⟩ := id hD
  have hq0 := hq
  have hTl := tr_tb_lt o n
  have hTl1 := tr_tb_lt o (n + 1)
  refine lv_aload_n hx hb nd_Q_append_0 rfl (lv_at hl 0 rfl) ?_
  refine lv_aload_n hx hb nd_Q_append_1 rfl (lv_at hl 0 rfl) ?_
  refine xw_get (T := nT_Q) (N := 5) (ci := 3) hx hb hT nu_Q hown hK.1 hw hq rfl 4 (by decide) (hT _ nh_fl_Q_26) (fun _ h9 => h9) rfl nd_Q_append_2 ?_
  refine g_calli (va_runV (As := [.int (nI n)]) (rest := []) ⟨hx, hb, hml, hown, hts⟩ (c_Q_position l G w q r t o (nI d) (nI n) (nI n) ho hq) (cwV (C := nR_Q) 1 hts (nw_of (nw_4 nh_ml_Q_29 nh_im_Q_position nh_se_Q_position nh_in_Q nh_co_Q_position)) rfl rfl rfl (by decide +kernel) ⟨Nat.le_of_ble_eq_true rfl, Nat.le_of_ble_eq_true rfl⟩) (g_preV (ci := 3) (q := (nR_Q, nT_Q, 5)) hK hw hS rfl hq _) rfl rfl hl.1 rfl (lv_room (Nat.le_of_ble_eq_true rfl)) nd_Q_append_5 ⟨by exact Nat.le_of_ble_eq_true rfl, by exact Nat.le_of_ble_eq_true rfl⟩) hS (fun v1 w1 H locs hp hw hS => ?_)
  obtain ⟨rfl, hw9⟩ := hp
  rw [hw9] at hw
  refine lv_topi (fun y2 ey3 => ?_)
  obtain rfl : y2 = nI ((o + n) % 32768) := ey3.trans (by rw [pk_tn (by omega)])
  refine lv_istore_n hx hb nd_Q_append_8 rfl hl (by decide) (lv' := [(3, .int (nI ((o + n) % 32768))), (0, .ref q), (1, .long v)]) rfl (fun ls hl => ?_)
  refine lv_iload_n hx hb nd_Q_append_9 rfl (lv_at hl 0 rfl) ?_
  refine lv_iconst (v := 5) hx hb nd_Q_append_10 (by decide) ?_
  refine lv_iushr (v := nI (tr_tb o (n + 1))) hx hb nd_Q_append_11 ((tr_ush5 (by omega)).trans (congrArg nI (tr_tb1 o n))) ?_
  refine lv_istore hx hb nd_Q_append_12 hl (by decide) (lv' := [(4, .int (nI (tr_tb o (n + 1)))), (3, .int (nI ((o + n) % 32768))), (0, .ref q), (1, .long v)]) rfl (fun ls hl => ?_)
  refine lv_aload_n hx hb nd_Q_append_14 rfl (lv_at hl 2 rfl) ?_
  refine g_calli (va_runV (As := []) (rest := []) ⟨hx, hb, hml, hown, hts⟩ (c_Q_tailBlock l G w q r t o n (nI d) ho hn hq) (cwV (C := nR_Q) 0 hts (nw_of (nw_4 nh_ml_Q_43 nh_im_Q_tailBlock nh_se_Q_tailBlock nh_in_Q nh_co_Q_tailBlock)) rfl rfl rfl (by decide +kernel) ⟨Nat.le_of_ble_eq_true rfl, Nat.le_of_ble_eq_true rfl⟩) (g_preV (ci := 3) (q := (nR_Q, nT_Q, 5)) hK hw hS rfl hq _) rfl rfl hl.1 rfl (lv_room (Nat.le_of_ble_eq_true rfl)) nd_Q_append_15 ⟨by exact Nat.le_of_ble_eq_true rfl, by exact Nat.le_of_ble_eq_true rfl⟩) hS (fun v2 w4 H locs hp hw hS => ?_)
  obtain ⟨rfl, hw9⟩ := hp
  rw [hw9] at hw
  refine lv_istore hx hb nd_Q_append_18 hl (by decide) (lv' := [(5, .int (nI (tr_tb o n))), (4, .int (nI (tr_tb o (n + 1)))), (3, .int (nI ((o + n) % 32768))), (0, .ref q), (1, .long v)]) rfl (fun ls hl => ?_)
  refine lv_aload_n hx hb nd_Q_append_20 rfl (lv_at hl 3 rfl) ?_
  refine lv_dup hx hb nd_Q_append_21 rfl ?_
  refine xw_get (T := nT_Q) (N := 5) (ci := 3) hx hb hT nu_Q hown hK.1 hw hq rfl 4 (by decide) (hT _ nh_fl_Q_26) (fun _ h9 => h9) rfl nd_Q_append_22 ?_
  refine lv_iconst (v := 1) hx hb nd_Q_append_25 (by decide) ?_
  refine lv_iadd hx hb nd_Q_append_26 ?_
  refine lv_topi (fun y5 ey6 => ?_)
  obtain rfl : y5 = nI (n + 1) := ey6.trans (nI_1 n)
  refine xw_put (T := nT_Q) (N := 5) (ci := 3) (v := .int (nI (n + 1))) (ty := .int) hx hb hT nu_Q nt_Q nk_Q nn_Q hown hK.1 hB hw hS hq rfl 4 (by decide) (hT _ nh_fl_Q_26) (fun _ h9 => h9) rfl (by decide +kernel) rfl rfl (Nat.le_of_ble_eq_true rfl) nd_Q_append_27 (fun H locs hw hS => ?_)
  obtain ⟨w7, ew8⟩ : ∃ z, z = va_up w q (some (.inr (3, [.int (nI d), .ref r, .ref t, .int (nI o), .int (nI (n + 1))]))) := ⟨_, rfl⟩
  have hw : g_P G w7 H := by rw [ew8]; exact hw
  have hq : w7 q = some (.inr (3, [.int (nI d), .ref r, .ref t, .int (nI o), .int (nI (n + 1))])) := by rw [ew8]; exact va_up_self _ _ _
  refine lv_iload hx hb nd_Q_append_30 (lv_at hl 1 rfl) ?_
  refine lv_iload hx hb nd_Q_append_32 (lv_at hl 0 rfl) ?_
  obtain ⟨W1, R1, U1, L1, l1, s1⟩ := tr_seq0 hD ew8
  refine lv_icmp_eq (tgt := 60) hx hb nd_Q_append_34 (by decide) (fun hc => ?_) (fun hc => ?_)
  · have hTe : tr_tb o (n + 1) = tr_tb o n := (nI_eq (by omega) (by omega)).mp hc
    obtain ⟨D0, K0, V0⟩ := tr_Df_seq hD ho (by omega) hTe ew8
    refine lv_aload_n hx hb nd_Q_append_60 rfl (lv_at hl 3 rfl) ?_
    refine lv_iload_n hx hb nd_Q_append_61 rfl (lv_at hl 2 rfl) ?_
    refine lv_lload_n hx hb nd_Q_append_62 rfl (lv_at hl 4 rfl) ?_
    refine g_callv (va_runV (As := [.int (nI ((o + n) % 32768)), .long v]) (rest := []) ⟨hx, hb, hml, hown, hts⟩ (c_Q_write0 l G w7 M d q r t o (n + 1) ((o + n) % 32768) v D0 (by omega) (tr_tb1 o n) (by rw [s1]; exact hs0)) (cwV (C := nR_Q) 2 hts (nw_of (nw_4 nh_ml_Q_54 nh_im_Q_write nh_se_Q_write nh_in_Q nh_co_Q_write)) rfl rfl rfl (by decide +kernel) ⟨Nat.le_of_ble_eq_true rfl, Nat.le_of_ble_eq_true rfl⟩) (g_preV (ci := 3) (q := (nR_Q, nT_Q, 5)) hK hw hS rfl hq _) rfl rfl hl.1 rfl (lv_room (Nat.le_of_ble_eq_true rfl)) nd_Q_append_63 ⟨by exact Nat.le_of_ble_eq_true rfl, by exact Nat.le_of_ble_eq_true rfl⟩) hS (fun w9 H locs hp hw hS => ?_)
    obtain ⟨r1, t1, hWr⟩ := hp
    exact g_vret hx hb hr hlocks hw hS (⟨r1, t1, tr_ap K0 V0 hWr⟩) (by exact Nat.le_of_ble_eq_true rfl) (by exact Nat.le_of_ble_eq_true rfl) nd_Q_append_66
  · exact absurd (by rw [hTe0]) hc

set_option maxHeartbeats 4000000 in
set_option maxRecDepth 100000 in
theorem c_Q_prepend (l : Launch) {Z : Int32 → Prop} (G : g_G) (w : xw_W) (M d q r t o n : Nat) (v : Int64) (hD : tr_Df (G.2.1 0) (G.2.1 1) (G.2.1 2) M d Z w q r t o n) (hn1 : n < 3000) : Met l ny_Q_prepend nw_Q_prepend ({ frames := 6, cells := 6, slots := 102, locals := 127 }) (g_Pc G w [.ref q, .long v]) (g_Qv G (fun w' => ∃ r1 t1, tr_Df (G.2.1 0) (G.2.1 1) (G.2.1 2) M d Z w' q r1 t1 ((o + 32767) % 32768) (n + 1) ∧ tr_Kp d q w w' ∧ ∀ x, x < 32768 → tr_vl w' r1 t1 (tr_tb ((o + 32767) % 32768) (n + 1)) x = if x = (o + 32767) % 32768 then v else tr_vl w r t (tr_tb o n) x)) 6 102 (xw_A (g_b G)) := by
  refine g_met (by decide) (Nat.le_of_ble_eq_true rfl) rfl ?_
  intro p e s m below meth c ls hx hb hr hts hown hlocks hin hml hl hK hB hw hS
  have hT : ∀ w ∈ nw_T, w.before _ s = true := fun w h => hts w (List.mem_cons_of_mem _ h)
  have hown : s.vm.findClass "RadixShelf$Sequence" = some m.cls := hown
  have hl : lv_has ls 3 [(0, .ref q), (1, .long v)] := hl
  obtain ⟨hW, hd, hq, ho, hn, hR, ht, hU, hul, hut, hz, hav⟩ := id hD
  have hq0 := hq
  refine lv_aload_n hx hb nd_Q_prepend_0 rfl (lv_at hl 0 rfl) ?_
  refine lv_aload_n hx hb nd_Q_prepend_1 rfl (lv_at hl 0 rfl) ?_
  refine lv_iconst (v := (-1)) hx hb nd_Q_prepend_2 (by decide) ?_
  refine g_calli (va_runV (As := [.int (-1)]) (rest := [.ref q]) ⟨hx, hb, hml, hown, hts⟩ (c_Q_position l G w q r t o (nI d) (nI n) (-1) ho hq) (cwV (C := nR_Q) 1 hts (nw_of (nw_4 nh_ml_Q_29 nh_im_Q_position nh_se_Q_position nh_in_Q nh_co_Q_position)) rfl rfl rfl (by decide +kernel) ⟨Nat.le_of_ble_eq_true rfl, Nat.le_of_ble_eq_true rfl⟩) (g_preV (ci := 3) (q := (nR_Q, nT_Q, 5)) hK hw hS rfl hq _) rfl rfl hl.1 rfl (lv_room (Nat.le_of_ble_eq_true rfl)) nd_Q_prepend_3 ⟨by exact Nat.le_of_ble_eq_true rfl, by exact Nat.le_of_ble_eq_true rfl⟩) hS (fun v1 w1 H locs hp hw hS => ?_)
  obtain ⟨rfl, hw9⟩ := hp
  rw [hw9] at hw
  refine lv_topi (fun y2 ey3 => ?_)
  obtain rfl : y2 = nI ((o + 32767) % 32768) := ey3.trans (by rw [show (-1 : Int32).toBitVec.toNat = 4294967295 by decide]; congr 1; omega)
  refine xw_put (T := nT_Q) (N := 5) (ci := 3) (v := .int (nI ((o + 32767) % 32768))) (ty := .int) hx hb hT nu_Q nt_Q nk_Q nn_Q hown hK.1 hB hw hS hq rfl 3 (by decide) (hT _ nh_fl_Q_23) (fun _ h9 => h9) rfl (by decide +kernel) rfl rfl (Nat.le_of_ble_eq_true rfl) nd_Q_prepend_6 (fun H locs hw hS => ?_)
  obtain ⟨w4, ew5⟩ : ∃ z, z = va_up w q (some (.inr (3, [.int (nI d), .ref r, .ref t, .int (nI ((o + 32767) % 32768)), .int (nI n)]))) := ⟨_, rfl⟩
  have hw : g_P G w4 H := by rw [ew5]; exact hw
  have hq : w4 q = some (.inr (3, [.int (nI d), .ref r, .ref t, .int (nI ((o + 32767) % 32768)), .int (nI n)])) := by rw [ew5]; exact va_up_self _ _ _
  refine lv_aload_n hx hb nd_Q_prepend_9 rfl (lv_at hl 0 rfl) ?_
  refine lv_dup hx hb nd_Q_prepend_10 rfl ?_
  refine xw_get (T := nT_Q) (N := 5) (ci := 3) hx hb hT nu_Q hown hK.1 hw hq rfl 4 (by decide) (hT _ nh_fl_Q_26) (fun _ h9 => h9) rfl nd_Q_prepend_11 ?_
  refine lv_iconst (v := 1) hx hb nd_Q_prepend_14 (by decide) ?_
  refine lv_iadd hx hb nd_Q_prepend_15 ?_
  refine lv_topi (fun y6 ey7 => ?_)
  obtain rfl : y6 = nI (n + 1) := ey7.trans (nI_1 n)
  refine xw_put (T := nT_Q) (N := 5) (ci := 3) (v := .int (nI (n + 1))) (ty := .int) hx hb hT nu_Q nt_Q nk_Q nn_Q hown hK.1 hB hw hS hq rfl 4 (by decide) (hT _ nh_fl_Q_26) (fun _ h9 => h9) rfl (by decide +kernel) rfl rfl (Nat.le_of_ble_eq_true rfl) nd_Q_prepend_16 (fun H locs hw hS => ?_)
  obtain ⟨w8, ew9⟩ : ∃ z, z = va_up w4 q (some (.inr (3, [.int (nI d), .ref r, .ref t, .int (nI ((o + 32767) % 32768)), .int (nI (n + 1))]))) := ⟨_, rfl⟩
  have hw : g_P G w8 H := by rw [ew9]; exact hw
  have hq : w8 q = some (.inr (3, [.int (nI d), .ref r, .ref t, .int (nI ((o + 32767) % 32768)), .int (nI (n + 1))])) := by rw [ew9]; exact va_up_self _ _ _
  refine lv_aload_n hx hb nd_Q_prepend_19 rfl (lv_at hl 0 rfl) ?_
  refine lv_aload_n hx hb nd_Q_prepend_20 rfl (lv_at hl 0 rfl) ?_
  refine xw_get (T := nT_Q) (N := 5) (ci := 3) hx hb hT nu_Q hown hK.1 hw hq rfl 3 (by decide) (hT _ nh_fl_Q_23) (fun _ h9 => h9) rfl nd_Q_prepend_21 ?_
  refine lv_lload_n hx hb nd_Q_prepend_24 rfl (lv_at hl 1 rfl) ?_
  have e9 : w8 = va_up w q (some (tr_S (nI d) r t (nI ((o + 32767) % 32768)) (nI (n + 1)))) := by rw [ew9, ew5, bx_uu]
  obtain ⟨D0, K0, V0⟩ := tr_Df_seq hD (by omega) (by omega) (tr_tbp o n) e9
  refine g_callv (va_runV (As := [.int (nI ((o + 32767) % 32768)), .long v]) (rest := []) ⟨hx, hb, hml, hown, hts⟩ (c_Q_write l G w8 M d q r t ((o + 32767) % 32768) (n + 1) ((o + 32767) % 32768) v D0 (by omega)) (cwV (C := nR_Q) 2 hts (nw_of (nw_4 nh_ml_Q_54 nh_im_Q_write nh_se_Q_write nh_in_Q nh_co_Q_write)) rfl rfl rfl (by decide +kernel) ⟨Nat.le_of_ble_eq_true rfl, Nat.le_of_ble_eq_true rfl⟩) (g_preV (ci := 3) (q := (nR_Q, nT_Q, 5)) hK hw hS rfl hq _) rfl rfl hl.1 rfl (lv_room (Nat.le_of_ble_eq_true rfl)) nd_Q_prepend_25 ⟨by exact Nat.le_of_ble_eq_true rfl, by exact Nat.le_of_ble_eq_true rfl⟩) hS (fun w10 H locs hp hw hS => ?_)
  obtain ⟨r1, t1, D1, K1, V1, -⟩ := hp
  exact g_vret hx hb hr hlocks hw hS (⟨r1, t1, D1, K0.tr K1, fun x hx9 => by rw [V1 x hx9, V0 x hx9]⟩) (by exact Nat.le_of_ble_eq_true rfl) (by exact Nat.le_of_ble_eq_true rfl) nd_Q_prepend_28

set_option maxHeartbeats 4000000 in
set_option maxRecDepth 100000 in
theorem c_Q_replace (l : Launch) {Z : Int32 → Prop} (G : g_G) (w : xw_W) (M d q r t o n i : Nat) (v : Int64) (hD : tr_Df (G.2.1 0) (G.2.1 1) (G.2.1 2) M d Z w q r t o n) (hi : i < n) : Met l ny_Q_replace nw_Q_replace ({ frames := 6, cells := 6, slots := 102, locals := 127 }) (g_Pc G w [.ref q, .int (nI i), .long v]) (g_Qv G (fun w' => ∃ r1 t1, tr_Df (G.2.1 0) (G.2.1 1) (G.2.1 2) M d Z w' q r1 t1 o n ∧ tr_Kp d q w w' ∧ ∀ x, x < 32768 → tr_vl w' r1 t1 (tr_tb o n) x = if x = (o + i) % 32768 then v else tr_vl w r t (tr_tb o n) x)) 6 102 (xw_A (g_b G)) := by
  refine g_met (by decide) (Nat.le_of_ble_eq_true rfl) rfl ?_
  intro p e s m below meth c ls hx hb hr hts hown hlocks hin hml hl hK hB hw hS
  have hT : ∀ w ∈ nw_T, w.before _ s = true := fun w h => hts w (List.mem_cons_of_mem _ h)
  have hown : s.vm.findClass "RadixShelf$Sequence" = some m.cls := hown
  have hl : lv_has ls 4 [(0, .ref q), (1, .int (nI i)), (2, .long v)] := hl
  obtain ⟨hW, hd, hq, ho, hn, hR, ht, hU, hul, hut, hz, hav⟩ := id hD
  have hq0 := hq
  refine lv_aload_n hx hb nd_Q_replace_0 rfl (lv_at hl 0 rfl) ?_
  refine lv_aload_n hx hb nd_Q_replace_1 rfl (lv_at hl 0 rfl) ?_
  refine lv_iload_n hx hb nd_Q_replace_2 rfl (lv_at hl 1 rfl) ?_
  refine g_calli (va_runV (As := [.int (nI i)]) (rest := [.ref q]) ⟨hx, hb, hml, hown, hts⟩ (c_Q_position l G w q r t o (nI d) (nI n) (nI i) ho hq) (cwV (C := nR_Q) 1 hts (nw_of (nw_4 nh_ml_Q_29 nh_im_Q_position nh_se_Q_position nh_in_Q nh_co_Q_position)) rfl rfl rfl (by decide +kernel) ⟨Nat.le_of_ble_eq_true rfl, Nat.le_of_ble_eq_true rfl⟩) (g_preV (ci := 3) (q := (nR_Q, nT_Q, 5)) hK hw hS rfl hq _) rfl rfl hl.1 rfl (lv_room (Nat.le_of_ble_eq_true rfl)) nd_Q_replace_3 ⟨by exact Nat.le_of_ble_eq_true rfl, by exact Nat.le_of_ble_eq_true rfl⟩) hS (fun v1 w1 H locs hp hw hS => ?_)
  obtain ⟨rfl, hw9⟩ := hp
  rw [hw9] at hw
  refine lv_topi (fun y2 ey3 => ?_)
  obtain rfl : y2 = nI ((o + i) % 32768) := ey3.trans (by rw [pk_tn (by omega)])
  refine lv_lload_n hx hb nd_Q_replace_6 rfl (lv_at hl 2 rfl) ?_
  refine g_callv (va_runV (As := [.int (nI ((o + i) % 32768)), .long v]) (rest := []) ⟨hx, hb, hml, hown, hts⟩ (c_Q_write l G w M d q r t o n ((o + i) % 32768) v hD (by omega)) (cwV (C := nR_Q) 2 hts (nw_of (nw_4 nh_ml_Q_54 nh_im_Q_write nh_se_Q_write nh_in_Q nh_co_Q_write)) rfl rfl rfl (by decide +kernel) ⟨Nat.le_of_ble_eq_true rfl, Nat.le_of_ble_eq_true rfl⟩) (g_preV (ci := 3) (q := (nR_Q, nT_Q, 5)) hK hw hS rfl hq _) rfl rfl hl.1 rfl (lv_room (Nat.le_of_ble_eq_true rfl)) nd_Q_replace_7 ⟨by exact Nat.le_of_ble_eq_true rfl, by exact Nat.le_of_ble_eq_true rfl⟩) hS (fun w4 H locs hp hw hS => ?_)
  obtain ⟨r1, t1, D1, K1, V1, -⟩ := hp
  exact g_vret hx hb hr hlocks hw hS (⟨r1, t1, D1, K1, V1⟩) (by exact Nat.le_of_ble_eq_true rfl) (by exact Nat.le_of_ble_eq_true rfl) nd_Q_replace_10

set_option maxHeartbeats 4000000 in
set_option maxRecDepth 100000 in
theorem c_Q_trim (l : Launch) {Z : Int32 → Prop} (G : g_G) (w : xw_W) (M d q r t o n a b : Nat) (hD : tr_Df (G.2.1 0) (G.2.1 1) (G.2.1 2) M d Z w q r t o n) (hab : a + b ≤ n) : Met l ny_Q_trim nw_Q_trim ({ frames := 3, cells := 0, slots := 0, locals := 62 }) (g_Pc G w [.ref q, .int (nI a), .int (nI b)]) (g_Qv G (fun w' => ∃ t1, tr_Df (G.2.1 0) (G.2.1 1) (G.2.1 2) M d Z w' q r t1 ((o + a) % 32768) (n - (a + b)) ∧ tr_Kp d q w w' ∧ ∀ i, i < n - (a + b) → tr_vl w' r t1 (tr_tb ((o + a) % 32768) (n - (a + b))) (((o + a) % 32768 + i) % 32768) = tr_vl w r t (tr_tb o n) ((o + (a + i)) % 32768))) 0 0 (xw_A (g_b G)) := by
  refine g_met (by decide) (Nat.le_of_ble_eq_true rfl) rfl ?_
  intro p e s m below meth c ls hx hb hr hts hown hlocks hin hml hl hK hB hw hS
  have hT : ∀ w ∈ nw_T, w.before _ s = true := fun w h => hts w (List.mem_cons_of_mem _ h)
  have hown : s.vm.findClass "RadixShelf$Sequence" = some m.cls := hown
  have hl : lv_has ls 4 [(0, .ref q), (1, .int (nI a)), (2, .int (nI b))] := hl
  obtain ⟨hW, hd, hq, ho, hn, hR, ht, hU, hul, hut, hz, hav⟩ := id hD
  have hq0 := hq
  have hTl := tr_tb_lt o n
  have hTl1 := tr_tb_lt ((o + a) % 32768) (n - (a + b))
  refine lv_aload_n hx hb nd_Q_trim_0 rfl (lv_at hl 0 rfl) ?_
  refine g_calli (va_runV (As := []) (rest := []) ⟨hx, hb, hml, hown, hts⟩ (c_Q_tailBlock l G w q r t o n (nI d) ho hn hq) (cwV (C := nR_Q) 0 hts (nw_of (nw_4 nh_ml_Q_43 nh_im_Q_tailBlock nh_se_Q_tailBlock nh_in_Q nh_co_Q_tailBlock)) rfl rfl rfl (by decide +kernel) ⟨Nat.le_of_ble_eq_true rfl, Nat.le_of_ble_eq_true rfl⟩) (g_preV (ci := 3) (q := (nR_Q, nT_Q, 5)) hK hw hS rfl hq _) rfl rfl hl.1 rfl (lv_room (Nat.le_of_ble_eq_true rfl)) nd_Q_trim_1 ⟨by exact Nat.le_of_ble_eq_true rfl, by exact Nat.le_of_ble_eq_true rfl⟩) hS (fun v2 w1 H locs hp hw hS => ?_)
  obtain ⟨rfl, hw9⟩ := hp
  rw [hw9] at hw
  refine lv_istore_n hx hb nd_Q_trim_4 rfl hl (by decide) (lv' := [(3, .int (nI (tr_tb o n))), (0, .ref q), (1, .int (nI a)), (2, .int (nI b))]) rfl (fun ls hl => ?_)
  refine lv_aload_n hx hb nd_Q_trim_5 rfl (lv_at hl 1 rfl) ?_
  refine lv_aload_n hx hb nd_Q_trim_6 rfl (lv_at hl 1 rfl) ?_
  refine lv_iload_n hx hb nd_Q_trim_7 rfl (lv_at hl 2 rfl) ?_
  refine g_calli (va_runV (As := [.int (nI a)]) (rest := [.ref q]) ⟨hx, hb, hml, hown, hts⟩ (c_Q_position l G w q r t o (nI d) (nI n) (nI a) ho hq) (cwV (C := nR_Q) 1 hts (nw_of (nw_4 nh_ml_Q_29 nh_im_Q_position nh_se_Q_position nh_in_Q nh_co_Q_position)) rfl rfl rfl (by decide +kernel) ⟨Nat.le_of_ble_eq_true rfl, Nat.le_of_ble_eq_true rfl⟩) (g_preV (ci := 3) (q := (nR_Q, nT_Q, 5)) hK hw hS rfl hq _) rfl rfl hl.1 rfl (lv_room (Nat.le_of_ble_eq_true rfl)) nd_Q_trim_8 ⟨by exact Nat.le_of_ble_eq_true rfl, by exact Nat.le_of_ble_eq_true rfl⟩) hS (fun v1 w2 H locs hp hw hS => ?_)
  obtain ⟨rfl, hw9⟩ := hp
  rw [hw9] at hw
  refine lv_topi (fun y3 ey4 => ?_)
  obtain rfl : y3 = nI ((o + a) % 32768) := ey4.trans (by rw [pk_tn (by omega)])
  refine xw_put (T := nT_Q) (N := 5) (ci := 3) (v := .int (nI ((o + a) % 32768))) (ty := .int) hx hb hT nu_Q nt_Q nk_Q nn_Q hown hK.1 hB hw hS hq rfl 3 (by decide) (hT _ nh_fl_Q_23) (fun _ h9 => h9) rfl (by decide +kernel) rfl rfl (Nat.le_of_ble_eq_true rfl) nd_Q_trim_11 (fun H locs hw hS => ?_)
  obtain ⟨w5, ew6⟩ : ∃ z, z = va_up w q (some (.inr (3, [.int (nI d), .ref r, .ref t, .int (nI ((o + a) % 32768)), .int (nI n)]))) := ⟨_, rfl⟩
  have hw : g_P G w5 H := by rw [ew6]; exact hw
  have hq : w5 q = some (.inr (3, [.int (nI d), .ref r, .ref t, .int (nI ((o + a) % 32768)), .int (nI n)])) := by rw [ew6]; exact va_up_self _ _ _
  refine lv_aload_n hx hb nd_Q_trim_14 rfl (lv_at hl 1 rfl) ?_
  refine lv_dup hx hb nd_Q_trim_15 rfl ?_
  refine xw_get (T := nT_Q) (N := 5) (ci := 3) hx hb hT nu_Q hown hK.1 hw hq rfl 4 (by decide) (hT _ nh_fl_Q_26) (fun _ h9 => h9) rfl nd_Q_trim_16 ?_
  refine lv_iload_n hx hb nd_Q_trim_19 rfl (lv_at hl 2 rfl) ?_
  refine lv_iload_n hx hb nd_Q_trim_20 rfl (lv_at hl 3 rfl) ?_
  refine lv_iadd hx hb nd_Q_trim_21 ?_
  refine lv_isub hx hb nd_Q_trim_22 ?_
  refine lv_topi (fun y7 ey8 => ?_)
  obtain rfl : y7 = nI (n - (a + b)) := ey8.trans (by rw [nI_add, pk_sub hab])
  refine xw_put (T := nT_Q) (N := 5) (ci := 3) (v := .int (nI (n - (a + b)))) (ty := .int) hx hb hT nu_Q nt_Q nk_Q nn_Q hown hK.1 hB hw hS hq rfl 4 (by decide) (hT _ nh_fl_Q_26) (fun _ h9 => h9) rfl (by decide +kernel) rfl rfl (Nat.le_of_ble_eq_true rfl) nd_Q_trim_23 (fun H locs hw hS => ?_)
  obtain ⟨w9, ew10⟩ : ∃ z, z = va_up w5 q (some (.inr (3, [.int (nI d), .ref r, .ref t, .int (nI ((o + a) % 32768)), .int (nI (n - (a + b)))]))) := ⟨_, rfl⟩
  have hw : g_P G w9 H := by rw [ew10]; exact hw
  have hq : w9 q = some (.inr (3, [.int (nI d), .ref r, .ref t, .int (nI ((o + a) % 32768)), .int (nI (n - (a + b)))])) := by rw [ew10]; exact va_up_self _ _ _
  refine lv_aload_n hx hb nd_Q_trim_26 rfl (lv_at hl 1 rfl) ?_
  have e9 : w9 = va_up w q (some (tr_S (nI d) r t (nI ((o + a) % 32768)) (nI (n - (a + b))))) := by rw [ew10, ew6, bx_uu]
  obtain ⟨W1, R1, U1, L1, l1, s1⟩ := tr_seq0 hD e9
  refine g_calli (va_runV (As := []) (rest := []) ⟨hx, hb, hml, hown, hts⟩ (c_Q_tailBlock l G w9 q r t ((o + a) % 32768) (n - (a + b)) (nI d) (by omega) (by omega) hq) (cwV (C := nR_Q) 0 hts (nw_of (nw_4 nh_ml_Q_43 nh_im_Q_tailBlock nh_se_Q_tailBlock nh_in_Q nh_co_Q_tailBlock)) rfl rfl rfl (by decide +kernel) ⟨Nat.le_of_ble_eq_true rfl, Nat.le_of_ble_eq_true rfl⟩) (g_preV (ci := 3) (q := (nR_Q, nT_Q, 5)) hK hw hS rfl hq _) rfl rfl hl.1 rfl (lv_room (Nat.le_of_ble_eq_true rfl)) nd_Q_trim_27 ⟨by exact Nat.le_of_ble_eq_true rfl, by exact Nat.le_of_ble_eq_true rfl⟩) hS (fun v3 w11 H locs hp hw hS => ?_)
  obtain ⟨rfl, hw9⟩ := hp
  rw [hw9] at hw
  refine lv_iload_n hx hb nd_Q_trim_30 rfl (lv_at hl 0 rfl) ?_
  refine lv_icmp_eq (tgt := 49) hx hb nd_Q_trim_31 (by decide) (fun hc => ?_) (fun hc => ?_)
  · have hTe : tr_tb ((o + a) % 32768) (n - (a + b)) = tr_tb o n := (nI_eq (by omega) (by omega)).mp hc
    obtain ⟨D0, K0, V0⟩ := tr_Df_seq hD (by omega) (by omega) hTe e9
    exact g_vret hx hb hr hlocks hw hS (⟨t, D0, K0, fun i hi => (V0 _ (by omega)).trans (by congr 1; omega)⟩) (by exact Nat.le_of_ble_eq_true rfl) (by exact Nat.le_of_ble_eq_true rfl) nd_Q_trim_49
  · have hr1 : w9 r = some (.inr (2, [.int (tr_stp w9 r), .ref (tr_arr w9 r)])) := R1.1.cell
    refine lv_aload_n hx hb nd_Q_trim_34 rfl (lv_at hl 1 rfl) ?_
    refine lv_aload_n hx hb nd_Q_trim_35 rfl (lv_at hl 1 rfl) ?_
    refine xw_get (T := nT_Q) (N := 5) (ci := 3) hx hb hT nu_Q hown hK.1 hw hq rfl 1 (by decide) (hT _ nh_fl_Q_15) (fun _ h9 => h9) rfl nd_Q_trim_36 ?_
    refine lv_aload_n hx hb nd_Q_trim_39 rfl (lv_at hl 1 rfl) ?_
    refine g_calli (va_runV (As := []) (rest := [.ref r, .ref q]) ⟨hx, hb, hml, hown, hts⟩ (c_Q_tailBlock l G w9 q r t ((o + a) % 32768) (n - (a + b)) (nI d) (by omega) (by omega) hq) (cwV (C := nR_Q) 0 hts (nw_of (nw_4 nh_ml_Q_43 nh_im_Q_tailBlock nh_se_Q_tailBlock nh_in_Q nh_co_Q_tailBlock)) rfl rfl rfl (by decide +kernel) ⟨Nat.le_of_ble_eq_true rfl, Nat.le_of_ble_eq_true rfl⟩) (g_preV (ci := 3) (q := (nR_Q, nT_Q, 5)) hK hw hS rfl hq _) rfl rfl hl.1 rfl (lv_room (Nat.le_of_ble_eq_true rfl)) nd_Q_trim_40 ⟨by exact Nat.le_of_ble_eq_true rfl, by exact Nat.le_of_ble_eq_true rfl⟩) hS (fun v4 w12 H locs hp hw hS => ?_)
    obtain ⟨rfl, hw9⟩ := hp
    rw [hw9] at hw
    refine g_callr (va_runV (As := [.int (nI (tr_tb ((o + a) % 32768) (n - (a + b))))]) (rest := [.ref q]) ⟨hx, hb, hml, hown, hts⟩ (c_R_leafOf l G w9 r (tr_tb ((o + a) % 32768) (n - (a + b))) R1 hTl1) (cwV (C := nR_R) 1 hts (nw_of (nw_4 nh_ml_Q_51 nh_im_R_leafOf nh_se_R_leafOf nh_in_R nh_co_R_leafOf)) rfl rfl rfl (by decide +kernel) ⟨Nat.le_of_ble_eq_true rfl, Nat.le_of_ble_eq_true rfl⟩) (g_preV (ci := 2) (q := (nR_R, nT_R, 2)) hK hw hS rfl hr1 _) rfl rfl hl.1 rfl (lv_room (Nat.le_of_ble_eq_true rfl)) nd_Q_trim_43 ⟨by exact Nat.le_of_ble_eq_true rfl, by exact Nat.le_of_ble_eq_true rfl⟩) hS (fun v5 w13 H locs hp hw hS => ?_)
    obtain ⟨rfl, hw9⟩ := hp
    rw [hw9] at hw
    refine xw_put (T := nT_Q) (N := 5) (ci := 3) (v := .ref (tr_lfb w9 r (tr_tb ((o + a) % 32768) (n - (a + b))))) (ty := (.object "RadixShelf$Leaf")) hx hb hT nu_Q nt_Q nk_Q nn_Q hown hK.1 hB hw hS hq rfl 2 (by decide) (hT _ nh_fl_Q_19) (fun _ h9 => h9) rfl (by decide +kernel) rfl rfl (Nat.le_of_ble_eq_true rfl) nd_Q_trim_46 (fun H locs hw hS => ?_)
    obtain ⟨w14, ew15⟩ : ∃ z, z = va_up w9 q (some (.inr (3, [.int (nI d), .ref r, .ref (tr_lfb w9 r (tr_tb ((o + a) % 32768) (n - (a + b)))), .int (nI ((o + a) % 32768)), .int (nI (n - (a + b)))]))) := ⟨_, rfl⟩
    have hw : g_P G w14 H := by rw [ew15]; exact hw
    have hr1 : w14 r = some (.inr (2, [.int (tr_stp w9 r), .ref (tr_arr w9 r)])) := by rw [ew15, va_up_ne _ _ (xw_ne hr1 hq (by simp))]; exact hr1
    have hq : w14 q = some (.inr (3, [.int (nI d), .ref r, .ref (tr_lfb w9 r (tr_tb ((o + a) % 32768) (n - (a + b)))), .int (nI ((o + a) % 32768)), .int (nI (n - (a + b)))])) := by rw [ew15]; exact va_up_self _ _ _
    have hne : tr_tb ((o + a) % 32768) (n - (a + b)) ≠ tr_tb o n := fun z => hc (by rw [z])
    have e10 : w14 = va_up w q (some (tr_S (nI d) r (tr_lfb w r (tr_tb ((o + a) % 32768) (n - (a + b)))) (nI ((o + a) % 32768)) (nI (n - (a + b))))) := by rw [ew15, l1 _ hTl1, e9, bx_uu]
    obtain ⟨D0, K0, V0⟩ := tr_trim hD (by omega) (by omega) e10
    refine g_vret hx hb hr hlocks hw hS (⟨_, D0, K0, fun i hi => (V0 _ (by omega) (fun z => hne ?_)).trans (by congr 1; omega)⟩) (by exact Nat.le_of_ble_eq_true rfl) (by exact Nat.le_of_ble_eq_true rfl) nd_Q_trim_49
    unfold tr_tb at z ⊢
    have h9 := tr_ring (u := o + a + i) (v := o + a + (n - (a + b)) - 1) (z := o + n - 1) (by omega) (by omega) (by omega) (by omega)
    omega
end
section
/-- the words of a throw of cls, whose constructor hands its text on by the pool's place i1 -/
def xs_at (own : String) (ic : Nat) (X : String) (i1 : Nat) (b1 : ByteArray) : List Cond := Bundle.throwableAtoms ++ Bundle.throwableSAtoms ++ Bundle.passSAtoms X "java/lang/RuntimeException" i1 b1 ++ Bundle.chainSAtoms "java/lang/RuntimeException" ["java/lang/Exception"] ++
  [.methodLink own ic (Bundle.initS X), .instantiable X 6, .castable X X, .selects X Bundle.tFill0 Bundle.tFill0, .selects X Bundle.tFill Bundle.tFill, .lays X Bundle.tN "cause" "Ljava/lang/Throwable;", .lays X Bundle.tN "stackTrace" Bundle.steD, .lays X Bundle.tN "suppressedExceptions" Bundle.listD, .lays X Bundle.tN "detailMessage" "Ljava/lang/String;",
   .isRef (.static Bundle.tN "UNASSIGNED_STACK" Bundle.steD), .isRef (.static Bundle.tN "SUPPRESSED_SENTINEL" Bundle.listD), .fieldLink Bundle.tN 198 Bundle.tN "backtrace" "Ljava/lang/Object;", .lays Bundle.tN Bundle.tN "backtrace" "Ljava/lang/Object;", .lays X Bundle.tN "backtrace" "Ljava/lang/Object;"]
def xs_ok (b1 : ByteArray) (i1 : Nat) : Prop := decode b1 0 = .ok (.aload_n 0, 1) ∧ decode b1 1 = .ok (.aload_n 1, 1) ∧ decode b1 2 = .ok (.invokespecial i1, 3) ∧ decode b1 5 = .ok (.return_, 1)
section GTC
variable {p : Program} {l : Launch} {e : Env} {R : Room} {s : State} {m₀ : MethodId} {args : Array Value} {below : List Frame} {meth : Method} {c : Code} {V : State} {locs : List Loc} {cells slots : Nat}
set_option maxHeartbeats 2000000 in
theorem xs_ctor (X : Stand p l e R s m₀ args below meth c V locs cells slots) (hexec : p.tables.exec = Jvm.exec) (htr : e.platform.stackTraces = false) {own cls : String} {ic i1 : Nat} {b1 : ByteArray} (hok : xs_ok b1 i1)
    (hown : s.vm.findClass own = some m₀.cls) (hcls : Bundle.fit cls = true) (h : ∀ a ∈ xs_at own ic cls i1 b1, a.before args s = true) (hlocs : locs = [])
    {a : Addr} {cX : ClassId} {kX : Class} (hfoundX : s.vm.findClass cls = some cX) (hkX : s.vm.classes[cX]? = some kX) (hcell : V.heap[a]? = some (freshCell cX kX)) (hnew : s.heap.size ≤ a) {msg : Value} (hmsg : msg.isRef = true)
    {g : JFrame} (hg : g.method = m₀) (hsize : g.locals.size = c.maxLocals) (hlocked : g.locked = none) (hentered : g.entered = []) {rest : List Value} (hstack : g.stack = msg :: .ref a :: .ref a :: rest)
    (hd6 : decode c.code g.pc = .ok (.invokespecial ic, 3)) (hd9 : decode c.code (g.pc + 3) = .ok (.athrow, 1)) (hout : ∀ x ∈ c.exceptionTable.toList, covers x (g.pc + 3) = false)
    (hRframes : 5 < R.frames) (hRlocals : 2 * g.monitorRoom + ((Value.ref a :: rest).map fun v => v.category).sum + 81 ≤ R.locals) (hlocks : meth.locks = false) :
    ∃ U : State, Steps p.tables e below (V.setTop g) U ∧ U.status = .running ∧ Ended U below (.threw a) ∧ s.WarmedH U.vm ∧ s.sameButNew ({ U with vm := s.vm } : State) locs cells slots ∧ ∃ ce, U.heap[a]? = some ce ∧ ce.vm = .none ∧ s.vm.findClass cls = some ce.cls := by
  subst hlocs
  have howns : e.platform.frameOwnsMonitors = true := by rw [X.admits.platform]
  have hfin : e.platform.finalization = false := by rw [X.admits.platform]
  have hpl : e.platform.magicAccessors = ({} : Platform).magicAccessors := by rw [X.admits.platform]
  have a' : ∀ x, x ∈ xs_at own ic cls i1 b1 → x.holds args s none s [] = true := fun x hx => h x hx
  obtain ⟨T, Z0, L, -, Y⟩ := ThrowableC.of_atoms (args := args) howns hfin hpl (fun x hx => h x (by simp [xs_at, hx]))
  obtain ⟨Z, M, LZ, LM, hnZ⟩ := Init0T.ofS_atoms (args := args) hpl L Y (fun x hx => h x (by simp [xs_at, hx]))
  obtain ⟨P1, L1, hP1m, hP1s⟩ := PassC.ofS_atoms (X := cls) (Y := "java/lang/RuntimeException") (index := i1) (bytes := b1) (args := args) hpl (Bundle.fit_spec hcls).1 (by decide) hok.1 hok.2.1 hok.2.2.1 hok.2.2.2 (fun x hx => h x (by simp [xs_at, hx]))
  obtain ⟨P2, Ps, hlen, L2, hL, hP2m, hlink1, hlink⟩ := Bundle.chainS (args := args) hpl hnZ ["java/lang/Exception"] "java/lang/RuntimeException" (by decide +kernel) (by decide +kernel) (fun x hx => h x (by simp [xs_at, hx]))
  have hsup : P1.sup = P2.m := Option.some.inj (hP1s.symm.trans hP2m)
  have hfound : s.vm.findClass cls = some P1.m.cls := findClass_of_methodNamed hP1m
  cases Option.some.inj (hfoundX.symm.trans hfound)
  obtain ⟨c1, kX', hc1, hk, hord, -, -, hn6⟩ := Cond.instantiable_spec (a' (.instantiable cls 6) (by simp [xs_at]))
  cases Option.some.inj (hc1.symm.trans hfound)
  cases Option.some.inj (hkX.symm.trans hk)
  have hsel0 : selectMethod e.platform s.vm P1.m.cls T.fill0 = .method T.fill0 := by
    obtain ⟨c2, r2, m2, q1, q2, q3, q4, -⟩ := Cond.selects_spec (a' (.selects cls Bundle.tFill0 Bundle.tFill0) (by simp [xs_at]))
    cases Option.some.inj (q1.symm.trans hfound)
    cases Option.some.inj (q2.symm.trans (State.methodFound?_of_named Y.fill0 (by decide)))
    cases Option.some.inj (q3.symm.trans Y.fill0)
    rw [Launch.admits_selectMethod X.admits]; exact q4
  have hselF : selectMethod e.platform s.vm P1.m.cls T.fill = .method T.fill := by
    obtain ⟨c2, r2, m2, q1, q2, q3, q4, -⟩ := Cond.selects_spec (a' (.selects cls Bundle.tFill Bundle.tFill) (by simp [xs_at]))
    cases Option.some.inj (q1.symm.trans hfound)
    cases Option.some.inj (q2.symm.trans (State.methodFound?_of_named Y.fill (by decide)))
    cases Option.some.inj (q3.symm.trans Y.fill)
    rw [Launch.admits_selectMethod X.admits]; exact q4
  obtain ⟨cellS0, hcS0, hiss⟩ := Y.statics
  obtain ⟨u0, hu0⟩ := Cond.staticRefV Y.unassigned L.unassignedStatic L.statics hcS0 hiss (a' (.isRef (.static Bundle.tN "UNASSIGNED_STACK" Bundle.steD)) (by simp [xs_at]))
  obtain ⟨sen, hsen⟩ := Cond.staticRefV Y.sentinel L.sentinelStatic L.statics hcS0 hiss (a' (.isRef (.static Bundle.tN "SUPPRESSED_SENTINEL" Bundle.listD)) (by simp [xs_at]))
  obtain ⟨ci198, i198, fB, hk198, hg198, ha198, hsB, -, hnB, htB, hffB⟩ := Cond.ownField (t := .object "java/lang/Object") Y.found L.cls (by decide +kernel) (a' (.fieldLink Bundle.tN 198 Bundle.tN "backtrace" "Ljava/lang/Object;") (by simp [xs_at])) (a' (.lays Bundle.tN Bundle.tN "backtrace" "Ljava/lang/Object;") (by simp [xs_at])) e.platform hpl
  obtain ⟨cellS, hcS', heS, -, hkeep⟩ := X.same.2.2.2.2.2 T.aS cellS0 hcS0
  have hcellS : V.heap[T.aS]? = some cellS := hcS'
  have hout' : ∀ i, (⟨T.aS, i⟩ : Loc) ∉ ([] : List Loc) := fun i hmem => nomatch hmem
  have hknownS : cellS.vm ≠ .unknown := by
    rw [heS]; intro hu
    rw [show cellS0.vm = .unknown from hu] at hiss
    cases hiss
  have hneS : T.aS ≠ a := Nat.ne_of_lt (Nat.lt_of_lt_of_le (Array.getElem?_eq_some_iff.mp hcS0).1 hnew)
  obtain ⟨iM, hffM⟩ := Y.msg
  obtain ⟨tyC, dC, hdC, hdnC⟩ := Cond.laysAt hfound hk Y.cause (a' (.lays cls Bundle.tN "cause" "Ljava/lang/Throwable;") (by simp [xs_at]))
  obtain ⟨tyS, dS, hdS, hdnS⟩ := Cond.laysAt hfound hk Y.stack (a' (.lays cls Bundle.tN "stackTrace" Bundle.steD) (by simp [xs_at]))
  obtain ⟨tyP, dP, hdP, hdnP⟩ := Cond.laysAt hfound hk Y.supp (a' (.lays cls Bundle.tN "suppressedExceptions" Bundle.listD) (by simp [xs_at]))
  obtain ⟨tyM, dM, hdM, hdnM⟩ := Cond.laysAt hfound hk hffM (a' (.lays cls Bundle.tN "detailMessage" "Ljava/lang/String;") (by simp [xs_at]))
  obtain ⟨tyB, dB, hdB, hdnB⟩ := Cond.laysAt hfound hk hffB (a' (.lays cls Bundle.tN "backtrace" "Ljava/lang/Object;") (by simp [xs_at]))
  have bC := Cond.laysApart hdB hdC hdnB hdnC (by rw [hnB, Y.causeName]; decide)
  have bS := Cond.laysApart hdB hdS hdnB hdnS (by rw [hnB, Y.stackName]; decide)
  have bP := Cond.laysApart hdB hdP hdnB hdnP (by rw [hnB, Y.suppName]; decide)
  have hskip : SkipFacts T e.platform s (fun u => u) u0 ((preparedCellV T.toThrowableT (freshCell P1.m.cls kX) a u0 sen).withEntry V.cur) :=
    ⟨{ ci198 := ci198, i198 := i198, fBack := fB }, ⟨hk198, hg198, ha198, hsB⟩, by
      have := fresh_default (c := P1.m.cls) tyB
      rw [htB] at this
      simpa [preparedCellV, Cell.setSlot, Cell.withEntry, Array.getElem?_setIfInBounds, bC, bS, bP, bC.symm, bS.symm, bP.symm, defaultValue] using this, fun _ _ => rfl⟩
  obtain ⟨tm, methC, cdC, kC, vm₁, hnC, -, -, -, -, -, -, -, hW₁, st1⟩ := Steps.initColdS (tb := p.tables) (e := e) (below := below) (s := s) (U := V) X.here hexec X.warmed hpl hown (t := Bundle.initS cls) rfl rfl (Bundle.fit_spec hcls).2
    (a' (.methodLink own ic (Bundle.initS cls)) (by simp [xs_at])) (h (.instanceMethod (Bundle.initS cls)) (by simp [xs_at, Bundle.passSAtoms])) (bytes := b1) (maxL := 2) (h (.code (Bundle.initS cls) b1 2 none) (by simp [xs_at, Bundle.passSAtoms]))
    (f := g) hg (a := a) (msg := msg) (rest := .ref a :: rest) hstack hd6
  cases Option.some.inj (hnC.symm.trans hP1m)
  have X₁ := X.noted hW₁
  obtain ⟨vm₂, X₂, st2⟩ := X₁.ctorMessageOffV hexec (g := { g with stack := .ref a :: rest }) hg hsize T L Z LZ M LM (P1 :: P2 :: Ps)
    (fun P hP => by
      rcases List.mem_cons.mp hP with rfl | hP
      · exact L1
      · rcases List.mem_cons.mp hP with rfl | hP
        · exact L2
        · exact hL P hP) ⟨hsup, hlink1, hlink⟩ (u0 := u0) (sen := sen) (self := a) hmsg (cell := freshCell P1.m.cls kX) (cellS := cellS)
    hcell (fun _ => by simp) (by simp) rfl rfl hsel0 hselF hcellS hneS hknownS (by rw [hkeep _ (hout' _)]; exact hu0) (by rw [hkeep _ (hout' _)]; exact hsen)
    (Takes.of_laid hk hord tyC (by rw [Y.causeType]; rfl)) (Takes.of_laid hk hord tyS (by rw [Y.stackType]; exact fits_refV_array _ u0)) (Takes.of_laid hk hord tyP (by rw [Y.suppType]; exact fits_refV_object _ sen))
    (Takes.of_laid hk hord tyM (by rw [Y.msgType]; exact fits_refV_object _ ⟨msg, hmsg⟩)) Y.objLocals hskip htr [] hd6
    (by simp only [List.length_cons, hlen, List.length_nil]; omega) (by simp only [List.length_cons, hlen, List.length_nil]; exact hRlocals)
  obtain ⟨hwalk, hrun, hended, hWU, hsame⟩ := X₂.athrowLeaves hexec (g := { g with stack := .ref a :: rest, pc := g.pc + 3 }) hg hlocked hentered hout (a := a) (rest := rest) rfl hd9 hlocks
  have hlt : a < ((V.setVm vm₁).setVm vm₂).heap.size := (Array.getElem?_eq_some_iff.mp hcell).1
  have hU := heapAt_setCell_self (s := (V.setVm vm₁).setVm vm₂) (plainBareV T.toThrowableT (freshCell P1.m.cls kX) a u0 sen msg) hlt
  refine ⟨_, st1 _ (fun acts => ?_), hrun, hended, hWU, hsame.weaken (fun y hy hlt' => ?_) (Nat.le_refl _) (Nat.le_refl _), _, hU, rfl, hfound⟩
  · rw [doInvoke_state]
    exact st2 _ hwalk
  · rcases List.mem_append.mp hy with h1 | h1
    · exact h1
    · exfalso
      have hb : y.base = a := by
        simp only [List.mem_cons, List.not_mem_nil, or_false] at h1
        rcases h1 with rfl | rfl | rfl | rfl | rfl <;> rfl
      rw [hb] at hlt'
      exact Nat.not_lt.mpr hnew hlt'
end GTC
section GTH
variable {p : Program} {l : Launch} {e : Env} {R : Room} {s : State} {m : MethodId} {args : Array Value} {below : List Frame} {meth : Method} {c : Code} {H : Heap} {locs : List Loc} {cells slots : Nat}
variable {cc : ByteArray} {pc : Nat} {ls : Array Slot} {G : g_G} {w : xw_W} {rest : List Value}
def xs_bad (cls : String) : List Cond := [.declares (Bundle.initS "java/lang/RuntimeException"), .declares (Bundle.initS "java/lang/Exception"), .declares (Bundle.initS Bundle.tN), .castable cls cls]
/-- 'throw new E("text")' in the shelf -/
theorem g_throw {Qc : Array Value → State → Outcome → State → Prop} {thr : String → xw_W → Prop} {cls : String} {ik is ic i1 mc ms : Nat} {b1 : ByteArray} (si : Nat) (hx : p.tables.exec = Jvm.exec) (hb : c.code = cc) (hl9 : l.stackTraces = false) (hown : s.vm.findClass "RadixShelf" = some m.cls) (hT : ∀ w ∈ nw_T, w.before args s = true) (hK : g_K G s) (hw : g_P G w H) (hS : g_S G s.heap H locs) (hml : ls.size = c.maxLocals)
    (hcls : Bundle.fit cls = true) (hok : xs_ok b1 i1) (hk : (Cond.classLink "RadixShelf" ik cls : Cond) ∈ nw_T) (hini : (Cond.initialized cls : Cond) ∈ nw_T) (hsi : si < 7) (his : (g_str si).1 = is) (hA : (((xs_at "RadixShelf" ic cls i1 b1).filter vx_no).filter goodWord).all (fun w => decide (w ∈ lw_tbl)) = true) (hBad : ((xs_at "RadixShelf" ic cls i1 b1).filter vx_no).filter (fun w => !goodWord w) = xs_bad cls) (hot : (Cond.classLink "RadixShelf" ik cls :: Cond.initialized cls :: (xs_at "RadixShelf" ic cls i1 b1).filter vx_no).all vx_ot = true) (hcast : (cls, cls) ∈ g_cast)
    (d0 : decode cc pc = .ok (.new ik, 3)) (d3 : decode cc (pc + 3) = .ok (.dup, 1)) (d4 : decode cc (pc + 4) = .ok (.ldc is, 2)) (d6 : decode cc (pc + 6) = .ok (.invokespecial ic, 3)) (d9 : decode cc (pc + 9) = .ok (.athrow, 1)) (hne : ∀ x ∈ c.exceptionTable.toList, False)
    (hfr : 5 < R.frames) (hlo : (rest.map fun v => v.category).sum + 82 ≤ R.locals) (hce : cells + 1 ≤ R.cells) (hsl : slots + 6 ≤ R.slots) (hlocks : meth.locks = false) (hthr : thr cls w) (hc : cells + 1 ≤ mc) (hs : slots + 6 ≤ ms) :
    W p l e R s m args below meth c H locs cells slots (vx_MQ below Qc (g_X G thr) args s mc ms (xw_A (g_b G))) (F0 m pc ls rest) := by
  subst his
  obtain ⟨-, hE⟩ := id hK
  have hat : ∀ w ∈ (xs_at "RadixShelf" ic cls i1 b1).filter vx_no, w.before args s = true := by
    refine vx_hat (B := xs_bad cls) (fun w hw => hT w ?_) (fun w hw => by rw [hBad] at hw; exact hw) (vx_c (va_Nw.use rfl (hE.2.2.2.2.2.2 _ (by simp [g_decl]))) (vx_c (va_Nw.use rfl (hE.2.2.2.2.2.2 _ (by simp [g_decl]))) (vx_c (va_Nw.use rfl (hE.2.2.2.2.2.2 _ (by simp [g_decl]))) (vx_c (va_Nw.use rfl (hE.2.1 _ hcast)) vx_n))))
    have h1 := List.all_eq_true.mp hA w hw
    simp only [decide_eq_true_eq] at h1
    exact List.mem_filter.mpr ⟨h1, (List.mem_filter.mp hw).2⟩
  have hgood := List.all_eq_true.mp hot
  intro T hT9 X
  have htr : e.platform.stackTraces = false := (show e.platform.stackTraces = l.stackTraces by rw [X.admits.platform]).trans hl9
  have Y := vx_rebase X (R' := { frames := R.frames, locals := R.locals, cells := 1, slots := 6 }) (Nat.le_refl _) (Nat.le_refl _) hce hsl
  obtain ⟨s', hA9⟩ : ∃ z, z = (T.setVm s.vm).setFrames (.invoking m args :: below) := ⟨_, rfl⟩
  rw [← hA9] at Y
  have hvm : s'.vm = s.vm := by rw [hA9]; rfl
  have hhp : s'.heap = H := by rw [hA9]; exact hT9
  have hW0 : s.WarmedH s'.vm := by rw [hvm]; exact State.WarmedH.refl s
  have hat' : ∀ w ∈ (xs_at "RadixShelf" ic cls i1 b1).filter vx_no, w.before args s' = true := fun w hw => vx_ot_at hW0 hvm.symm (hgood w (List.mem_cons_of_mem _ (List.mem_cons_of_mem _ hw))) (hat w hw)
  have hk' : (Cond.classLink "RadixShelf" ik cls).before args s' = true := vx_ot_at hW0 hvm.symm (hgood _ List.mem_cons_self) (hT _ hk)
  have hini' : (Cond.initialized cls).before args s' = true := vx_ot_at hW0 hvm.symm (hgood _ (List.mem_cons_of_mem _ List.mem_cons_self)) (hT _ hini)
  have hE' : g_E G s' := g_E.moved hW0 (fun q h1 h2 => by rw [hhp]; exact hS.2.1 q h1 h2) hE
  have h : ∀ w ∈ xs_at "RadixShelf" ic cls i1 b1, w.before args s' = true := vx_own hat' (vx_isRefq hE'.2.2.2.2.1.1) (vx_isRefq hE'.2.2.2.2.2.1.1) hE'.2.2.2.2.1.2.word hE'.2.2.2.2.2.1.2.word
  have hown' : s'.vm.findClass "RadixShelf" = some m.cls := by rw [hvm]; exact hown
  have hins : (Cond.instantiable cls 6).before args s' = true := h _ (by simp [xs_at])
  obtain ⟨vm₁, cX, kX, hfX, hkX, -, -, X₁, st1⟩ := Y.newCold hx (own := "RadixShelf") (C := cls) (index := ik) (n := 6) hown' hk' hins hini'
    (g := F0 m pc ls rest) rfl (by rw [hb]; exact d0) (Nat.le_refl _) (Nat.le_refl _)
  generalize hT1 : (T.setVm vm₁).pushCell { cls := cX, slots := kX.instanceTypes.map defaultValue, vm := .none } = T1 at X₁ st1
  have hcat : (Value.ref T.heap.size).category = 1 := rfl
  have hcellA : T1.heap[T.heap.size]? = some (freshCell cX kX) := by rw [← hT1]; exact State.heap_pushCell_size _ _
  have d3' : decode c.code (pc + 3) = .ok (.dup, 1) := by rw [hb]; exact d3
  have d4' : decode c.code (pc + 4) = .ok (.ldc (g_str si).1, 2) := by rw [hb]; exact d4
  have hstr' := hE'.2.2.2.1 si hsi
  obtain ⟨U, hsteps, hrun, hend, hW, hsame, ce, hce9, hcv, hcl9⟩ := xs_ctor X₁ hx htr (own := "RadixShelf") (cls := cls) (ic := ic) hok hown' hcls h rfl hfX hkX hcellA (by rw [hhp, hT9]; exact Nat.le_refl _) (msg := .ref (G.2.2.2 si)) rfl
    (g := { method := m, pc := pc + 6, locals := ls, stack := .ref (G.2.2.2 si) :: .ref T.heap.size :: .ref T.heap.size :: rest, locked := none }) rfl hml rfl rfl (rest := rest) rfl
    (by rw [hb]; exact d6) (by rw [hb]; exact d9) (fun x hx => (hne x hx).elim) hfr (by simp only [List.map_cons, List.sum_cons, hcat]; show 2 * 0 + _ + 81 ≤ _; omega) hlocks
  obtain ⟨f1, f2⟩ := vx_frame hsame
  rw [hhp] at f1 f2
  have hWs : s.WarmedH U.vm := State.WarmedH.trans hW0 hW
  have hcl : s.vm.findClass cls = some ce.cls := by
    have h9 := hcl9
    rw [hvm] at h9
    exact h9
  have hall : s.sameButNew ({ U with vm := s.vm } : State) locs mc ms := by
    subst hA9
    obtain ⟨e1, e2⟩ := hsame
    rw [State.setFrames_setFrames] at e1
    have h2 : (T.setVm s.vm).sameButNew ({ U with vm := s.vm } : State) [] (0 + 1) (0 + 6) := ⟨e1, e2⟩
    have h3 := X.same.trans h2
    rw [List.append_nil] at h3
    exact h3.mono hc hs
  have hkp : ∀ q : Nat, q < H.size → U.heap[q]? = H[q]? := fun q hq => f2 q hq (fun z hz => nomatch hz)
  refine ⟨U, ?_, .threw T.heap.size, hrun, hend, Or.inr ⟨T.heap.size, rfl, cls, ce, locs, ⟨w, trivial, ⟨hthr, hw.grow f1 hkp⟩, Nat.le_trans hS.1 f1, fun q h1 h2 => (hkp q (Nat.lt_of_lt_of_le h1 hS.1)).trans (hS.2.1 q h1 h2)⟩, hce9, hcv, hcl, hWs, hall, hS.2.2⟩⟩
  refine st1 _ ?_
  show Steps p.tables e below (T1.setTop { method := m, pc := pc + 3, locals := ls, stack := .ref T.heap.size :: rest, locked := none }) _
  jvm_step X₁.here [X₁.here.top, hx, d3', Value.category]
  exact X₁.ldcString hx (own := "RadixShelf") (text := (g_str si).2) (index := (g_str si).1) (a := G.2.2.2 si) hown' hstr'.1 hstr'.2
    (g := { method := m, pc := pc + 4, locals := ls, stack := .ref T.heap.size :: .ref T.heap.size :: rest, locked := none }) rfl d4' _ hsteps
end GTH

set_option maxHeartbeats 4000000 in
set_option maxRecDepth 100000 in
theorem c_S_checkRange (l : Launch) (hl9 : l.stackTraces = false) (G : g_G) (w : xw_W) (a lo hi : Int32) : vx_Met l ny_S_checkRange nw_S_checkRange ({ frames := 6, cells := 1, slots := 6, locals := 82 }) (g_Pc G w [.int a, .int lo, .int hi]) (g_Qv G (fun w' => w' = w ∧ lo ≤ a ∧ a ≤ hi)) (g_X G (fun E w' => E = g_IAE ∧ w' = w ∧ ¬ (lo ≤ a ∧ a ≤ hi))) 1 6 (xw_A (g_b G)) := by
  refine g_xmet (by decide) (Nat.le_of_ble_eq_true rfl) rfl ?_
  intro p e s m below meth c ls hx hb hr hts hown hlocks hne hml hl hK hB hw hS
  have hT : ∀ w ∈ nw_T, w.before _ s = true := fun w h => hts w (List.mem_cons_of_mem _ h)
  have hown : s.vm.findClass "RadixShelf" = some m.cls := hown
  have hl : lv_has ls 3 [(0, .int a), (1, .int lo), (2, .int hi)] := hl
  refine lv_iload_n hx hb nd_S_checkRange_0 rfl (lv_at hl 0 rfl) ?_
  refine lv_iload_n hx hb nd_S_checkRange_1 rfl (lv_at hl 1 rfl) ?_
  refine lv_icmp_lt (tgt := 10) hx hb nd_S_checkRange_2 (by decide) (fun hc => ?_) (fun hc => ?_)
  · exact g_throw (cls := g_IAE) 0 hx hb hl9 hown hT hK hw hS (by rw [hml]; exact hl.1) (by decide +kernel) (i1 := 7) (b1 := Bundle.six) ⟨by decide +kernel, by decide +kernel, by decide +kernel, by decide +kernel⟩ nh_cl_S_108 nh_in_IAE (by decide) rfl (by decide +kernel) (by decide +kernel) (by decide +kernel) (by decide) nd_S_checkRange_10 nd_S_checkRange_13 nd_S_checkRange_14 nd_S_checkRange_16 nd_S_checkRange_19 hne (by exact Nat.le_of_ble_eq_true rfl) (by exact Nat.le_of_ble_eq_true rfl) (by exact Nat.le_of_ble_eq_true rfl) (by exact Nat.le_of_ble_eq_true rfl) hlocks (⟨rfl, rfl, fun z => Int32.not_le.mpr hc z.1⟩) (by exact Nat.le_of_ble_eq_true rfl) (by exact Nat.le_of_ble_eq_true rfl)
  · refine lv_iload_n hx hb nd_S_checkRange_5 rfl (lv_at hl 0 rfl) ?_
    refine lv_iload_n hx hb nd_S_checkRange_6 rfl (lv_at hl 2 rfl) ?_
    refine lv_icmp_le (tgt := 20) hx hb nd_S_checkRange_7 (by decide) (fun hc2 => ?_) (fun hc2 => ?_)
    · exact vx_ret (g_vret hx hb hr hlocks hw hS (⟨rfl, Int32.not_lt.mp hc, hc2⟩) (by exact Nat.le_of_ble_eq_true rfl) (by exact Nat.le_of_ble_eq_true rfl) nd_S_checkRange_20)
    · exact g_throw (cls := g_IAE) 0 hx hb hl9 hown hT hK hw hS (by rw [hml]; exact hl.1) (by decide +kernel) (i1 := 7) (b1 := Bundle.six) ⟨by decide +kernel, by decide +kernel, by decide +kernel, by decide +kernel⟩ nh_cl_S_108 nh_in_IAE (by decide) rfl (by decide +kernel) (by decide +kernel) (by decide +kernel) (by decide) nd_S_checkRange_10 nd_S_checkRange_13 nd_S_checkRange_14 nd_S_checkRange_16 nd_S_checkRange_19 hne (by exact Nat.le_of_ble_eq_true rfl) (by exact Nat.le_of_ble_eq_true rfl) (by exact Nat.le_of_ble_eq_true rfl) (by exact Nat.le_of_ble_eq_true rfl) hlocks (⟨rfl, rfl, fun z => hc2 z.2⟩) (by exact Nat.le_of_ble_eq_true rfl) (by exact Nat.le_of_ble_eq_true rfl)

set_option maxHeartbeats 4000000 in
set_option maxRecDepth 100000 in
theorem c_S_checkSlot (l : Launch) (hl9 : l.stackTraces = false) (G : g_G) (w : xw_W) (a : Int32) : vx_Met l ny_S_checkSlot nw_S_checkSlot ({ frames := 7, cells := 1, slots := 6, locals := 104 }) (g_Pc G w [.int a]) (g_Qv G (fun w' => w' = w ∧ 0 ≤ a ∧ a ≤ 15)) (g_X G (fun E w' => E = g_IAE ∧ w' = w ∧ ¬ (0 ≤ a ∧ a ≤ 15))) 1 6 (xw_A (g_b G)) := by
  refine g_xmet (by decide) (Nat.le_of_ble_eq_true rfl) rfl ?_
  intro p e s m below meth c ls hx hb hr hts hown hlocks hne hml hl hK hB hw hS
  have hT : ∀ w ∈ nw_T, w.before _ s = true := fun w h => hts w (List.mem_cons_of_mem _ h)
  have hown : s.vm.findClass "RadixShelf" = some m.cls := hown
  have hl : lv_has ls 1 [(0, .int a)] := hl
  refine lv_iload_n hx hb nd_S_checkSlot_0 rfl (lv_at hl 0 rfl) ?_
  refine lv_iconst (v := 0) hx hb nd_S_checkSlot_1 (by decide) ?_
  refine lv_bipush (v := 15) hx hb nd_S_checkSlot_2 (by decide) ?_
  refine g_xcallv (vx_runS (As := [.int a, .int 0, .int 15]) (rest := []) ⟨hx, hb, hml, hown, hts⟩ (c_S_checkRange l hl9 G w a 0 15) (cwS 3 hts (nw_of (nw_3 nh_ml_S_78 nh_st_S_checkRange nh_in_S nh_co_S_checkRange)) rfl rfl rfl (by decide +kernel) ⟨Nat.le_of_ble_eq_true rfl, Nat.le_of_ble_eq_true rfl⟩) (g_preS hK hw hS _) rfl rfl hl.1 rfl (lv_room (Nat.le_of_ble_eq_true rfl)) nd_S_checkSlot_4 ⟨by exact Nat.le_of_ble_eq_true rfl, by exact Nat.le_of_ble_eq_true rfl⟩) hS (fun E ce q9 w1 H locs hthr hw hS h1 h2 h3 => g_out hne hlocks hw hS h1 h2 h3 hthr (by exact Nat.le_of_ble_eq_true rfl) (by exact Nat.le_of_ble_eq_true rfl)) (fun w1 H locs hp hw hS => ?_)
  exact vx_ret (g_vret hx hb hr hlocks hw hS (hp) (by exact Nat.le_of_ble_eq_true rfl) (by exact Nat.le_of_ble_eq_true rfl) nd_S_checkSlot_7)

set_option maxHeartbeats 4000000 in
set_option maxRecDepth 100000 in
theorem c_S_checkNotNegative (l : Launch) (hl9 : l.stackTraces = false) (G : g_G) (w : xw_W) (a : Int32) : vx_Met l ny_S_checkNotNegative nw_S_checkNotNegative ({ frames := 6, cells := 1, slots := 6, locals := 82 }) (g_Pc G w [.int a]) (g_Qv G (fun w' => w' = w ∧ 0 ≤ a)) (g_X G (fun E w' => E = g_IAE ∧ w' = w ∧ ¬ 0 ≤ a)) 1 6 (xw_A (g_b G)) := by
  refine g_xmet (by decide) (Nat.le_of_ble_eq_true rfl) rfl ?_
  intro p e s m below meth c ls hx hb hr hts hown hlocks hne hml hl hK hB hw hS
  have hT : ∀ w ∈ nw_T, w.before _ s = true := fun w h => hts w (List.mem_cons_of_mem _ h)
  have hown : s.vm.findClass "RadixShelf" = some m.cls := hown
  have hl : lv_has ls 1 [(0, .int a)] := hl
  refine lv_iload_n hx hb nd_S_checkNotNegative_0 rfl (lv_at hl 0 rfl) ?_
  refine lv_if_ge (tgt := 14) hx hb nd_S_checkNotNegative_1 (by decide) (fun hc => ?_) (fun hc => ?_)
  · exact vx_ret (g_vret hx hb hr hlocks hw hS (⟨rfl, hc⟩) (by exact Nat.le_of_ble_eq_true rfl) (by exact Nat.le_of_ble_eq_true rfl) nd_S_checkNotNegative_14)
  · exact g_throw (cls := g_IAE) 3 hx hb hl9 hown hT hK hw hS (by rw [hml]; exact hl.1) (by decide +kernel) (i1 := 7) (b1 := Bundle.six) ⟨by decide +kernel, by decide +kernel, by decide +kernel, by decide +kernel⟩ nh_cl_S_108 nh_in_IAE (by decide) rfl (by decide +kernel) (by decide +kernel) (by decide +kernel) (by decide) nd_S_checkNotNegative_4 nd_S_checkNotNegative_7 nd_S_checkNotNegative_8 nd_S_checkNotNegative_10 nd_S_checkNotNegative_13 hne (by exact Nat.le_of_ble_eq_true rfl) (by exact Nat.le_of_ble_eq_true rfl) (by exact Nat.le_of_ble_eq_true rfl) (by exact Nat.le_of_ble_eq_true rfl) hlocks (⟨rfl, rfl, hc⟩) (by exact Nat.le_of_ble_eq_true rfl) (by exact Nat.le_of_ble_eq_true rfl)

set_option maxHeartbeats 4000000 in
set_option maxRecDepth 100000 in
theorem c_S_checkElement (l : Launch) (hl9 : l.stackTraces = false) (G : g_G) (w : xw_W) (q r t n : Nat) (st o i : Int32) (hq : w q = some (.inr (3, [.int st, .ref r, .ref t, .int o, .int (nI n)]))) : vx_Met l ny_S_checkElement nw_S_checkElement ({ frames := 6, cells := 1, slots := 6, locals := 82 }) (g_Pc G w [.ref q, .int i]) (g_Qv G (fun w' => w' = w ∧ 0 ≤ i ∧ i < nI n)) (g_X G (fun E w' => E = g_NSE ∧ w' = w ∧ ¬ (0 ≤ i ∧ i < nI n))) 1 6 (xw_A (g_b G)) := by
  refine g_xmet (by decide) (Nat.le_of_ble_eq_true rfl) rfl ?_
  intro p e s m below meth c ls hx hb hr hts hown hlocks hne hml hl hK hB hw hS
  have hT : ∀ w ∈ nw_T, w.before _ s = true := fun w h => hts w (List.mem_cons_of_mem _ h)
  have hown : s.vm.findClass "RadixShelf" = some m.cls := hown
  have hl : lv_has ls 2 [(0, .ref q), (1, .int i)] := hl
  refine lv_iload_n hx hb nd_S_checkElement_0 rfl (lv_at hl 1 rfl) ?_
  refine lv_if_lt (tgt := 12) hx hb nd_S_checkElement_1 (by decide) (fun hc => ?_) (fun hc => ?_)
  · exact g_throw (cls := g_NSE) 2 hx hb hl9 hown hT hK hw hS (by rw [hml]; exact hl.1) (by decide +kernel) (i1 := 13) (b1 := prog_16_method_4_code) ⟨by decide +kernel, by decide +kernel, by decide +kernel, by decide +kernel⟩ nh_cl_S_67 nh_in_NSE (by decide) rfl (by decide +kernel) (by decide +kernel) (by decide +kernel) (by decide) nd_S_checkElement_12 nd_S_checkElement_15 nd_S_checkElement_16 nd_S_checkElement_18 nd_S_checkElement_21 hne (by exact Nat.le_of_ble_eq_true rfl) (by exact Nat.le_of_ble_eq_true rfl) (by exact Nat.le_of_ble_eq_true rfl) (by exact Nat.le_of_ble_eq_true rfl) hlocks (⟨rfl, rfl, fun z => Int32.not_le.mpr hc z.1⟩) (by exact Nat.le_of_ble_eq_true rfl) (by exact Nat.le_of_ble_eq_true rfl)
  · refine lv_iload_n hx hb nd_S_checkElement_4 rfl (lv_at hl 1 rfl) ?_
    refine lv_aload_n hx hb nd_S_checkElement_5 rfl (lv_at hl 0 rfl) ?_
    refine xw_get (T := nT_Q) (N := 5) (ci := 3) hx hb hT nu_Q hown hK.1 hw hq rfl 4 (by decide) (hT _ nh_fl_S_46) (fun _ h9 => h9) rfl nd_S_checkElement_6 ?_
    refine lv_icmp_lt (tgt := 22) hx hb nd_S_checkElement_9 (by decide) (fun hc2 => ?_) (fun hc2 => ?_)
    · exact vx_ret (g_vret hx hb hr hlocks hw hS (⟨rfl, Int32.not_lt.mp hc, hc2⟩) (by exact Nat.le_of_ble_eq_true rfl) (by exact Nat.le_of_ble_eq_true rfl) nd_S_checkElement_22)
    · exact g_throw (cls := g_NSE) 2 hx hb hl9 hown hT hK hw hS (by rw [hml]; exact hl.1) (by decide +kernel) (i1 := 13) (b1 := prog_16_method_4_code) ⟨by decide +kernel, by decide +kernel, by decide +kernel, by decide +kernel⟩ nh_cl_S_67 nh_in_NSE (by decide) rfl (by decide +kernel) (by decide +kernel) (by decide +kernel) (by decide) nd_S_checkElement_12 nd_S_checkElement_15 nd_S_checkElement_16 nd_S_checkElement_18 nd_S_checkElement_21 hne (by exact Nat.le_of_ble_eq_true rfl) (by exact Nat.le_of_ble_eq_true rfl) (by exact Nat.le_of_ble_eq_true rfl) (by exact Nat.le_of_ble_eq_true rfl) hlocks (⟨rfl, rfl, fun z => hc2 z.2⟩) (by exact Nat.le_of_ble_eq_true rfl) (by exact Nat.le_of_ble_eq_true rfl)

set_option maxHeartbeats 4000000 in
set_option maxRecDepth 100000 in
theorem c_S_checkRoom (l : Launch) (hl9 : l.stackTraces = false) (G : g_G) (w : xw_W) (q r t n : Nat) (st o : Int32) (hq : w q = some (.inr (3, [.int st, .ref r, .ref t, .int o, .int (nI n)]))) : vx_Met l ny_S_checkRoom nw_S_checkRoom ({ frames := 6, cells := 1, slots := 6, locals := 82 }) (g_Pc G w [.ref q]) (g_Qv G (fun w' => w' = w ∧ nI n < 3000)) (g_X G (fun E w' => E = g_IOB ∧ w' = w ∧ ¬ nI n < 3000)) 1 6 (xw_A (g_b G)) := by
  refine g_xmet (by decide) (Nat.le_of_ble_eq_true rfl) rfl ?_
  intro p e s m below meth c ls hx hb hr hts hown hlocks hne hml hl hK hB hw hS
  have hT : ∀ w ∈ nw_T, w.before _ s = true := fun w h => hts w (List.mem_cons_of_mem _ h)
  have hown : s.vm.findClass "RadixShelf" = some m.cls := hown
  have hl : lv_has ls 1 [(0, .ref q)] := hl
  refine lv_aload_n hx hb nd_S_checkRoom_0 rfl (lv_at hl 0 rfl) ?_
  refine xw_get (T := nT_Q) (N := 5) (ci := 3) hx hb hT nu_Q hown hK.1 hw hq rfl 4 (by decide) (hT _ nh_fl_S_46) (fun _ h9 => h9) rfl nd_S_checkRoom_1 ?_
  refine lv_sipush (v := 3000) hx hb nd_S_checkRoom_4 (by decide) ?_
  refine lv_icmp_lt (tgt := 20) hx hb nd_S_checkRoom_7 (by decide) (fun hc => ?_) (fun hc => ?_)
  · exact vx_ret (g_vret hx hb hr hlocks hw hS (⟨rfl, hc⟩) (by exact Nat.le_of_ble_eq_true rfl) (by exact Nat.le_of_ble_eq_true rfl) nd_S_checkRoom_20)
  · exact g_throw (cls := g_IOB) 1 hx hb hl9 hown hT hK hw hS (by rw [hml]; exact hl.1) (by decide +kernel) (i1 := 7) (b1 := Bundle.six) ⟨by decide +kernel, by decide +kernel, by decide +kernel, by decide +kernel⟩ nh_cl_S_117 nh_in_IOB (by decide) rfl (by decide +kernel) (by decide +kernel) (by decide +kernel) (by decide) nd_S_checkRoom_10 nd_S_checkRoom_13 nd_S_checkRoom_14 nd_S_checkRoom_16 nd_S_checkRoom_19 hne (by exact Nat.le_of_ble_eq_true rfl) (by exact Nat.le_of_ble_eq_true rfl) (by exact Nat.le_of_ble_eq_true rfl) (by exact Nat.le_of_ble_eq_true rfl) hlocks (⟨rfl, rfl, hc⟩) (by exact Nat.le_of_ble_eq_true rfl) (by exact Nat.le_of_ble_eq_true rfl)

set_option maxHeartbeats 4000000 in
set_option maxRecDepth 100000 in
theorem c_S_presentBuilder (l : Launch) (G : g_G) (w : xw_W) (h e0 sl qb : Nat) (ls0 : Int32) (hh : w h = some (.inr (4, [.ref e0, .ref sl, .ref qb, .int ls0]))) : Met l ny_S_presentBuilder nw_S_presentBuilder ({ frames := 0, cells := 0, slots := 0, locals := 0 }) (g_Pc G w [.ref h]) (g_Qr G (fun v w' => v = qb ∧ w' = w)) 0 0 (xw_A (g_b G)) := by
  refine g_met (by decide) (Nat.le_of_ble_eq_true rfl) rfl ?_
  intro p e s m below meth c ls hx hb hr hts hown hlocks hin hml hl hK hB hw hS
  have hT : ∀ w ∈ nw_T, w.before _ s = true := fun w h => hts w (List.mem_cons_of_mem _ h)
  have hown : s.vm.findClass "RadixShelf" = some m.cls := hown
  have hl : lv_has ls 1 [(0, .ref h)] := hl
  refine lv_aload_n hx hb nd_S_presentBuilder_0 rfl (lv_at hl 0 rfl) ?_
  refine xw_get (T := nT_S) (N := 4) (ci := 4) hx hb hT nu_S hown hK.1 hw hh rfl 2 (by decide) (hT _ nh_fl_S_23) (fun _ h9 => h9) rfl nd_S_presentBuilder_1 ?_
  refine lv_ifnonnull (tgt := 17) hx hb nd_S_presentBuilder_4 (by decide) ?_
  refine lv_aload_n hx hb nd_S_presentBuilder_17 rfl (lv_at hl 0 rfl) ?_
  refine xw_get (T := nT_S) (N := 4) (ci := 4) hx hb hT nu_S hown hK.1 hw hh rfl 2 (by decide) (hT _ nh_fl_S_23) (fun _ h9 => h9) rfl nd_S_presentBuilder_18 ?_
  exact g_aret hx hb hr hlocks hw hS (⟨rfl, rfl⟩) (by exact Nat.le_of_ble_eq_true rfl) (by exact Nat.le_of_ble_eq_true rfl) nd_S_presentBuilder_21

set_option maxHeartbeats 4000000 in
set_option maxRecDepth 100000 in
theorem c_S_presentBuilderN (l : Launch) (hl9 : l.stackTraces = false) (G : g_G) (w : xw_W) (h e0 sl : Nat) (ls0 : Int32) (hh : w h = some (.inr (4, [.ref e0, .ref sl, .null, .int ls0]))) : vx_Met l ny_S_presentBuilder nw_S_presentBuilder ({ frames := 6, cells := 1, slots := 6, locals := 82 }) (g_Pc G w [.ref h]) (g_Qr G (fun _ _ => False)) (g_X G (fun E w' => E = g_ISE ∧ w' = w)) 1 6 (xw_A (g_b G)) := by
  refine g_xmet (by decide) (Nat.le_of_ble_eq_true rfl) rfl ?_
  intro p e s m below meth c ls hx hb hr hts hown hlocks hne hml hl hK hB hw hS
  have hT : ∀ w ∈ nw_T, w.before _ s = true := fun w h => hts w (List.mem_cons_of_mem _ h)
  have hown : s.vm.findClass "RadixShelf" = some m.cls := hown
  have hl : lv_has ls 1 [(0, .ref h)] := hl
  refine lv_aload_n hx hb nd_S_presentBuilder_0 rfl (lv_at hl 0 rfl) ?_
  refine xw_get (T := nT_S) (N := 4) (ci := 4) hx hb hT nu_S hown hK.1 hw hh rfl 2 (by decide) (hT _ nh_fl_S_23) (fun _ h9 => h9) rfl nd_S_presentBuilder_1 ?_
  refine lv_ifnonnullN hx hb nd_S_presentBuilder_4 ?_
  exact g_throw (cls := g_ISE) 6 hx hb hl9 hown hT hK hw hS (by rw [hml]; exact hl.1) (by decide +kernel) (i1 := 7) (b1 := Bundle.six) ⟨by decide +kernel, by decide +kernel, by decide +kernel, by decide +kernel⟩ nh_cl_S_84 nh_in_ISE (by decide) rfl (by decide +kernel) (by decide +kernel) (by decide +kernel) (by decide) nd_S_presentBuilder_7 nd_S_presentBuilder_10 nd_S_presentBuilder_11 nd_S_presentBuilder_13 nd_S_presentBuilder_16 hne (by exact Nat.le_of_ble_eq_true rfl) (by exact Nat.le_of_ble_eq_true rfl) (by exact Nat.le_of_ble_eq_true rfl) (by exact Nat.le_of_ble_eq_true rfl) hlocks (⟨rfl, rfl⟩) (by exact Nat.le_of_ble_eq_true rfl) (by exact Nat.le_of_ble_eq_true rfl)

set_option maxHeartbeats 4000000 in
set_option maxRecDepth 100000 in
theorem c_S_draftOf (l : Launch) (G : g_G) (w : xw_W) (h e0 sl L q r t : Nat) (bo : Option Nat) (st o n : Int32) (hh : w h = some (.inr (4, [.ref e0, .ref sl, va_rf bo, .int (nI L)]))) (hq : w q = some (.inr (3, [.int st, .ref r, .ref t, .int o, .int n]))) : Met l ny_S_draftOf nw_S_draftOf ({ frames := 2, cells := 1, slots := 5, locals := 37 }) (g_Pc G w [.ref h, .ref q]) (g_Qr G (fun qn w' => w qn = none ∧ w' = va_up (va_up w h (some (.inr (4, [.ref e0, .ref sl, va_rf bo, .int (nI (L + 1))])))) qn (some (.inr (3, [.int (nI (L + 1)), .ref r, .ref t, .int o, .int n]))))) 1 5 (xw_A (g_b G)) := by
  refine g_met (by decide) (Nat.le_of_ble_eq_true rfl) rfl ?_
  intro p e s m below meth c ls hx hb hr hts hown hlocks hin hml hl hK hB hw hS
  have hT : ∀ w ∈ nw_T, w.before _ s = true := fun w h => hts w (List.mem_cons_of_mem _ h)
  have hown : s.vm.findClass "RadixShelf" = some m.cls := hown
  have hl : lv_has ls 2 [(0, .ref h), (1, .ref q)] := hl
  refine lv_aload_n hx hb nd_S_draftOf_0 rfl (lv_at hl 0 rfl) ?_
  refine lv_dup hx hb nd_S_draftOf_1 rfl ?_
  refine xw_get (T := nT_S) (N := 4) (ci := 4) hx hb hT nu_S hown hK.1 hw hh rfl 3 (by decide) (hT _ nh_fl_S_26) (fun _ h9 => h9) rfl nd_S_draftOf_2 ?_
  refine lv_iconst (v := 1) hx hb nd_S_draftOf_5 (by decide) ?_
  refine lv_iadd hx hb nd_S_draftOf_6 ?_
  refine lv_topi (fun y1 ey2 => ?_)
  obtain rfl : y1 = nI (L + 1) := ey2.trans (nI_1 L)
  refine xw_put (T := nT_S) (N := 4) (ci := 4) (v := .int (nI (L + 1))) (ty := .int) hx hb hT nu_S nt_S nk_S nn_S hown hK.1 hB hw hS hh rfl 3 (by decide) (hT _ nh_fl_S_26) (fun _ h9 => h9) rfl (by decide +kernel) rfl rfl (Nat.le_of_ble_eq_true rfl) nd_S_draftOf_7 (fun H locs hw hS => ?_)
  obtain ⟨w3, ew4⟩ : ∃ z, z = va_up w h (some (.inr (4, [.ref e0, .ref sl, va_rf bo, .int (nI (L + 1))]))) := ⟨_, rfl⟩
  have hw : g_P G w3 H := by rw [ew4]; exact hw
  have hq : w3 q = some (.inr (3, [.int st, .ref r, .ref t, .int o, .int n])) := by rw [ew4, va_up_ne _ _ (xw_ne hq hh (by simp))]; exact hq
  have hh : w3 h = some (.inr (4, [.ref e0, .ref sl, va_rf bo, .int (nI (L + 1))])) := by rw [ew4]; exact va_up_self _ _ _
  refine xw_new (T := nT_Q) (N := 5) (ci := 3) (fs := [.int 0, .null, .null, .int 0, .int 0]) hx hb hT nu_Q nt_Q nk_Q hown (hT _ nh_cl_S_17) (hT _ nh_is_Q) (hT _ nh_in_Q) hK.1 hB hw hS rfl (fun j hj => by rcases (show j = 0 ∨ j = 1 ∨ j = 2 ∨ j = 3 ∨ j = 4 by omega) with rfl | rfl | rfl | rfl | rfl <;> rfl) (by exact Nat.le_of_ble_eq_true rfl) (by exact Nat.le_of_ble_eq_true rfl) nd_S_draftOf_10 (fun qn H hn_qn hw hS => ?_)
  obtain ⟨w5, ew6⟩ : ∃ z, z = va_up w3 qn (some (.inr (3, [.int 0, .null, .null, .int 0, .int 0]))) := ⟨_, rfl⟩
  have hw : g_P G w5 H := by rw [ew6]; exact hw
  have hh : w5 h = some (.inr (4, [.ref e0, .ref sl, va_rf bo, .int (nI (L + 1))])) := by rw [ew6, va_up_ne _ _ (xw_nn hh hn_qn)]; exact hh
  have hq : w5 q = some (.inr (3, [.int st, .ref r, .ref t, .int o, .int n])) := by rw [ew6, va_up_ne _ _ (xw_nn hq hn_qn)]; exact hq
  have h_qn : w5 qn = some (.inr (3, [.int 0, .null, .null, .int 0, .int 0])) := by rw [ew6]; exact va_up_self _ _ _
  refine lv_dup hx hb nd_S_draftOf_13 rfl ?_
  refine lv_aload_n hx hb nd_S_draftOf_14 rfl (lv_at hl 0 rfl) ?_
  refine xw_get (T := nT_S) (N := 4) (ci := 4) hx hb hT nu_S hown hK.1 hw hh rfl 3 (by decide) (hT _ nh_fl_S_26) (fun _ h9 => h9) rfl nd_S_draftOf_15 ?_
  refine lv_aload_n hx hb nd_S_draftOf_18 rfl (lv_at hl 1 rfl) ?_
  refine xw_get (T := nT_Q) (N := 5) (ci := 3) hx hb hT nu_Q hown hK.1 hw hq rfl 1 (by decide) (hT _ nh_fl_S_94) (fun _ h9 => h9) rfl nd_S_draftOf_19 ?_
  refine lv_aload_n hx hb nd_S_draftOf_22 rfl (lv_at hl 1 rfl) ?_
  refine xw_get (T := nT_Q) (N := 5) (ci := 3) hx hb hT nu_Q hown hK.1 hw hq rfl 2 (by decide) (hT _ nh_fl_S_98) (fun _ h9 => h9) rfl nd_S_draftOf_23 ?_
  refine lv_aload_n hx hb nd_S_draftOf_26 rfl (lv_at hl 1 rfl) ?_
  refine xw_get (T := nT_Q) (N := 5) (ci := 3) hx hb hT nu_Q hown hK.1 hw hq rfl 3 (by decide) (hT _ nh_fl_S_102) (fun _ h9 => h9) rfl nd_S_draftOf_27 ?_
  refine lv_aload_n hx hb nd_S_draftOf_30 rfl (lv_at hl 1 rfl) ?_
  refine xw_get (T := nT_Q) (N := 5) (ci := 3) hx hb hT nu_Q hown hK.1 hw hq rfl 4 (by decide) (hT _ nh_fl_S_46) (fun _ h9 => h9) rfl nd_S_draftOf_31 ?_
  refine g_callv (va_runI (As := [.int (nI (L + 1)), .ref r, .ref t, .int o, .int n]) (rest := [.ref qn]) ⟨hx, hb, hml, hown, hts⟩ (c_Q_init l G w5 qn r t (nI (L + 1)) o n h_qn) (cwI 5 hts (nw_of (nw_0 nh_co_Q_init)) rfl rfl rfl (hT _ nh_in_Q) (hT _ nh_ml_S_105) (hT _ nh_im_Q_init) rfl (by decide +kernel) ⟨Nat.le_of_ble_eq_true rfl, Nat.le_of_ble_eq_true rfl⟩) (g_preS hK hw hS _) rfl rfl hl.1 rfl (lv_room (Nat.le_of_ble_eq_true rfl)) nd_S_draftOf_34 ⟨by exact Nat.le_of_ble_eq_true rfl, by exact Nat.le_of_ble_eq_true rfl⟩) hS (fun w7 H locs hp hw hS => ?_)
  have hfr : w qn = none := by
    have h9 := hn_qn
    rw [ew4, va_up_ne _ _ (fun z => ?_)] at h9
    · exact h9
    · rw [z, ew4, va_up_self] at hn_qn
      cases hn_qn
  exact g_aret hx hb hr hlocks hw hS (⟨hfr, by rw [hp, ew6, ew4, bx_uu]⟩) (by exact Nat.le_of_ble_eq_true rfl) (by exact Nat.le_of_ble_eq_true rfl) nd_S_draftOf_37
end
section
/-! The shelf in pure words: its slots, its builder, what a call leaves. -/
def tr_So (cJ cL cB : Nat) (Z : Int32 → Prop) (w : tr_W) (q : Nat) (s : Int32) (r t o n : Nat) (f : Nat → Int64) : Prop :=
  w q = some (tr_S s r t (nI o) (nI n)) ∧ o < 32768 ∧ n ≤ 3000 ∧ tr_okR cJ cL cB w r ∧ tr_okL cJ w t ∧ tr_Av w r t Z ∧ ∀ i, i < n → tr_vl w r t (tr_tb o n) ((o + i) % 32768) = f i
def tr_Sq (cJ cL cB : Nat) (Z : Int32 → Prop) (w : tr_W) (q n : Nat) (f : Nat → Int64) : Prop := ∃ s r t o, tr_So cJ cL cB Z w q s r t o n f
/-- no node's array -/
def tr_Fre (w : tr_W) (a : Nat) : Prop := ∀ k n, tr_isN w k n → tr_arr w n ≠ a
theorem tr_vl_same {cJ cL cB : Nat} {w w' : tr_W} {r t T p : Nat} (hR : tr_okR cJ cL cB w r) (hp : p < 32768) (hl : ∀ b, b < 1024 → tr_lfb w' r b = tr_lfb w r b) (sz : ∀ b, b < 1024 → tr_Same w w' (tr_lfb w r b)) (st : tr_Same w w' t) : tr_vl w' r t T p = tr_vl w r t T p := by
  have hb : p / 32 < 1024 := by omega
  unfold tr_vl tr_blk
  by_cases e : p / 32 = T
  · rw [if_pos e, if_pos e]; exact st.val _
  · rw [if_neg e, if_neg e, hl _ hb]; exact (sz _ hb).val _
theorem tr_So_same {cJ cL cB : Nat} {Z : Int32 → Prop} {w w' : tr_W} {q r t o n : Nat} {s : Int32} {f : Nat → Int64} (h : tr_So cJ cL cB Z w q s r t o n f) (hq : w' q = w q) (hs : ∀ k m, tr_isN w k m → Z (tr_stp w m) → tr_Same w w' m) : tr_So cJ cL cB Z w' q s r t o n f := by
  obtain ⟨hq0, ho, hn, hR, ht, hA, hv⟩ := h
  have sr := hs _ _ hR.1 hA.1
  have sy : ∀ i, i < 32 → tr_Same w w' (tr_brn w r i) := fun i hi => hs _ _ (hR.br hi).1 (hA.2.1 i hi)
  have sz : ∀ b, b < 1024 → tr_Same w w' (tr_lfb w r b) := fun b hb => hs _ _ (hR.lf hb).1 (hA.2.2.1 b hb)
  have st := hs _ _ ht.1 hA.2.2.2
  obtain ⟨R', b', l'⟩ := tr_okR_same hR sr sy sz
  refine ⟨hq.trans hq0, ho, hn, R', tr_okL_same ht st, ⟨by rw [sr.stp]; exact hA.1, fun i hi => by rw [b' i, (sy i hi).stp]; exact hA.2.1 i hi, fun b hb => by rw [l' b hb, (sz b hb).stp]; exact hA.2.2.1 b hb, by rw [st.stp]; exact hA.2.2.2⟩, fun i hi => ?_⟩
  rw [← hv i hi]
  exact tr_vl_same hR (by omega) l' sz st
theorem tr_So_Z {cJ cL cB : Nat} {Z Z' : Int32 → Prop} {w : tr_W} {q r t o n : Nat} {s : Int32} {f : Nat → Int64} (h : tr_So cJ cL cB Z w q s r t o n f) (hz : ∀ k m, tr_isN w k m → Z (tr_stp w m) → Z' (tr_stp w m)) : tr_So cJ cL cB Z' w q s r t o n f := by
  obtain ⟨hq0, ho, hn, hR, ht, hA, hv⟩ := h
  exact ⟨hq0, ho, hn, hR, ht, ⟨hz _ _ hR.1 hA.1, fun i hi => hz _ _ (hR.br hi).1 (hA.2.1 i hi), fun b hb => hz _ _ (hR.lf hb).1 (hA.2.2.1 b hb), hz _ _ ht.1 hA.2.2.2⟩, hv⟩
theorem tr_Df.so {cJ cL cB M d : Nat} {Z Z' : Int32 → Prop} {w : tr_W} {q r t o n : Nat} {f : Nat → Int64} (h : tr_Df cJ cL cB M d Z w q r t o n) (hz : ∀ s, Z s → Z' s) (hv : ∀ i, i < n → tr_vl w r t (tr_tb o n) ((o + i) % 32768) = f i) : tr_So cJ cL cB Z' w q (nI d) r t o n f := by
  obtain ⟨hW, hd, hq, ho, hn, hR, ht, hU, hl, hut, -, hA⟩ := h
  exact ⟨hq, ho, hn, hR, ht, ⟨hz _ hA.1, fun i hi => hz _ (hA.2.1 i hi), fun b hb => hz _ (hA.2.2.1 b hb), hz _ hA.2.2.2⟩, hv⟩
theorem tr_Wi.mono {w : tr_W} {M M' : Nat} (h : tr_Wi w M) (hM : M ≤ M') : tr_Wi w M' := ⟨h.1, h.2.1, fun k n hn => by obtain ⟨m, hm, e⟩ := h.2.2 k n hn; exact ⟨m, Nat.le_trans hm hM, e⟩⟩
theorem tr_Wi_all {w w' : tr_W} {M : Nat} (hW : tr_Wi w M) (hs : ∀ k m, tr_isN w k m → tr_Same w w' m) (hb : ∀ k m, tr_isN w' k m → tr_isN w k m) : tr_Wi w' M := by
  refine ⟨fun k n hn => ?_, fun k n k' n' hn hn' e => ?_, fun k n hn => ?_⟩
  · have h := hs _ _ (hb _ _ hn)
    obtain ⟨e, he⟩ := hW.1 _ _ (hb _ _ hn)
    exact ⟨e, by rw [h.arr, h.2]; exact he⟩
  · rw [(hs _ _ (hb _ _ hn)).arr, (hs _ _ (hb _ _ hn')).arr] at e
    exact hW.2.1 _ _ _ _ (hb _ _ hn) (hb _ _ hn') e
  · rw [(hs _ _ (hb _ _ hn)).stp]
    exact hW.2.2 _ _ (hb _ _ hn)
theorem tr_Df_all {cJ cL cB M M' d : Nat} {Z : Int32 → Prop} {w w' : tr_W} {q r t o n : Nat} (hD : tr_Df cJ cL cB M d Z w q r t o n) (hW' : tr_Wi w' M') (hM : M ≤ M') (hq' : w' q = w q) (sm : ∀ k m, tr_isN w k m → tr_Same w w' m) : tr_Df cJ cL cB M' d Z w' q r t o n ∧ ∀ x, x < 32768 → tr_vl w' r t (tr_tb o n) x = tr_vl w r t (tr_tb o n) x := by
  obtain ⟨hW, hd, hq, ho, hn, hR, ht, hU, hl, hut, hz, hav⟩ := hD
  obtain ⟨R3, b3, l3⟩ := tr_okR_all hR sm
  refine ⟨⟨hW', Nat.le_trans hd hM, hq'.trans hq, ho, hn, R3, tr_okL_same ht (sm _ _ ht.1), tr_Ub_all hR hU (fun k m hm => (sm k m hm).1) b3, fun a b ha hb e hs => ?_, fun a ha e hs => ?_, hz, by rw [(sm _ _ hR.1).stp]; exact hav.1, fun i hi => by rw [b3, (sm _ _ (hR.br hi).1).stp]; exact hav.2.1 i hi, fun b hb => by rw [l3 b hb, (sm _ _ (hR.lf hb).1).stp]; exact hav.2.2.1 b hb, by rw [(sm _ _ ht.1).stp]; exact hav.2.2.2⟩, fun p hp => tr_vl_same hR hp l3 (fun b hb => sm _ _ (hR.lf hb).1) (sm _ _ ht.1)⟩
  · rw [l3 a ha, l3 b hb] at e
    rw [l3 a ha, (sm _ _ (hR.lf ha).1).stp] at hs
    exact hl a b ha hb e hs
  · rw [l3 a ha] at e
    rw [(sm _ _ ht.1).stp] at hs
    exact hut a ha e hs
theorem tr_isN_ne {w : tr_W} {k n a c : Nat} {l : List Value} (hn : tr_isN w k n) (ha : w a = some (.inr (c, l))) (hc : 3 ≤ c) : n ≠ a := by
  intro h
  obtain ⟨hk, s, x, hx⟩ := hn
  rw [h, ha] at hx
  injection hx with hx
  injection hx with hx
  injection hx with h1 h2
  rcases hk with hk | hk | hk <;> (rw [← h1] at hk; subst hk; exact absurd hc (by decide))
/-- h's cell is written, a draft is made -/
theorem sh_new {w w' : tr_W} {h qn L : Nat} {fs fs' l : List Value} (hW : tr_Wi w L) (hh : w h = some (.inr (4, fs))) (hn : w qn = none) (e : w' = va_up (va_up w h (some (.inr (4, fs')))) qn (some (.inr (tr_kS, l)))) :
    (∀ a e, w a = some e → a ≠ h → w' a = some e) ∧ (∀ k m, tr_isN w k m → tr_Same w w' m) ∧ (∀ k m, tr_isN w' k m → tr_isN w k m) ∧ tr_Wi w' L := by
  have hne : h ≠ qn := xw_nn hh hn
  have h1 : ∀ a e, w a = some e → a ≠ h → w' a = some e := fun a e' ha hne' => by rw [e, va_up_ne _ _ (xw_nn ha hn), va_up_ne _ _ hne']; exact ha
  have h2 : ∀ k m, tr_isN w k m → tr_Same w w' m := fun k m hm => by
    obtain ⟨e1, he1⟩ := hW.1 k m hm
    obtain ⟨s, x, hx⟩ := hm.2
    exact ⟨by rw [hx]; exact h1 _ _ hx (tr_isN_ne hm hh (by decide)), by rw [he1]; exact h1 _ _ he1 (tr_ne_kind he1 hh)⟩
  have h3 : ∀ k m, tr_isN w' k m → tr_isN w k m := fun k m hm => by
    have hq : w' qn = some (.inr (tr_kS, l)) := by rw [e]; exact va_up_self _ _ _
    have hh' : w' h = some (.inr (4, fs')) := by rw [e, va_up_ne _ _ hne]; exact va_up_self _ _ _
    have e1 : w' m = w m := by rw [e, va_up_ne _ _ (tr_isN_ne hm hq (by decide)), va_up_ne _ _ (tr_isN_ne hm hh' (by decide))]
    exact tr_isN_eq e1.symm hm
  exact ⟨h1, h2, h3, tr_Wi_all hW h2 h3⟩
/-- h's cell alone is written -/
theorem sh_put4 {w w' : tr_W} {h L : Nat} {fs fs' : List Value} (hW : tr_Wi w L) (hh : w h = some (.inr (4, fs))) (e : w' = va_up w h (some (.inr (4, fs')))) :
    (∀ a, a ≠ h → w' a = w a) ∧ (∀ k m, tr_isN w k m → tr_Same w w' m) ∧ (∀ k m, tr_isN w' k m → tr_isN w k m) ∧ tr_Wi w' L := by
  have h1 : ∀ a, a ≠ h → w' a = w a := fun a ha => by rw [e, va_up_ne _ _ ha]
  have h2 : ∀ k m, tr_isN w k m → tr_Same w w' m := fun k m hm => by
    obtain ⟨e1, he1⟩ := hW.1 k m hm
    exact ⟨h1 _ (tr_isN_ne hm hh (by decide)), h1 _ (tr_ne_kind he1 hh)⟩
  have h3 : ∀ k m, tr_isN w' k m → tr_isN w k m := fun k m hm => by
    have hh' : w' h = some (.inr (4, fs')) := by rw [e]; exact va_up_self _ _ _
    exact tr_isN_eq (h1 _ (tr_isN_ne hm hh' (by decide))).symm hm
  exact ⟨h1, h2, h3, tr_Wi_all hW h2 h3⟩
/-- a free array is written -/
theorem sh_putA {w w' : tr_W} {a L : Nat} {e0 e1 : ClassId × vp_A} (hW : tr_Wi w L) (ha : w a = some (.inl e0)) (hf : tr_Fre w a) (e : w' = va_up w a (some (.inl e1))) :
    (∀ x, x ≠ a → w' x = w x) ∧ (∀ k m, tr_isN w k m → tr_Same w w' m) ∧ (∀ k m, tr_isN w' k m → tr_isN w k m) ∧ tr_Wi w' L := by
  have h1 : ∀ x, x ≠ a → w' x = w x := fun x hx => by rw [e, va_up_ne _ _ hx]
  have h2 : ∀ k m, tr_isN w k m → tr_Same w w' m := fun k m hm => by rw [e]; exact tr_st_same ha hm (hf k m hm)
  have h3 : ∀ k m, tr_isN w' k m → tr_isN w k m := fun k m hm => by rw [e] at hm; exact (tr_st_node hm).2.1
  exact ⟨h1, h2, h3, tr_Wi_all hW h2 h3⟩
theorem tr_Fre_all {w w' : tr_W} {a : Nat} (h : tr_Fre w a) (hs : ∀ k m, tr_isN w k m → tr_Same w w' m) (hb : ∀ k m, tr_isN w' k m → tr_isN w k m) : tr_Fre w' a := fun k n hn => by rw [(hs _ _ (hb _ _ hn)).arr]; exact h k n (hb _ _ hn)
theorem tr_Fre_Kp {d q a : Nat} {w w' : tr_W} (h : tr_Fre w a) (ha : w a ≠ none) (hK : tr_Kp d q w w') : tr_Fre w' a := fun k n hn => by
  rcases hK.2.1 k n hn with e | ⟨-, e⟩
  · rw [tr_arr_eq e]; exact h k n (tr_isN_eq e.symm hn)
  · intro z
    rw [z] at e
    exact ha e
def sh_Z (bd : Option (Nat × Nat)) (s : Int32) : Prop := ∀ q d, bd = some (q, d) → s ≠ nI d
/-- the shelf at h: op the builder is there, sz and vs the sizes and values (16: the builder's) -/
def sh_I (G : g_G) (w : xw_W) (h e0 sl : Nat) (op : Bool) (sz : Nat → Nat) (vs : Nat → Nat → Int64) (L : Nat) (bd : Option (Nat × Nat)) (g : Nat → Option Nat) : Prop :=
  w h = some (.inr (4, [.ref e0, .ref sl, va_rf (bd.map (·.1)), .int (nI L)])) ∧ w sl = some (.inl (G.2.1 3, 16, .inr (.inr (.inr (.inr g))))) ∧ tr_Wi w L ∧ tr_Fre w sl ∧ bd.isSome = op ∧
  (∀ k, k < 16 → ∃ q, g k = some q ∧ (∀ d, bd ≠ some (q, d)) ∧ tr_Sq (G.2.1 0) (G.2.1 1) (G.2.1 2) (sh_Z bd) w q (sz k) (vs k)) ∧
  ((∀ d, bd ≠ some (e0, d)) ∧ ∃ s r t, tr_So (G.2.1 0) (G.2.1 1) (G.2.1 2) (sh_Z bd) w e0 s r t 0 0 (fun _ => 0)) ∧
  ∀ q d, bd = some (q, d) → ∃ r t o, tr_Df (G.2.1 0) (G.2.1 1) (G.2.1 2) L d (fun _ => True) w q r t o (sz 16) ∧ ∀ i, i < sz 16 → tr_vl w r t (tr_tb o (sz 16)) ((o + i) % 32768) = vs 16 i
def sh_O (w : xw_W) (h sl a : Nat) : Prop := (∃ e, w a = some e ∧ ∀ l, e ≠ .inr (tr_kS, l)) ∧ a ≠ h ∧ a ≠ sl ∧ tr_Fre w a
def sh_F (h sl : Nat) (w w' : xw_W) : Prop := ∀ a, sh_O w h sl a → w' a = w a ∧ sh_O w' h sl a
theorem sh_F.rf {h sl : Nat} {w : xw_W} : sh_F h sl w w := fun _ ha => ⟨rfl, ha⟩
theorem sh_F.tr {h sl : Nat} {w w1 w2 : xw_W} (a : sh_F h sl w w1) (b : sh_F h sl w1 w2) : sh_F h sl w w2 := fun x hx => ⟨(b x (a x hx).2).1.trans (a x hx).1, (b x (a x hx).2).2⟩
theorem sh_O.to {w w' : xw_W} {h sl a : Nat} (hO : sh_O w h sl a) (e : w' a = w a) (hf : tr_Fre w' a) : sh_O w' h sl a := by
  obtain ⟨⟨x, hx, hl⟩, h1, h2, -⟩ := hO
  exact ⟨⟨x, e.trans hx, hl⟩, h1, h2, hf⟩
theorem sh_O.nn {w : xw_W} {h sl a : Nat} (hO : sh_O w h sl a) : w a ≠ none := by
  obtain ⟨⟨x, hx, -⟩, -⟩ := hO
  rw [hx]; exact fun z => by cases z
/-- the shelf with a draft just made -/
theorem sh_draft {G : g_G} {w w1 : xw_W} {h e0 sl L : Nat} {op : Bool} {sz : Nat → Nat} {vs : Nat → Nat → Int64} {bd : Option (Nat × Nat)} {g : Nat → Option Nat} (hI : sh_I G w h e0 sl op sz vs L bd g) (hL : L + 1 < 2 ^ 31) {q qn r t o n : Nat} {s : Int32} {f : Nat → Int64} (hS : tr_So (G.2.1 0) (G.2.1 1) (G.2.1 2) (sh_Z bd) w q s r t o n f) (hn : w qn = none)
    (e : w1 = va_up (va_up w h (some (.inr (4, [.ref e0, .ref sl, va_rf (bd.map (·.1)), .int (nI (L + 1))])))) qn (some (tr_S (nI (L + 1)) r t (nI o) (nI n)))) :
    tr_Df (G.2.1 0) (G.2.1 1) (G.2.1 2) (L + 1) (L + 1) (sh_Z bd) w1 qn r t o n ∧ (∀ i, i < n → tr_vl w1 r t (tr_tb o n) ((o + i) % 32768) = f i) ∧ (∀ a, ¬ tr_Own w1 (L + 1) a) := by
  obtain ⟨hh, hsl, hW, hfr, -, -, -, hbd⟩ := hI
  obtain ⟨a1, s1, b1, W1⟩ := sh_new hW hh hn e
  obtain ⟨hq0, ho, hn3, hR, ht, hA, hv⟩ := hS
  obtain ⟨R1, br1, l1⟩ := tr_okR_all hR s1
  have big : ∀ k m, tr_isN w1 k m → tr_stp w1 m ≠ nI (L + 1) := fun k m hm z => by
    obtain ⟨j, hj, ej⟩ := W1.2.2 k m hm
    rw [ej] at z
    have := (nI_eq (by omega) (by omega)).mp z
    omega
  refine ⟨⟨W1.mono (by omega), Nat.le_refl _, by rw [e]; exact va_up_self _ _ _, ho, hn3, R1, tr_okL_same ht (s1 _ _ ht.1), fun i j hi _ _ hs => absurd hs (big _ _ (R1.br hi).1), fun a b ha _ _ hs => absurd hs (big _ _ (R1.lf ha).1), fun a _ _ hs => absurd hs (big _ _ (tr_isN_eq (s1 _ _ ht.1).1 ht.1)), fun q' d' hq' z => ?_, by rw [(s1 _ _ hR.1).stp]; exact hA.1, fun i hi => by rw [br1 i, (s1 _ _ (hR.br hi).1).stp]; exact hA.2.1 i hi, fun b hb => by rw [l1 b hb, (s1 _ _ (hR.lf hb).1).stp]; exact hA.2.2.1 b hb, by rw [(s1 _ _ ht.1).stp]; exact hA.2.2.2⟩, fun i hi => ?_, fun a ⟨k, m, hm, hs, _⟩ => big k m hm hs⟩
  · obtain ⟨r', t', o', hD, -⟩ := hbd q' d' hq'
    have := (nI_eq (by omega) (by have := hD.2.1; omega)).mp z
    have := hD.2.1
    omega
  · rw [← hv i hi]
    exact tr_vl_same hR (by omega) l1 (fun b hb => s1 _ _ (hR.lf hb).1) (s1 _ _ ht.1)
theorem sh_kept {w w1 w2 : xw_W} {h qn d : Nat} (a1 : ∀ a e, w a = some e → a ≠ h → w1 a = some e) (hn : w qn = none) (ho : ∀ a, ¬ tr_Own w1 d a) (hK : tr_Kp d qn w1 w2) : ∀ a e, w a = some e → a ≠ h → w2 a = some e := fun a e ha hne => hK.1 a e (a1 a e ha hne) (xw_nn ha hn) (ho a)
theorem sh_same {w w2 : xw_W} {h L : Nat} {fs : List Value} (hW : tr_Wi w L) (hh : w h = some (.inr (4, fs))) (a2 : ∀ a e, w a = some e → a ≠ h → w2 a = some e) : ∀ k m, tr_isN w k m → tr_Same w w2 m := fun k m hm => by
  obtain ⟨e1, he1⟩ := hW.1 k m hm
  obtain ⟨s, x, hx⟩ := hm.2
  exact ⟨by rw [hx]; exact a2 _ _ hx (tr_isN_ne hm hh (by decide)), by rw [he1]; exact a2 _ _ he1 (tr_ne_kind he1 hh)⟩
theorem tr_So.ne4 {cJ cL cB : Nat} {Z : Int32 → Prop} {w : tr_W} {q r t o n h : Nat} {s : Int32} {f : Nat → Int64} {fs : List Value} (hS : tr_So cJ cL cB Z w q s r t o n f) (hh : w h = some (.inr (4, fs))) : q ≠ h := xw_ne hS.1 hh (fun z => by injection z with z; injection z with z; exact absurd z (by decide))
theorem tr_So.neA {cJ cL cB : Nat} {Z : Int32 → Prop} {w : tr_W} {q r t o n a : Nat} {s : Int32} {f : Nat → Int64} {e : ClassId × vp_A} (hS : tr_So cJ cL cB Z w q s r t o n f) (ha : w a = some (.inl e)) : q ≠ a := Ne.symm (tr_ne_kind ha hS.1)
/-- a call's draft, edited, put into a slot -/
theorem sh_call {G : g_G} {w w1 w2 w3 : xw_W} {h e0 sl L : Nat} {op : Bool} {sz : Nat → Nat} {vs : Nat → Nat → Int64} {bd : Option (Nat × Nat)} {g : Nat → Option Nat} (hI : sh_I G w h e0 sl op sz vs L bd g) {qn r' t' o' n' slot : Nat} {l : List Value} {f' : Nat → Int64} (hn : w qn = none)
    (e : w1 = va_up (va_up w h (some (.inr (4, [.ref e0, .ref sl, va_rf (bd.map (·.1)), .int (nI (L + 1))])))) qn (some (.inr (tr_kS, l)))) (ho : ∀ a, ¬ tr_Own w1 (L + 1) a) (hK : tr_Kp (L + 1) qn w1 w2)
    (hD : tr_Df (G.2.1 0) (G.2.1 1) (G.2.1 2) (L + 1) (L + 1) (sh_Z bd) w2 qn r' t' o' n') (hv : ∀ i, i < n' → tr_vl w2 r' t' (tr_tb o' n') ((o' + i) % 32768) = f' i) (e3 : w3 = va_up w2 sl (some (.inl (G.2.1 3, 16, .inr (.inr (.inr (.inr (va_up g slot (some qn))))))))) (hs16 : slot < 16) :
    sh_I G w3 h e0 sl op (va_up sz slot n') (va_up vs slot f') (L + 1) bd (va_up g slot (some qn)) ∧ sh_F h sl w w3 := by
  obtain ⟨hh, hsl, hW, hfr, hop, hsq, ⟨hne0, s0, r0, t0, h0⟩, hbd⟩ := hI
  obtain ⟨a1, s1, b1, W1⟩ := sh_new hW hh hn e
  have a2 := sh_kept a1 hn ho hK
  have hsl1 : w1 sl = some (.inl (G.2.1 3, 16, .inr (.inr (.inr (.inr g))))) := a1 _ _ hsl (tr_ne_kind hsl hh)
  have hsl2 : w2 sl = some (.inl (G.2.1 3, 16, .inr (.inr (.inr (.inr g))))) := a2 _ _ hsl (tr_ne_kind hsl hh)
  have hqnh : h ≠ qn := xw_nn hh hn
  have hh1 : w1 h = some (.inr (4, [.ref e0, .ref sl, va_rf (bd.map (·.1)), .int (nI (L + 1))])) := by rw [e, va_up_ne _ _ hqnh]; exact va_up_self _ _ _
  have hh2 := hK.1 _ _ hh1 hqnh (ho h)
  have fr2 : tr_Fre w2 sl := tr_Fre_Kp (tr_Fre_all hfr s1 b1) (by rw [hsl1]; exact fun z => by cases z) hK
  obtain ⟨p3, s3, b3, W3⟩ := sh_putA hD.1 hsl2 fr2 e3
  have s2 := sh_same hW hh a2
  have s13 : ∀ k m, tr_isN w k m → tr_Same w w3 m := fun k m hm => (s2 k m hm).tr (s3 k m (tr_isN_eq (s2 k m hm).1 hm))
  have k13 : ∀ a e, w a = some e → a ≠ h → a ≠ sl → w3 a = w a := fun a e ha h1 h2 => by rw [p3 a h2, a2 a e ha h1, ha]
  have hnb : ∀ d, bd ≠ some (qn, d) := fun d z => by
    obtain ⟨r9, t9, o9, D9, -⟩ := hbd _ _ z
    have := D9.2.2.1
    rw [hn] at this
    cases this
  refine ⟨⟨?_, ?_, W3, tr_Fre_all fr2 s3 b3, hop, fun k hk => ?_, ⟨hne0, s0, r0, t0, tr_So_same h0 (k13 _ _ h0.1 (h0.ne4 hh) (h0.neA hsl)) (fun k m hm _ => s13 k m hm)⟩, fun q d hqd => ?_⟩, fun a hO => ?_⟩
  · rw [p3 h (Ne.symm (tr_ne_kind hsl2 hh2))]; exact hh2
  · rw [e3]; exact va_up_self _ _ _
  · by_cases ek : k = slot
    · subst ek
      rw [va_up_self, va_up_self, va_up_self]
      refine ⟨qn, rfl, hnb, nI (L + 1), r', t', o', tr_So_same (hD.so (fun _ h => h) hv) (p3 _ ?_) (fun k m hm _ => s3 k m hm)⟩
      exact Ne.symm (tr_ne_kind hsl2 hD.2.2.1)
    · rw [va_up_ne _ _ ek, va_up_ne _ _ ek, va_up_ne _ _ ek]
      obtain ⟨q, hg, hb, s9, r9, t9, o9, hS⟩ := hsq k hk
      exact ⟨q, hg, hb, s9, r9, t9, o9, tr_So_same hS (k13 _ _ hS.1 (hS.ne4 hh) (hS.neA hsl)) (fun k m hm _ => s13 k m hm)⟩
  · have h16 : (16 : Nat) ≠ slot := by omega
    rw [va_up_ne _ _ h16, va_up_ne _ _ h16]
    obtain ⟨r9, t9, o9, D9, v9⟩ := hbd q d hqd
    have so := D9.so (Z' := fun _ => True) (fun _ _ => trivial) v9
    obtain ⟨D3, v3⟩ := tr_Df_all D9 W3 (by omega) (k13 _ _ so.1 (so.ne4 hh) (so.neA hsl)) s13
    exact ⟨r9, t9, o9, D3, fun i hi => by rw [v3 _ (by omega)]; exact v9 i hi⟩
  · obtain ⟨⟨x, hx, hl⟩, n1, n2, f1⟩ := id hO
    have e9 := k13 a x hx n1 n2
    have f2 : tr_Fre w2 a := tr_Fre_Kp (tr_Fre_all f1 s1 b1) (by rw [a1 a x hx n1]; exact fun z => by cases z) hK
    exact ⟨e9, hO.to e9 (tr_Fre_all f2 s3 b3)⟩
/-- the builder is made -/
theorem sh_opens {G : g_G} {w w1 w2 : xw_W} {h e0 sl L : Nat} {sz : Nat → Nat} {vs : Nat → Nat → Int64} {g : Nat → Option Nat} (hI : sh_I G w h e0 sl false sz vs L none g) (hL : L + 1 < 2 ^ 31) {q qn r t o n : Nat} {s : Int32} {f : Nat → Int64} (hS : tr_So (G.2.1 0) (G.2.1 1) (G.2.1 2) (sh_Z none) w q s r t o n f) (hn : w qn = none)
    (e : w1 = va_up (va_up w h (some (.inr (4, [.ref e0, .ref sl, .null, .int (nI (L + 1))])))) qn (some (tr_S (nI (L + 1)) r t (nI o) (nI n)))) (e2 : w2 = va_up w1 h (some (.inr (4, [.ref e0, .ref sl, .ref qn, .int (nI (L + 1))])))) :
    sh_I G w2 h e0 sl true (va_up sz 16 n) (va_up vs 16 f) (L + 1) (some (qn, L + 1)) g ∧ sh_F h sl w w2 := by
  obtain ⟨D1, v1, o1⟩ := sh_draft hI hL hS hn e
  obtain ⟨hh, hsl, hW, hfr, hop, hsq, ⟨hne0, s0, r0, t0, h0⟩, hbd⟩ := hI
  obtain ⟨a1, s1, b1, W1⟩ := sh_new hW hh hn e
  have hqnh : h ≠ qn := xw_nn hh hn
  have hh1 : w1 h = some (.inr (4, [.ref e0, .ref sl, .null, .int (nI (L + 1))])) := by rw [e, va_up_ne _ _ hqnh]; exact va_up_self _ _ _
  obtain ⟨p2, s2, b2, W2⟩ := sh_put4 W1 hh1 e2
  have s12 : ∀ k m, tr_isN w k m → tr_Same w w2 m := fun k m hm => (s1 k m hm).tr (s2 k m (tr_isN_eq (s1 k m hm).1 hm))
  have b12 : ∀ k m, tr_isN w2 k m → tr_isN w k m := fun k m hm => b1 _ _ (b2 _ _ hm)
  have k12 : ∀ a e, w a = some e → a ≠ h → w2 a = w a := fun a e ha h1 => by rw [p2 a h1, a1 a e ha h1, ha]
  have big : ∀ k m, tr_isN w2 k m → sh_Z none (tr_stp w2 m) → sh_Z (some (qn, L + 1)) (tr_stp w2 m) := fun k m hm _ q' d' hq' z => by
    obtain ⟨j, hj, ej⟩ := W2.2.2 k m hm
    cases hq'
    rw [ej] at z
    have := (nI_eq (by omega) (by omega)).mp z
    omega
  have lift : ∀ {q s r t o n f}, tr_So (G.2.1 0) (G.2.1 1) (G.2.1 2) (sh_Z none) w q s r t o n f → tr_So (G.2.1 0) (G.2.1 1) (G.2.1 2) (sh_Z (some (qn, L + 1))) w2 q s r t o n f := fun hS => tr_So_Z (tr_So_same hS (k12 _ _ hS.1 (hS.ne4 hh)) (fun k m hm _ => s12 k m hm)) big
  refine ⟨⟨by rw [e2]; exact va_up_self _ _ _, ?_, W2.mono (by omega), tr_Fre_all hfr s12 b12, rfl, fun k hk => ?_, ⟨fun d z => ?_, s0, r0, t0, lift h0⟩, fun q9 d9 hqd => ?_⟩, fun a hO => ?_⟩
  · rw [k12 _ _ hsl (tr_ne_kind hsl hh)]; exact hsl
  · have h16 : k ≠ 16 := by omega
    rw [va_up_ne _ _ h16, va_up_ne _ _ h16]
    obtain ⟨q, hg, hb, s9, r9, t9, o9, hS⟩ := hsq k hk
    refine ⟨q, hg, fun d z => ?_, s9, r9, t9, o9, lift hS⟩
    cases z
    exact xw_nn hS.1 hn rfl
  · cases z
    exact xw_nn h0.1 hn rfl
  · cases hqd
    rw [va_up_self, va_up_self]
    obtain ⟨D2, v2⟩ := tr_Df_all D1 (W2.mono (by omega)) (Nat.le_refl _) (p2 _ (Ne.symm hqnh)) s2
    obtain ⟨hW9, hd9, hq9, ho9, hn9, hR9, ht9, hU9, hl9, hut9, -, -⟩ := D2
    exact ⟨r, t, o, ⟨hW9, hd9, hq9, ho9, hn9, hR9, ht9, hU9, hl9, hut9, trivial, trivial, fun _ _ => trivial, fun _ _ => trivial, trivial⟩, fun i hi => by rw [v2 _ (by omega)]; exact v1 i hi⟩
  · obtain ⟨⟨x, hx, hl⟩, n1, n2, f1⟩ := id hO
    have e9 := k12 a x hx n1
    exact ⟨e9, hO.to e9 (tr_Fre_all f1 s12 b12)⟩
/-- the builder is edited -/
theorem sh_edit {G : g_G} {w w2 : xw_W} {h e0 sl L qb d : Nat} {op : Bool} {sz : Nat → Nat} {vs : Nat → Nat → Int64} {g : Nat → Option Nat} (hI : sh_I G w h e0 sl op sz vs L (some (qb, d)) g) {r' t' o' n' : Nat} {f' : Nat → Int64} (hK : tr_Kp d qb w w2)
    (hD : tr_Df (G.2.1 0) (G.2.1 1) (G.2.1 2) L d (fun _ => True) w2 qb r' t' o' n') (hv : ∀ i, i < n' → tr_vl w2 r' t' (tr_tb o' n') ((o' + i) % 32768) = f' i) :
    sh_I G w2 h e0 sl op (va_up sz 16 n') (va_up vs 16 f') L (some (qb, d)) g ∧ sh_F h sl w w2 := by
  obtain ⟨hh, hsl, hW, hfr, hop, hsq, ⟨hne0, s0, r0, t0, h0⟩, hbd⟩ := hI
  obtain ⟨r9, t9, o9, D9, v9⟩ := hbd _ _ rfl
  have hqb := D9.2.2.1
  have own : ∀ a, tr_Fre w a → ¬ tr_Own w d a := fun a hf ⟨k, n, hn, _, hx⟩ => hf k n hn hx.symm
  have ownR : ∀ a c l, w a = some (.inr (c, l)) → ¬ tr_Own w d a := fun a c l ha ⟨k, n, hn, _, hx⟩ => by
    obtain ⟨e9, he9⟩ := hW.1 k n hn
    rw [← hx, ha] at he9
    cases he9
  have sm : ∀ k m, tr_isN w k m → sh_Z (some (qb, d)) (tr_stp w m) → tr_Same w w2 m := fun k m hm hz => tr_node_kept hW hK hqb hm (hz _ _ rfl)
  have hnhq : h ≠ qb := xw_ne hh hqb (fun z => by injection z with z; injection z with z; exact absurd z (by decide))
  have lift : ∀ {q s r t o n f}, q ≠ qb → tr_So (G.2.1 0) (G.2.1 1) (G.2.1 2) (sh_Z (some (qb, d))) w q s r t o n f → tr_So (G.2.1 0) (G.2.1 1) (G.2.1 2) (sh_Z (some (qb, d))) w2 q s r t o n f := fun hne hS => tr_So_same hS (by rw [hS.1]; exact hK.1 _ _ hS.1 hne (ownR _ _ _ hS.1)) sm
  have hsl2 := hK.1 _ _ hsl (tr_ne_kind hsl hqb) (own _ hfr)
  refine ⟨⟨hK.1 _ _ hh hnhq (ownR _ _ _ hh), hsl2, hD.1, tr_Fre_Kp hfr (by rw [hsl]; exact fun z => by cases z) hK, hop, fun k hk => ?_, ⟨hne0, s0, r0, t0, lift (fun z => hne0 d (by rw [z])) h0⟩, fun q9 d9 hqd => ?_⟩, fun a hO => ?_⟩
  · have h16 : k ≠ 16 := by omega
    rw [va_up_ne _ _ h16, va_up_ne _ _ h16]
    obtain ⟨q, hg, hb, s9, r9, t9, o9, hS⟩ := hsq k hk
    exact ⟨q, hg, hb, s9, r9, t9, o9, lift (fun z => hb d (by rw [z])) hS⟩
  · cases hqd
    rw [va_up_self, va_up_self]
    exact ⟨r', t', o', hD, hv⟩
  · obtain ⟨⟨x, hx, hl⟩, n1, n2, f1⟩ := id hO
    have e9 : w2 a = w a := by
      rw [hx]
      refine hK.1 a x hx (fun z => ?_) (own a f1)
      rw [z, hqb] at hx
      exact hl _ (Option.some.inj hx).symm
    exact ⟨e9, hO.to e9 (tr_Fre_Kp f1 hO.nn hK)⟩
/-- the builder goes into a slot -/
theorem sh_freezes {G : g_G} {w w1 w2 : xw_W} {h e0 sl L qb d slot : Nat} {op : Bool} {sz : Nat → Nat} {vs : Nat → Nat → Int64} {g : Nat → Option Nat} (hI : sh_I G w h e0 sl op sz vs L (some (qb, d)) g) (hs16 : slot < 16)
    (e1 : w1 = va_up w sl (some (.inl (G.2.1 3, 16, .inr (.inr (.inr (.inr (va_up g slot (some qb))))))))) (e2 : w2 = va_up w1 h (some (.inr (4, [.ref e0, .ref sl, .null, .int (nI L)])))) :
    sh_I G w2 h e0 sl false (va_up sz slot (sz 16)) (va_up vs slot (vs 16)) L none (va_up g slot (some qb)) ∧ sh_F h sl w w2 := by
  obtain ⟨hh, hsl, hW, hfr, hop, hsq, ⟨hne0, s0, r0, t0, h0⟩, hbd⟩ := hI
  obtain ⟨r9, t9, o9, D9, v9⟩ := hbd _ _ rfl
  obtain ⟨p1, s1, b1, W1⟩ := sh_putA hW hsl hfr e1
  have hne : h ≠ sl := Ne.symm (tr_ne_kind hsl hh)
  obtain ⟨p2, s2, b2, W2⟩ := sh_put4 W1 ((p1 h hne).trans hh) e2
  have s12 : ∀ k m, tr_isN w k m → tr_Same w w2 m := fun k m hm => (s1 k m hm).tr (s2 k m (tr_isN_eq (s1 k m hm).1 hm))
  have b12 : ∀ k m, tr_isN w2 k m → tr_isN w k m := fun k m hm => b1 _ _ (b2 _ _ hm)
  have k12 : ∀ a, a ≠ h → a ≠ sl → w2 a = w a := fun a h1 h2 => by rw [p2 a h1, p1 a h2]
  have lift : ∀ {Z : Int32 → Prop} {q s r t o n f}, tr_So (G.2.1 0) (G.2.1 1) (G.2.1 2) Z w q s r t o n f → tr_So (G.2.1 0) (G.2.1 1) (G.2.1 2) (sh_Z none) w2 q s r t o n f := fun hS => tr_So_Z (tr_So_same hS (k12 _ (hS.ne4 hh) (hS.neA hsl)) (fun k m hm _ => s12 k m hm)) (fun _ _ _ _ _ _ z => by cases z)
  refine ⟨⟨by rw [e2]; exact va_up_self _ _ _, ?_, W2, tr_Fre_all hfr s12 b12, rfl, fun k hk => ?_, ⟨fun d z => (by cases z), s0, r0, t0, lift h0⟩, fun q9 d9 hqd => by cases hqd⟩, fun a hO => ?_⟩
  · rw [p2 _ (Ne.symm hne), e1]; exact va_up_self _ _ _
  · by_cases ek : k = slot
    · subst ek
      rw [va_up_self, va_up_self, va_up_self]
      exact ⟨qb, rfl, fun d z => (by cases z), _, _, _, _, lift (D9.so (Z' := fun _ => True) (fun _ _ => trivial) v9)⟩
    · rw [va_up_ne _ _ ek, va_up_ne _ _ ek, va_up_ne _ _ ek]
      obtain ⟨q, hg, hb, s9, r9, t9, o9, hS⟩ := hsq k hk
      exact ⟨q, hg, fun d z => (by cases z), s9, r9, t9, o9, lift hS⟩
  · obtain ⟨⟨x, hx, hl⟩, n1, n2, f1⟩ := id hO
    exact ⟨k12 a n1 n2, hO.to (k12 a n1 n2) (tr_Fre_all f1 s12 b12)⟩
/-- cells that are none of the shelf's are written: the shelf stays -/
theorem sh_stays {G : g_G} {w w2 : xw_W} {h e0 sl L : Nat} {op : Bool} {sz : Nat → Nat} {vs : Nat → Nat → Int64} {bd : Option (Nat × Nat)} {g : Nat → Option Nat} (hI : sh_I G w h e0 sl op sz vs L bd g) (hk : ∀ a, w2 a ≠ w a → sh_O w h sl a ∧ ∀ k, ¬ tr_isN w k a) (hb : ∀ k m, tr_isN w2 k m → w2 m = w m) :
    sh_I G w2 h e0 sl op sz vs L bd g ∧ ∀ a, sh_O w h sl a → (∃ e, w2 a = some e ∧ ∀ l, e ≠ .inr (tr_kS, l)) → sh_O w2 h sl a := by
  obtain ⟨hh, hsl, hW, hfr, hop, hsq, ⟨hne0, s0, r0, t0, h0⟩, hbd⟩ := hI
  have eq : ∀ a, ¬ (sh_O w h sl a ∧ ∀ k, ¬ tr_isN w k a) → w2 a = w a := fun a ha => Classical.byContradiction (fun z => ha (hk a z))
  have nodes : ∀ k m, tr_isN w k m → tr_Same w w2 m := fun k m hm => ⟨eq _ (fun z => z.2 k hm), eq _ (fun z => z.1.2.2.2 k m hm rfl)⟩
  have back : ∀ k m, tr_isN w2 k m → tr_isN w k m := fun k m hm => tr_isN_eq (hb k m hm).symm hm
  have seq : ∀ q l, w q = some (.inr (tr_kS, l)) → w2 q = w q := fun q l hq => eq _ (fun z => by obtain ⟨⟨x, hx, hl⟩, -⟩ := z.1; rw [hq] at hx; exact hl _ (Option.some.inj hx).symm)
  have eh : w2 h = w h := eq _ (fun z => z.1.2.1 rfl)
  have es : w2 sl = w sl := eq _ (fun z => z.1.2.2.1 rfl)
  have W2 := tr_Wi_all hW nodes back
  refine ⟨⟨eh.trans hh, es.trans hsl, W2, tr_Fre_all hfr nodes back, hop, fun k hk => ?_, ⟨hne0, s0, r0, t0, tr_So_same h0 (seq _ _ h0.1) (fun k m hm _ => nodes k m hm)⟩, fun q d hqd => ?_⟩, fun a hO hx => ⟨hx, hO.2.1, hO.2.2.1, tr_Fre_all hO.2.2.2 nodes back⟩⟩
  · obtain ⟨q, hg, hb, s9, r9, t9, o9, hS⟩ := hsq k hk
    exact ⟨q, hg, hb, s9, r9, t9, o9, tr_So_same hS (seq _ _ hS.1) (fun k m hm _ => nodes k m hm)⟩
  · obtain ⟨r9, t9, o9, D9, v9⟩ := hbd q d hqd
    obtain ⟨D3, v3⟩ := tr_Df_all D9 W2 (Nat.le_refl _) (seq _ _ D9.2.2.1) nodes
    exact ⟨r9, t9, o9, D3, fun i hi => by rw [v3 _ (by omega)]; exact v9 i hi⟩
theorem sh_I.le {G : g_G} {w : xw_W} {h e0 sl L : Nat} {op : Bool} {sz : Nat → Nat} {vs : Nat → Nat → Int64} {bd : Option (Nat × Nat)} {g : Nat → Option Nat} (hI : sh_I G w h e0 sl op sz vs L bd g) {k : Nat} (hk : k < 16) : sz k ≤ 3000 := by
  obtain ⟨-, -, -, -, -, hsq, -⟩ := hI
  obtain ⟨q, hg, hb, s9, r9, t9, o9, hS⟩ := hsq k hk
  exact hS.2.2.1
/-- the shelf after at most K drafts -/
def sh_St (G : g_G) (w : xw_W) (h e0 sl : Nat) (op : Bool) (sz : Nat → Nat) (vs : Nat → Nat → Int64) (K : Nat) : Prop := ∃ L bd g, L ≤ K ∧ sh_I G w h e0 sl op sz vs L bd g
end
section
/-! What each call answers and leaves, on sizes and values (16: the builder's). -/
abbrev sp_S : Type := Bool × (Nat → Nat) × (Nat → Nat → Int64)
abbrev sp_R : Type := Nat × Int64 × sp_S
def sp_sl (a : Int32) : Bool := decide (0 ≤ a) && decide (a ≤ 15)
abbrev sp_ix (a : Int32) : Nat := a.toNatClampNeg
def sp_add (S : sp_S) (a b : Int32) (v : Int64) : sp_R := if sp_sl a && sp_sl b then (if S.2.1 (sp_ix b) < 3000 then (0, (nI (S.2.1 (sp_ix b) + 1)).toInt64, S.1, va_up S.2.1 (sp_ix a) (S.2.1 (sp_ix b) + 1), va_up S.2.2 (sp_ix a) (va_up (S.2.2 (sp_ix b)) (S.2.1 (sp_ix b)) v)) else (2, 0, S)) else (1, 0, S)
def sp_ps (f : Nat → Int64) (v : Int64) : Nat → Int64 := fun i => if i = 0 then v else f (i - 1)
def sp_push (S : sp_S) (a b : Int32) (v : Int64) : sp_R := if sp_sl a && sp_sl b then (if S.2.1 (sp_ix b) < 3000 then (0, (nI (S.2.1 (sp_ix b) + 1)).toInt64, S.1, va_up S.2.1 (sp_ix a) (S.2.1 (sp_ix b) + 1), va_up S.2.2 (sp_ix a) (sp_ps (S.2.2 (sp_ix b)) v)) else (2, 0, S)) else (1, 0, S)
def sp_set (S : sp_S) (a b i : Int32) (v : Int64) : sp_R := if sp_sl a && sp_sl b then (if 0 ≤ i ∧ i < nI (S.2.1 (sp_ix b)) then (0, S.2.2 (sp_ix b) (sp_ix i), S.1, va_up S.2.1 (sp_ix a) (S.2.1 (sp_ix b)), va_up S.2.2 (sp_ix a) (va_up (S.2.2 (sp_ix b)) (sp_ix i) v)) else (2, 0, S)) else (1, 0, S)
def sp_at (S : sp_S) (a i : Int32) : sp_R := if sp_sl a then (if 0 ≤ i ∧ i < nI (S.2.1 (sp_ix a)) then (0, S.2.2 (sp_ix a) (sp_ix i), S) else (2, 0, S)) else (1, 0, S)
def sp_cut (S : sp_S) (a b f k : Int32) : sp_R := if (sp_sl a && sp_sl b) && (decide (0 ≤ f) && decide (0 ≤ k)) then (if sp_ix f + sp_ix k ≤ S.2.1 (sp_ix b) then (0, (nI (S.2.1 (sp_ix b) - (sp_ix f + sp_ix k))).toInt64, S.1, va_up S.2.1 (sp_ix a) (S.2.1 (sp_ix b) - (sp_ix f + sp_ix k)), va_up S.2.2 (sp_ix a) (fun i => S.2.2 (sp_ix b) (sp_ix f + i))) else (2, 0, S)) else (1, 0, S)
def sp_fill (S : sp_S) (a : Int32) (x st : Int64) (n : Int32) : sp_R := if sp_sl a && (decide (0 ≤ n) && decide (n ≤ 2000)) then (0, n.toInt64, S.1, va_up S.2.1 (sp_ix a) (sp_ix n), va_up S.2.2 (sp_ix a) (fun i => x + lN i * st)) else (1, 0, S)
def sp_size (S : sp_S) (a : Int32) : sp_R := if sp_sl a then (0, (nI (S.2.1 (sp_ix a))).toInt64, S) else (1, 0, S)
def sp_hs (f : Nat → Int64) : Nat → Int64
  | 0 => 1
  | n + 1 => 31 * sp_hs f n + f n
def sp_hash (S : sp_S) (a : Int32) : sp_R := if sp_sl a then (0, sp_hs (S.2.2 (sp_ix a)) (S.2.1 (sp_ix a)), S) else (1, 0, S)
def sp_opn (S : sp_S) (a : Int32) : sp_R := if sp_sl a then (if S.1 = false then (0, 0, true, va_up S.2.1 16 (S.2.1 (sp_ix a)), va_up S.2.2 16 (S.2.2 (sp_ix a))) else (2, 0, S)) else (1, 0, S)
def sp_build (S : sp_S) (k i : Int32) (v : Int64) : sp_R := if 0 ≤ k ∧ k ≤ 2 then (if S.1 = true then
    (if k = 0 then (if S.2.1 16 < 3000 then (0, (nI (S.2.1 16 + 1)).toInt64, S.1, va_up S.2.1 16 (S.2.1 16 + 1), va_up S.2.2 16 (va_up (S.2.2 16) (S.2.1 16) v)) else (4, 0, S))
     else if k = 1 then (if 0 ≤ i ∧ i < nI (S.2.1 16) then (0, (nI (S.2.1 16)).toInt64, S.1, va_up S.2.1 16 (S.2.1 16), va_up S.2.2 16 (va_up (S.2.2 16) (sp_ix i) v)) else (3, 0, S))
     else (if 0 < S.2.1 16 then (0, (nI (S.2.1 16 - 1)).toInt64, S.1, va_up S.2.1 16 (S.2.1 16 - 1), va_up S.2.2 16 (S.2.2 16)) else (3, 0, S))) else (2, 0, S)) else (1, 0, S)
def sp_freeze (S : sp_S) (a : Int32) : sp_R := if sp_sl a then (if S.1 = true then (0, (nI (S.2.1 16)).toInt64, false, va_up S.2.1 (sp_ix a) (S.2.1 16), va_up S.2.2 (sp_ix a) (S.2.2 16)) else (2, 0, S)) else (1, 0, S)
theorem sp_sl_of {a : Int32} (h : 0 ≤ a ∧ a ≤ 15) : ∃ i : Nat, i < 16 ∧ a = nI i := by
  obtain ⟨j, hj, e⟩ := nI_of2 (n := 15) (by decide) (Int32.not_lt.mpr h.1) h.2
  exact ⟨j, by omega, e⟩
theorem sp_sl_t {i : Nat} (h : i < 16) : sp_sl (nI i) = true := by
  have h1 : 0 ≤ nI i := nI_pos' (by omega)
  have h2 : nI i ≤ 15 := nI_le (b := 15) (by omega) (by omega)
  simp [sp_sl, h1, h2]
theorem sp_sl_f {a : Int32} (h : ¬ (0 ≤ a ∧ a ≤ 15)) : sp_sl a = false := by
  cases e : sp_sl a with
  | false => rfl
  | true => simp [sp_sl] at e; exact absurd e h
theorem sp_ixn {i : Nat} (h : i < 2 ^ 31) : sp_ix (nI i) = i := nI_clamp h
/-- the shelf between calls, at most K drafts made -/
def sh_S (G : g_G) (w : xw_W) (h e0 sl : Nat) (S : sp_S) (K : Nat) : Prop := ∃ L bd g, L ≤ K ∧ sh_I G w h e0 sl S.1 S.2.1 S.2.2 L bd g
theorem sh_app {f : Nat → Int64} {w w' : tr_W} {r t r1 t1 o n : Nat} {v : Int64} (hn : n ≤ 3000) (V : ∀ x, x < 32768 → tr_vl w' r1 t1 (tr_tb o (n + 1)) x = if x = (o + n) % 32768 then v else tr_vl w r t (tr_tb o n) x) (v0 : ∀ i, i < n → tr_vl w r t (tr_tb o n) ((o + i) % 32768) = f i) : ∀ i, i < n + 1 → tr_vl w' r1 t1 (tr_tb o (n + 1)) ((o + i) % 32768) = va_up f n v i := by
  intro i hi
  rw [V _ (by omega)]
  by_cases e : i = n
  · rw [if_pos (by rw [e]), e, va_up_self]
  · rw [if_neg (by omega), va_up_ne _ _ e]
    exact v0 i (by omega)
theorem sh_pre {f : Nat → Int64} {w w' : tr_W} {r t r1 t1 o n : Nat} {v : Int64} (hn : n < 3000) (V : ∀ x, x < 32768 → tr_vl w' r1 t1 (tr_tb ((o + 32767) % 32768) (n + 1)) x = if x = (o + 32767) % 32768 then v else tr_vl w r t (tr_tb o n) x) (v0 : ∀ i, i < n → tr_vl w r t (tr_tb o n) ((o + i) % 32768) = f i) : ∀ i, i < n + 1 → tr_vl w' r1 t1 (tr_tb ((o + 32767) % 32768) (n + 1)) (((o + 32767) % 32768 + i) % 32768) = sp_ps f v i := by
  intro i hi
  rw [V _ (by omega)]
  unfold sp_ps
  by_cases e : i = 0
  · rw [if_pos (by omega), if_pos e]
  · rw [if_neg (by omega), if_neg e, ← v0 (i - 1) (by omega), show ((o + 32767) % 32768 + i) % 32768 = (o + (i - 1)) % 32768 by omega]
theorem sh_rep {f : Nat → Int64} {w w' : tr_W} {r t r1 t1 o n j : Nat} {v : Int64} (hn : n ≤ 3000) (hj : j < n) (V : ∀ x, x < 32768 → tr_vl w' r1 t1 (tr_tb o n) x = if x = (o + j) % 32768 then v else tr_vl w r t (tr_tb o n) x) (v0 : ∀ i, i < n → tr_vl w r t (tr_tb o n) ((o + i) % 32768) = f i) : ∀ i, i < n → tr_vl w' r1 t1 (tr_tb o n) ((o + i) % 32768) = va_up f j v i := by
  intro i hi
  rw [V _ (by omega)]
  by_cases e : i = j
  · rw [if_pos (by rw [e]), e, va_up_self]
  · rw [if_neg (by omega), va_up_ne _ _ e]
    exact v0 i hi
section SPL
variable {op : Bool} {sz : Nat → Nat} {vs : Nat → Nat → Int64} {i j : Nat} {a b : Int32} {v : Int64}
theorem sp_add_1 (h : ¬ (0 ≤ a ∧ a ≤ 15) ∨ ¬ (0 ≤ b ∧ b ≤ 15)) : sp_add (op, sz, vs) a b v = (1, 0, op, sz, vs) := by
  rcases h with h | h <;> simp [sp_add, sp_sl_f h]
theorem sp_add_2 (hi : i < 16) (hj : j < 16) (h : ¬ sz j < 3000) : sp_add (op, sz, vs) (nI i) (nI j) v = (2, 0, op, sz, vs) := by
  simp only [sp_add, sp_sl_t hi, sp_sl_t hj, Bool.and_self, if_true, sp_ixn (show i < 2 ^ 31 by omega), sp_ixn (show j < 2 ^ 31 by omega), if_neg h]
theorem sp_add_0 (hi : i < 16) (hj : j < 16) (h : sz j < 3000) : sp_add (op, sz, vs) (nI i) (nI j) v = (0, (nI (sz j + 1)).toInt64, op, va_up sz i (sz j + 1), va_up vs i (va_up (vs j) (sz j) v)) := by
  simp only [sp_add, sp_sl_t hi, sp_sl_t hj, Bool.and_self, if_true, sp_ixn (show i < 2 ^ 31 by omega), sp_ixn (show j < 2 ^ 31 by omega), if_pos h]
theorem sp_push_1 (h : ¬ (0 ≤ a ∧ a ≤ 15) ∨ ¬ (0 ≤ b ∧ b ≤ 15)) : sp_push (op, sz, vs) a b v = (1, 0, op, sz, vs) := by
  rcases h with h | h <;> simp [sp_push, sp_sl_f h]
theorem sp_push_2 (hi : i < 16) (hj : j < 16) (h : ¬ sz j < 3000) : sp_push (op, sz, vs) (nI i) (nI j) v = (2, 0, op, sz, vs) := by
  simp only [sp_push, sp_sl_t hi, sp_sl_t hj, Bool.and_self, if_true, sp_ixn (show i < 2 ^ 31 by omega), sp_ixn (show j < 2 ^ 31 by omega), if_neg h]
theorem sp_push_0 (hi : i < 16) (hj : j < 16) (h : sz j < 3000) : sp_push (op, sz, vs) (nI i) (nI j) v = (0, (nI (sz j + 1)).toInt64, op, va_up sz i (sz j + 1), va_up vs i (sp_ps (vs j) v)) := by
  simp only [sp_push, sp_sl_t hi, sp_sl_t hj, Bool.and_self, if_true, sp_ixn (show i < 2 ^ 31 by omega), sp_ixn (show j < 2 ^ 31 by omega), if_pos h]
variable {k : Int32} {x : Nat}
theorem sp_set_1 (h : ¬ (0 ≤ a ∧ a ≤ 15) ∨ ¬ (0 ≤ b ∧ b ≤ 15)) : sp_set (op, sz, vs) a b k v = (1, 0, op, sz, vs) := by
  rcases h with h | h <;> simp [sp_set, sp_sl_f h]
theorem sp_set_2 (hi : i < 16) (hj : j < 16) (h : ¬ (0 ≤ k ∧ k < nI (sz j))) : sp_set (op, sz, vs) (nI i) (nI j) k v = (2, 0, op, sz, vs) := by
  simp only [sp_set, sp_sl_t hi, sp_sl_t hj, Bool.and_self, if_true, sp_ixn (show i < 2 ^ 31 by omega), sp_ixn (show j < 2 ^ 31 by omega), if_neg h]
theorem sp_el {n x : Nat} (hn : n ≤ 3000) (h : x < n) : 0 ≤ nI x ∧ nI x < nI n := ⟨nI_pos' (by omega), nI_lt h (by omega)⟩
theorem sp_elo {n : Nat} {k : Int32} (hn : n ≤ 3000) (h : 0 ≤ k ∧ k < nI n) : ∃ x, x < n ∧ k = nI x := by
  obtain ⟨x, hx, e⟩ := nI_of (Int32.not_lt.mpr h.1)
  subst e
  exact ⟨x, (nI_ltI hx (by omega)).mp h.2, rfl⟩
theorem sp_set_0 (hi : i < 16) (hj : j < 16) (hn : sz j ≤ 3000) (h : x < sz j) : sp_set (op, sz, vs) (nI i) (nI j) (nI x) v = (0, vs j x, op, va_up sz i (sz j), va_up vs i (va_up (vs j) x v)) := by
  simp only [sp_set, sp_sl_t hi, sp_sl_t hj, Bool.and_self, if_true, sp_ixn (show i < 2 ^ 31 by omega), sp_ixn (show j < 2 ^ 31 by omega), if_pos (sp_el hn h), sp_ixn (show x < 2 ^ 31 by omega)]
theorem sp_at_1 (h : ¬ (0 ≤ a ∧ a ≤ 15)) : sp_at (op, sz, vs) a k = (1, 0, op, sz, vs) := by simp [sp_at, sp_sl_f h]
theorem sp_at_2 (hi : i < 16) (h : ¬ (0 ≤ k ∧ k < nI (sz i))) : sp_at (op, sz, vs) (nI i) k = (2, 0, op, sz, vs) := by
  simp only [sp_at, sp_sl_t hi, if_true, sp_ixn (show i < 2 ^ 31 by omega), if_neg h]
theorem sp_at_0 (hi : i < 16) (hn : sz i ≤ 3000) (h : x < sz i) : sp_at (op, sz, vs) (nI i) (nI x) = (0, vs i x, op, sz, vs) := by
  simp only [sp_at, sp_sl_t hi, if_true, sp_ixn (show i < 2 ^ 31 by omega), if_pos (sp_el hn h), sp_ixn (show x < 2 ^ 31 by omega)]
variable {f g : Int32} {y : Nat}
theorem sp_cut_1 (h : ¬ (0 ≤ a ∧ a ≤ 15) ∨ ¬ (0 ≤ b ∧ b ≤ 15) ∨ ¬ 0 ≤ f ∨ ¬ 0 ≤ g) : sp_cut (op, sz, vs) a b f g = (1, 0, op, sz, vs) := by
  rcases h with h | h | h | h
  · simp [sp_cut, sp_sl_f h]
  · simp [sp_cut, sp_sl_f h]
  · simp [sp_cut, h]
  · simp [sp_cut, h]
theorem sp_cut_2 (hi : i < 16) (hj : j < 16) (hx : x < 2 ^ 31) (hy : y < 2 ^ 31) (h : ¬ x + y ≤ sz j) : sp_cut (op, sz, vs) (nI i) (nI j) (nI x) (nI y) = (2, 0, op, sz, vs) := by
  simp only [sp_cut, sp_sl_t hi, sp_sl_t hj, Bool.and_self, if_true, sp_ixn (show i < 2 ^ 31 by omega), sp_ixn (show j < 2 ^ 31 by omega), sp_ixn hx, sp_ixn hy, decide_eq_true (nI_pos' hx), decide_eq_true (nI_pos' hy), if_neg h]
theorem sp_cut_0 (hi : i < 16) (hj : j < 16) (hx : x < 2 ^ 31) (hy : y < 2 ^ 31) (h : x + y ≤ sz j) : sp_cut (op, sz, vs) (nI i) (nI j) (nI x) (nI y) = (0, (nI (sz j - (x + y))).toInt64, op, va_up sz i (sz j - (x + y)), va_up vs i (fun z => vs j (x + z))) := by
  simp only [sp_cut, sp_sl_t hi, sp_sl_t hj, Bool.and_self, if_true, sp_ixn (show i < 2 ^ 31 by omega), sp_ixn (show j < 2 ^ 31 by omega), sp_ixn hx, sp_ixn hy, decide_eq_true (nI_pos' hx), decide_eq_true (nI_pos' hy), if_pos h]
variable {p q : Int64} {n : Int32}
theorem sp_fill_1 (h : ¬ (0 ≤ a ∧ a ≤ 15) ∨ ¬ (0 ≤ n ∧ n ≤ 2000)) : sp_fill (op, sz, vs) a p q n = (1, 0, op, sz, vs) := by
  rcases h with h | h
  · simp [sp_fill, sp_sl_f h]
  · have e : (decide (0 ≤ n) && decide (n ≤ 2000)) = false := by
      cases e : (decide (0 ≤ n) && decide (n ≤ 2000)) with
      | false => rfl
      | true => simp at e; exact absurd e h
    simp [sp_fill, e]
theorem sp_fill_0 (hi : i < 16) (hx : x ≤ 2000) : sp_fill (op, sz, vs) (nI i) p q (nI x) = (0, (nI x).toInt64, op, va_up sz i x, va_up vs i (fun z => p + lN z * q)) := by
  simp only [sp_fill, sp_sl_t hi, Bool.and_self, if_true, sp_ixn (show i < 2 ^ 31 by omega), sp_ixn (show x < 2 ^ 31 by omega), decide_eq_true (nI_pos' (show x < 2 ^ 31 by omega)), decide_eq_true (show nI x ≤ 2000 from nI_le (b := 2000) hx (by omega))]
theorem sp_size_1 (h : ¬ (0 ≤ a ∧ a ≤ 15)) : sp_size (op, sz, vs) a = (1, 0, op, sz, vs) := by simp [sp_size, sp_sl_f h]
theorem sp_size_0 (hi : i < 16) : sp_size (op, sz, vs) (nI i) = (0, (nI (sz i)).toInt64, op, sz, vs) := by simp only [sp_size, sp_sl_t hi, if_true, sp_ixn (show i < 2 ^ 31 by omega)]
theorem sp_hash_1 (h : ¬ (0 ≤ a ∧ a ≤ 15)) : sp_hash (op, sz, vs) a = (1, 0, op, sz, vs) := by simp [sp_hash, sp_sl_f h]
theorem sp_hash_0 (hi : i < 16) : sp_hash (op, sz, vs) (nI i) = (0, sp_hs (vs i) (sz i), op, sz, vs) := by simp only [sp_hash, sp_sl_t hi, if_true, sp_ixn (show i < 2 ^ 31 by omega)]
theorem sp_opn_1 (h : ¬ (0 ≤ a ∧ a ≤ 15)) : sp_opn (op, sz, vs) a = (1, 0, op, sz, vs) := by simp [sp_opn, sp_sl_f h]
theorem sp_opn_2 (hi : i < 16) : sp_opn (true, sz, vs) (nI i) = (2, 0, true, sz, vs) := by simp [sp_opn, sp_sl_t hi]
theorem sp_opn_0 (hi : i < 16) : sp_opn (false, sz, vs) (nI i) = (0, 0, true, va_up sz 16 (sz i), va_up vs 16 (vs i)) := by simp only [sp_opn, sp_sl_t hi, if_true, sp_ixn (show i < 2 ^ 31 by omega)]
theorem sp_freeze_1 (h : ¬ (0 ≤ a ∧ a ≤ 15)) : sp_freeze (op, sz, vs) a = (1, 0, op, sz, vs) := by simp [sp_freeze, sp_sl_f h]
theorem sp_freeze_2 (hi : i < 16) : sp_freeze (false, sz, vs) (nI i) = (2, 0, false, sz, vs) := by simp [sp_freeze, sp_sl_t hi]
theorem sp_freeze_0 (hi : i < 16) : sp_freeze (true, sz, vs) (nI i) = (0, (nI (sz 16)).toInt64, false, va_up sz i (sz 16), va_up vs i (vs 16)) := by simp only [sp_freeze, sp_sl_t hi, if_true, sp_ixn (show i < 2 ^ 31 by omega)]
theorem sp_build_1 (h : ¬ (0 ≤ k ∧ k ≤ 2)) : sp_build (op, sz, vs) k a v = (1, 0, op, sz, vs) := by simp only [sp_build, if_neg h]
theorem sp_build_2 (h : 0 ≤ k ∧ k ≤ 2) : sp_build (false, sz, vs) k a v = (2, 0, false, sz, vs) := by simp [sp_build, h]
theorem sp_build_4 (h : ¬ sz 16 < 3000) : sp_build (true, sz, vs) 0 a v = (4, 0, true, sz, vs) := by simp [sp_build, h]
theorem sp_build_00 (h : sz 16 < 3000) : sp_build (true, sz, vs) 0 a v = (0, (nI (sz 16 + 1)).toInt64, true, va_up sz 16 (sz 16 + 1), va_up vs 16 (va_up (vs 16) (sz 16) v)) := by simp [sp_build, h]
theorem sp_build_31 (h : ¬ (0 ≤ a ∧ a < nI (sz 16))) : sp_build (true, sz, vs) 1 a v = (3, 0, true, sz, vs) := by
  simp only [sp_build]
  rw [if_pos (by decide), if_pos trivial, if_neg (by decide), if_pos trivial, if_neg h]
theorem sp_build_01 (hn : sz 16 ≤ 3000) (h : x < sz 16) : sp_build (true, sz, vs) 1 (nI x) v = (0, (nI (sz 16)).toInt64, true, va_up sz 16 (sz 16), va_up vs 16 (va_up (vs 16) x v)) := by
  simp only [sp_build]
  rw [if_pos (by decide), if_pos trivial, if_neg (by decide), if_pos trivial, if_pos (sp_el hn h), sp_ixn (show x < 2 ^ 31 by omega)]
theorem sp_k2 (h : 0 ≤ k ∧ k ≤ 2) (h0 : ¬ k = 0) (h1 : ¬ k = 1) : k = 2 := by
  obtain ⟨z, hz, e⟩ := nI_of2 (n := 2) (by decide) (Int32.not_lt.mpr h.1) h.2
  subst e
  rcases (show z = 0 ∨ z = 1 ∨ z = 2 by omega) with rfl | rfl | rfl
  · exact absurd rfl h0
  · exact absurd rfl h1
  · rfl
theorem sp_build_32 (h : ¬ 0 < sz 16) : sp_build (true, sz, vs) 2 a v = (3, 0, true, sz, vs) := by
  simp only [sp_build]
  rw [if_pos (by decide), if_pos trivial, if_neg (by decide), if_neg (by decide), if_neg h]
theorem sp_build_02 (h : 0 < sz 16) : sp_build (true, sz, vs) 2 a v = (0, (nI (sz 16 - 1)).toInt64, true, va_up sz 16 (sz 16 - 1), va_up vs 16 (vs 16)) := by
  simp only [sp_build]
  rw [if_pos (by decide), if_pos trivial, if_neg (by decide), if_neg (by decide), if_pos h]
end SPL
end
section
def sh_Post (G : g_G) (w : xw_W) (h e0 sl K : Nat) (R : sp_R) (x : Int64) (w' : xw_W) : Prop := R.1 = 0 ∧ x = R.2.1 ∧ sh_S G w' h e0 sl R.2.2 (K + 1) ∧ sh_F h sl w w'
/-- what is thrown: the names in their order -/
def sh_T (S : sp_S) (w : xw_W) (R : sp_R) (Es : List String) (E : String) (w' : xw_W) : Prop := w' = w ∧ ∃ k, Es[k]? = some E ∧ R = (k + 1, 0, S)
theorem va_rf_none : va_rf none = .null := rfl
theorem va_rf_some (x : Nat) : va_rf (some x) = .ref x := rfl

set_option maxHeartbeats 4000000 in
set_option maxRecDepth 100000 in
theorem c_S_add (l : Launch) (hl9 : l.stackTraces = false) (G : g_G) (w : xw_W) (h e0 sl K : Nat) (S : sp_S) (hSt : sh_S G w h e0 sl S K) (hK9 : K + 1 < 2 ^ 31) (a b : Int32) (v : Int64) : vx_Met l ny_S_add nw_S_add ({ frames := 8, cells := 16, slots := 200, locals := 160 }) (g_Pc G w [.ref h, .int a, .int b, .long v]) (g_Qi G (fun v9 w' => sh_Post G w h e0 sl K (sp_add S a b v) v9.toInt64 w')) (g_X G (sh_T S w (sp_add S a b v) [g_IAE, g_IOB])) 16 200 (xw_A (g_b G)) := by
  refine g_xmet (by decide) (Nat.le_of_ble_eq_true rfl) rfl ?_
  intro p e s m below meth c ls hx hb hr hts hown hlocks hne hml hl hK hB hw hS
  have hT : ∀ w ∈ nw_T, w.before _ s = true := fun w h => hts w (List.mem_cons_of_mem _ h)
  have hown : s.vm.findClass "RadixShelf" = some m.cls := hown
  have hl : lv_has ls 6 [(0, .ref h), (1, .int a), (2, .int b), (3, .long v)] := hl
  obtain ⟨op, sz, vs⟩ := S
  obtain ⟨L, bd, g, hLK, hI⟩ := hSt
  have hI : sh_I G w h e0 sl op sz vs L bd g := hI
  obtain ⟨hh, hsl, hW, hfr, hop, hsq, he0, hbd⟩ := id hI
  refine lv_iload_n hx hb nd_S_add_0 rfl (lv_at hl 1 rfl) ?_
  refine g_xcallv (vx_runS (As := [.int a]) (rest := []) ⟨hx, hb, hml, hown, hts⟩ (c_S_checkSlot l hl9 G w a) (cwS 1 hts (nw_of (nw_3 nh_ml_S_30 nh_st_S_checkSlot nh_in_S nh_co_S_checkSlot)) rfl rfl rfl (by decide +kernel) ⟨Nat.le_of_ble_eq_true rfl, Nat.le_of_ble_eq_true rfl⟩) (g_preS hK hw hS _) rfl rfl hl.1 rfl (lv_room (Nat.le_of_ble_eq_true rfl)) nd_S_add_1 ⟨by exact Nat.le_of_ble_eq_true rfl, by exact Nat.le_of_ble_eq_true rfl⟩) hS (fun E ce q9 w1 H locs hthr hw hS h1 h2 h3 => g_out hne hlocks hw hS h1 h2 h3 (⟨hthr.2.1, 0, by rw [hthr.1]; rfl, sp_add_1 (Or.inl hthr.2.2)⟩) (by exact Nat.le_of_ble_eq_true rfl) (by exact Nat.le_of_ble_eq_true rfl)) (fun w1 H locs hp hw hS => ?_)
  obtain ⟨hw9, hr9⟩ := hp
  rw [hw9] at hw
  obtain ⟨i, hi, rfl⟩ := sp_sl_of hr9
  refine lv_iload_n hx hb nd_S_add_4 rfl (lv_at hl 2 rfl) ?_
  refine g_xcallv (vx_runS (As := [.int b]) (rest := []) ⟨hx, hb, hml, hown, hts⟩ (c_S_checkSlot l hl9 G w b) (cwS 1 hts (nw_of (nw_3 nh_ml_S_30 nh_st_S_checkSlot nh_in_S nh_co_S_checkSlot)) rfl rfl rfl (by decide +kernel) ⟨Nat.le_of_ble_eq_true rfl, Nat.le_of_ble_eq_true rfl⟩) (g_preS hK hw hS _) rfl rfl hl.1 rfl (lv_room (Nat.le_of_ble_eq_true rfl)) nd_S_add_5 ⟨by exact Nat.le_of_ble_eq_true rfl, by exact Nat.le_of_ble_eq_true rfl⟩) hS (fun E ce q9 w2 H locs hthr hw hS h1 h2 h3 => g_out hne hlocks hw hS h1 h2 h3 (⟨hthr.2.1, 0, by rw [hthr.1]; rfl, sp_add_1 (Or.inr hthr.2.2)⟩) (by exact Nat.le_of_ble_eq_true rfl) (by exact Nat.le_of_ble_eq_true rfl)) (fun w2 H locs hp hw hS => ?_)
  obtain ⟨hw9, hr9⟩ := hp
  rw [hw9] at hw
  obtain ⟨j, hj, rfl⟩ := sp_sl_of hr9
  refine lv_aload_n hx hb nd_S_add_8 rfl (lv_at hl 0 rfl) ?_
  refine xw_get (T := nT_S) (N := 4) (ci := 4) hx hb hT nu_S hown hK.1 hw hh rfl 1 (by decide) (hT _ nh_fl_S_19) (fun _ h9 => h9) rfl nd_S_add_9 ?_
  refine lv_iload_n hx hb nd_S_add_12 rfl (lv_at hl 2 rfl) ?_
  obtain ⟨q, hg, hnb, s0, r, t, o, hSo⟩ := hsq j hj
  have hq := hSo.1
  refine xw_aald (y := q) hx hb hK.1 hw 3 hsl rfl (vp_in_nI (by omega) (by decide)) (by rw [nI_clamp (by omega)]; exact hg) nd_S_add_13 ?_
  have hn3 : sz j ≤ 3000 := hSo.2.2.1
  refine g_xcallv (vx_runS (As := [.ref q]) (rest := []) ⟨hx, hb, hml, hown, hts⟩ (c_S_checkRoom l hl9 G w q r t (sz j) s0 (nI o) hq) (cwS 1 hts (nw_of (nw_3 nh_ml_S_34 nh_st_S_checkRoom nh_in_S nh_co_S_checkRoom)) rfl rfl rfl (by decide +kernel) ⟨Nat.le_of_ble_eq_true rfl, Nat.le_of_ble_eq_true rfl⟩) (g_preS hK hw hS _) rfl rfl hl.1 rfl (lv_room (Nat.le_of_ble_eq_true rfl)) nd_S_add_14 ⟨by exact Nat.le_of_ble_eq_true rfl, by exact Nat.le_of_ble_eq_true rfl⟩) hS (fun E ce q9 w3 H locs hthr hw hS h1 h2 h3 => g_out hne hlocks hw hS h1 h2 h3 (⟨hthr.2.1, 1, by rw [hthr.1]; rfl, sp_add_2 hi hj (fun z => hthr.2.2 (nI_lt (b := 3000) z (by omega)))⟩) (by exact Nat.le_of_ble_eq_true rfl) (by exact Nat.le_of_ble_eq_true rfl)) (fun w3 H locs hp hw hS => ?_)
  obtain ⟨hw9, hs9⟩ := hp
  rw [hw9] at hw
  have hs : sz j < 3000 := (nI_ltI (b := 3000) (by omega) (by omega)).mp hs9
  refine lv_aload_n hx hb nd_S_add_17 rfl (lv_at hl 0 rfl) ?_
  refine lv_aload_n hx hb nd_S_add_18 rfl (lv_at hl 0 rfl) ?_
  refine xw_get (T := nT_S) (N := 4) (ci := 4) hx hb hT nu_S hown hK.1 hw hh rfl 1 (by decide) (hT _ nh_fl_S_19) (fun _ h9 => h9) rfl nd_S_add_19 ?_
  refine lv_iload_n hx hb nd_S_add_22 rfl (lv_at hl 2 rfl) ?_
  refine xw_aald (y := q) hx hb hK.1 hw 3 hsl rfl (vp_in_nI (by omega) (by decide)) (by rw [nI_clamp (by omega)]; exact hg) nd_S_add_23 ?_
  refine g_callr (va_runV (As := [.ref q]) (rest := []) ⟨hx, hb, hml, hown, hts⟩ (c_S_draftOf l G w h e0 sl L q r t (bd.map (·.1)) s0 (nI o) (nI (sz j)) hh hq) (cwV (C := nR_S) 1 hts (nw_of (nw_4 nh_ml_S_38 nh_im_S_draftOf nh_se_S_draftOf nh_in_S nh_co_S_draftOf)) rfl rfl rfl (by decide +kernel) ⟨Nat.le_of_ble_eq_true rfl, Nat.le_of_ble_eq_true rfl⟩) (g_preV (ci := 4) (q := (nR_S, nT_S, 4)) hK hw hS rfl hh _) rfl rfl hl.1 rfl (lv_room (Nat.le_of_ble_eq_true rfl)) nd_S_add_24 ⟨by exact Nat.le_of_ble_eq_true rfl, by exact Nat.le_of_ble_eq_true rfl⟩) hS (fun qn w4 H locs hp hw hS => ?_)
  obtain ⟨hn, e1⟩ := hp
  obtain ⟨D1, v1, o1⟩ := sh_draft hI (by omega) hSo hn e1
  have hhA : w4 h = some (.inr (4, [.ref e0, .ref sl, va_rf (bd.map (·.1)), .int (nI (L + 1))])) := by rw [e1, va_up_ne _ _ (xw_nn hh hn)]; exact va_up_self _ _ _
  have hslA : w4 sl = some (.inl (G.2.1 3, 16, .inr (.inr (.inr (.inr g))))) := by rw [e1, va_up_ne _ _ (xw_nn hsl hn), va_up_ne _ _ (tr_ne_kind hsl hh)]; exact hsl
  have hqA := D1.2.2.1
  refine lv_astore hx hb nd_S_add_27 hl (by decide) (lv' := [(5, .ref qn), (0, .ref h), (1, .int (nI i)), (2, .int (nI j)), (3, .long v)]) rfl (fun ls hl => ?_)
  refine lv_aload hx hb nd_S_add_29 (lv_at hl 0 rfl) ?_
  refine lv_lload_n hx hb nd_S_add_31 rfl (lv_at hl 4 rfl) ?_
  refine g_callv (va_runV (As := [.long v]) (rest := []) ⟨hx, hb, hml, hown, hts⟩ (c_Q_append l G w4 (L + 1) (L + 1) qn r t o (sz j) v D1 hs) (cwV (C := nR_Q) 1 hts (nw_of (nw_4 nh_ml_S_42 nh_im_Q_append nh_se_Q_append nh_in_Q nh_co_Q_append)) rfl rfl rfl (by decide +kernel) ⟨Nat.le_of_ble_eq_true rfl, Nat.le_of_ble_eq_true rfl⟩) (g_preV (ci := 3) (q := (nR_Q, nT_Q, 5)) hK hw hS rfl hqA _) rfl rfl hl.1 rfl (lv_room (Nat.le_of_ble_eq_true rfl)) nd_S_add_32 ⟨by exact Nat.le_of_ble_eq_true rfl, by exact Nat.le_of_ble_eq_true rfl⟩) hS (fun w5 H locs hp hw hS => ?_)
  obtain ⟨r1, t1, D2, K2, V2, -⟩ := hp
  have hhB := K2.1 _ _ hhA (xw_nn hh hn) (o1 h)
  have hslB := K2.1 _ _ hslA (xw_nn hsl hn) (o1 sl)
  have hqB := D2.2.2.1
  refine lv_aload_n hx hb nd_S_add_35 rfl (lv_at hl 1 rfl) ?_
  refine xw_get (T := nT_S) (N := 4) (ci := 4) hx hb hT nu_S hown hK.1 hw hhB rfl 1 (by decide) (hT _ nh_fl_S_19) (fun _ h9 => h9) rfl nd_S_add_36 ?_
  refine lv_iload_n hx hb nd_S_add_39 rfl (lv_at hl 2 rfl) ?_
  refine lv_aload hx hb nd_S_add_40 (lv_at hl 0 rfl) ?_
  refine xw_aast (r := (nR_Q, nT_Q, 5)) hx hb hK.1 hB hw hS 3 3 hslB rfl hqB rfl (vp_in_nI (by omega) (by decide)) nd_S_add_42 (fun H locs hw hS => ?_)
  rw [nI_clamp (by omega)] at hw
  obtain ⟨w6, ew7⟩ : ∃ z, z = va_up w5 sl (some (.inl (G.2.1 3, 16, .inr (.inr (.inr (.inr (va_up g i (some qn)))))))) := ⟨_, rfl⟩
  have hw : g_P G w6 H := by rw [ew7]; exact hw
  have hhB : w6 h = some (.inr (4, [.ref e0, .ref sl, va_rf (bd.map (·.1)), .int (nI (L + 1))])) := by rw [ew7, va_up_ne _ _ (xw_ne hhB hslB (by simp))]; exact hhB
  have hqB : w6 qn = some (.inr (3, [.int (nI (L + 1)), .ref r1, .ref t1, .int (nI o), .int (nI (sz j + 1))])) := by rw [ew7, va_up_ne _ _ (xw_ne hqB hslB (by simp))]; exact hqB
  have hslB : w6 sl = some (.inl (G.2.1 3, 16, .inr (.inr (.inr (.inr (va_up g i (some qn))))))) := by rw [ew7]; exact va_up_self _ _ _
  obtain ⟨hC, hF⟩ := sh_call hI hn e1 o1 K2 D2 (sh_app (by omega) V2 v1) ew7 hi
  have hqB := (show w6 qn = some (.inr (3, [.int (nI (L + 1)), .ref r1, .ref t1, .int (nI o), .int (nI (sz j + 1))])) from hqB)
  refine lv_aload hx hb nd_S_add_43 (lv_at hl 0 rfl) ?_
  refine xw_get (T := nT_Q) (N := 5) (ci := 3) hx hb hT nu_Q hown hK.1 hw hqB rfl 4 (by decide) (hT _ nh_fl_S_46) (fun _ h9 => h9) rfl nd_S_add_45 ?_
  exact vx_ret (g_iret hx hb hr hlocks hw hS (by rw [sp_add_0 hi hj hs]; exact ⟨rfl, rfl, ⟨L + 1, bd, _, by omega, hC⟩, hF⟩) (by exact Nat.le_of_ble_eq_true rfl) (by exact Nat.le_of_ble_eq_true rfl) nd_S_add_48)

set_option maxHeartbeats 4000000 in
set_option maxRecDepth 100000 in
theorem c_S_push (l : Launch) (hl9 : l.stackTraces = false) (G : g_G) (w : xw_W) (h e0 sl K : Nat) (S : sp_S) (hSt : sh_S G w h e0 sl S K) (hK9 : K + 1 < 2 ^ 31) (a b : Int32) (v : Int64) : vx_Met l ny_S_push nw_S_push ({ frames := 8, cells := 16, slots := 200, locals := 160 }) (g_Pc G w [.ref h, .int a, .int b, .long v]) (g_Qi G (fun v9 w' => sh_Post G w h e0 sl K (sp_push S a b v) v9.toInt64 w')) (g_X G (sh_T S w (sp_push S a b v) [g_IAE, g_IOB])) 16 200 (xw_A (g_b G)) := by
  refine g_xmet (by decide) (Nat.le_of_ble_eq_true rfl) rfl ?_
  intro p e s m below meth c ls hx hb hr hts hown hlocks hne hml hl hK hB hw hS
  have hT : ∀ w ∈ nw_T, w.before _ s = true := fun w h => hts w (List.mem_cons_of_mem _ h)
  have hown : s.vm.findClass "RadixShelf" = some m.cls := hown
  have hl : lv_has ls 6 [(0, .ref h), (1, .int a), (2, .int b), (3, .long v)] := hl
  obtain ⟨op, sz, vs⟩ := S
  obtain ⟨L, bd, g, hLK, hI⟩ := hSt
  have hI : sh_I G w h e0 sl op sz vs L bd g := hI
  obtain ⟨hh, hsl, hW, hfr, hop, hsq, he0, hbd⟩ := id hI
  refine lv_iload_n hx hb nd_S_push_0 rfl (lv_at hl 1 rfl) ?_
  refine g_xcallv (vx_runS (As := [.int a]) (rest := []) ⟨hx, hb, hml, hown, hts⟩ (c_S_checkSlot l hl9 G w a) (cwS 1 hts (nw_of (nw_3 nh_ml_S_30 nh_st_S_checkSlot nh_in_S nh_co_S_checkSlot)) rfl rfl rfl (by decide +kernel) ⟨Nat.le_of_ble_eq_true rfl, Nat.le_of_ble_eq_true rfl⟩) (g_preS hK hw hS _) rfl rfl hl.1 rfl (lv_room (Nat.le_of_ble_eq_true rfl)) nd_S_push_1 ⟨by exact Nat.le_of_ble_eq_true rfl, by exact Nat.le_of_ble_eq_true rfl⟩) hS (fun E ce q9 w1 H locs hthr hw hS h1 h2 h3 => g_out hne hlocks hw hS h1 h2 h3 (⟨hthr.2.1, 0, by rw [hthr.1]; rfl, sp_push_1 (Or.inl hthr.2.2)⟩) (by exact Nat.le_of_ble_eq_true rfl) (by exact Nat.le_of_ble_eq_true rfl)) (fun w1 H locs hp hw hS => ?_)
  obtain ⟨hw9, hr9⟩ := hp
  rw [hw9] at hw
  obtain ⟨i, hi, rfl⟩ := sp_sl_of hr9
  refine lv_iload_n hx hb nd_S_push_4 rfl (lv_at hl 2 rfl) ?_
  refine g_xcallv (vx_runS (As := [.int b]) (rest := []) ⟨hx, hb, hml, hown, hts⟩ (c_S_checkSlot l hl9 G w b) (cwS 1 hts (nw_of (nw_3 nh_ml_S_30 nh_st_S_checkSlot nh_in_S nh_co_S_checkSlot)) rfl rfl rfl (by decide +kernel) ⟨Nat.le_of_ble_eq_true rfl, Nat.le_of_ble_eq_true rfl⟩) (g_preS hK hw hS _) rfl rfl hl.1 rfl (lv_room (Nat.le_of_ble_eq_true rfl)) nd_S_push_5 ⟨by exact Nat.le_of_ble_eq_true rfl, by exact Nat.le_of_ble_eq_true rfl⟩) hS (fun E ce q9 w2 H locs hthr hw hS h1 h2 h3 => g_out hne hlocks hw hS h1 h2 h3 (⟨hthr.2.1, 0, by rw [hthr.1]; rfl, sp_push_1 (Or.inr hthr.2.2)⟩) (by exact Nat.le_of_ble_eq_true rfl) (by exact Nat.le_of_ble_eq_true rfl)) (fun w2 H locs hp hw hS => ?_)
  obtain ⟨hw9, hr9⟩ := hp
  rw [hw9] at hw
  obtain ⟨j, hj, rfl⟩ := sp_sl_of hr9
  refine lv_aload_n hx hb nd_S_push_8 rfl (lv_at hl 0 rfl) ?_
  refine xw_get (T := nT_S) (N := 4) (ci := 4) hx hb hT nu_S hown hK.1 hw hh rfl 1 (by decide) (hT _ nh_fl_S_19) (fun _ h9 => h9) rfl nd_S_push_9 ?_
  refine lv_iload_n hx hb nd_S_push_12 rfl (lv_at hl 2 rfl) ?_
  obtain ⟨q, hg, hnb, s0, r, t, o, hSo⟩ := hsq j hj
  have hq := hSo.1
  refine xw_aald (y := q) hx hb hK.1 hw 3 hsl rfl (vp_in_nI (by omega) (by decide)) (by rw [nI_clamp (by omega)]; exact hg) nd_S_push_13 ?_
  have hn3 : sz j ≤ 3000 := hSo.2.2.1
  refine g_xcallv (vx_runS (As := [.ref q]) (rest := []) ⟨hx, hb, hml, hown, hts⟩ (c_S_checkRoom l hl9 G w q r t (sz j) s0 (nI o) hq) (cwS 1 hts (nw_of (nw_3 nh_ml_S_34 nh_st_S_checkRoom nh_in_S nh_co_S_checkRoom)) rfl rfl rfl (by decide +kernel) ⟨Nat.le_of_ble_eq_true rfl, Nat.le_of_ble_eq_true rfl⟩) (g_preS hK hw hS _) rfl rfl hl.1 rfl (lv_room (Nat.le_of_ble_eq_true rfl)) nd_S_push_14 ⟨by exact Nat.le_of_ble_eq_true rfl, by exact Nat.le_of_ble_eq_true rfl⟩) hS (fun E ce q9 w3 H locs hthr hw hS h1 h2 h3 => g_out hne hlocks hw hS h1 h2 h3 (⟨hthr.2.1, 1, by rw [hthr.1]; rfl, sp_push_2 hi hj (fun z => hthr.2.2 (nI_lt (b := 3000) z (by omega)))⟩) (by exact Nat.le_of_ble_eq_true rfl) (by exact Nat.le_of_ble_eq_true rfl)) (fun w3 H locs hp hw hS => ?_)
  obtain ⟨hw9, hs9⟩ := hp
  rw [hw9] at hw
  have hs : sz j < 3000 := (nI_ltI (b := 3000) (by omega) (by omega)).mp hs9
  refine lv_aload_n hx hb nd_S_push_17 rfl (lv_at hl 0 rfl) ?_
  refine lv_aload_n hx hb nd_S_push_18 rfl (lv_at hl 0 rfl) ?_
  refine xw_get (T := nT_S) (N := 4) (ci := 4) hx hb hT nu_S hown hK.1 hw hh rfl 1 (by decide) (hT _ nh_fl_S_19) (fun _ h9 => h9) rfl nd_S_push_19 ?_
  refine lv_iload_n hx hb nd_S_push_22 rfl (lv_at hl 2 rfl) ?_
  refine xw_aald (y := q) hx hb hK.1 hw 3 hsl rfl (vp_in_nI (by omega) (by decide)) (by rw [nI_clamp (by omega)]; exact hg) nd_S_push_23 ?_
  refine g_callr (va_runV (As := [.ref q]) (rest := []) ⟨hx, hb, hml, hown, hts⟩ (c_S_draftOf l G w h e0 sl L q r t (bd.map (·.1)) s0 (nI o) (nI (sz j)) hh hq) (cwV (C := nR_S) 1 hts (nw_of (nw_4 nh_ml_S_38 nh_im_S_draftOf nh_se_S_draftOf nh_in_S nh_co_S_draftOf)) rfl rfl rfl (by decide +kernel) ⟨Nat.le_of_ble_eq_true rfl, Nat.le_of_ble_eq_true rfl⟩) (g_preV (ci := 4) (q := (nR_S, nT_S, 4)) hK hw hS rfl hh _) rfl rfl hl.1 rfl (lv_room (Nat.le_of_ble_eq_true rfl)) nd_S_push_24 ⟨by exact Nat.le_of_ble_eq_true rfl, by exact Nat.le_of_ble_eq_true rfl⟩) hS (fun qn w4 H locs hp hw hS => ?_)
  obtain ⟨hn, e1⟩ := hp
  obtain ⟨D1, v1, o1⟩ := sh_draft hI (by omega) hSo hn e1
  have hhA : w4 h = some (.inr (4, [.ref e0, .ref sl, va_rf (bd.map (·.1)), .int (nI (L + 1))])) := by rw [e1, va_up_ne _ _ (xw_nn hh hn)]; exact va_up_self _ _ _
  have hslA : w4 sl = some (.inl (G.2.1 3, 16, .inr (.inr (.inr (.inr g))))) := by rw [e1, va_up_ne _ _ (xw_nn hsl hn), va_up_ne _ _ (tr_ne_kind hsl hh)]; exact hsl
  have hqA := D1.2.2.1
  refine lv_astore hx hb nd_S_push_27 hl (by decide) (lv' := [(5, .ref qn), (0, .ref h), (1, .int (nI i)), (2, .int (nI j)), (3, .long v)]) rfl (fun ls hl => ?_)
  refine lv_aload hx hb nd_S_push_29 (lv_at hl 0 rfl) ?_
  refine lv_lload_n hx hb nd_S_push_31 rfl (lv_at hl 4 rfl) ?_
  refine g_callv (va_runV (As := [.long v]) (rest := []) ⟨hx, hb, hml, hown, hts⟩ (c_Q_prepend l G w4 (L + 1) (L + 1) qn r t o (sz j) v D1 hs) (cwV (C := nR_Q) 1 hts (nw_of (nw_4 nh_ml_S_49 nh_im_Q_prepend nh_se_Q_prepend nh_in_Q nh_co_Q_prepend)) rfl rfl rfl (by decide +kernel) ⟨Nat.le_of_ble_eq_true rfl, Nat.le_of_ble_eq_true rfl⟩) (g_preV (ci := 3) (q := (nR_Q, nT_Q, 5)) hK hw hS rfl hqA _) rfl rfl hl.1 rfl (lv_room (Nat.le_of_ble_eq_true rfl)) nd_S_push_32 ⟨by exact Nat.le_of_ble_eq_true rfl, by exact Nat.le_of_ble_eq_true rfl⟩) hS (fun w5 H locs hp hw hS => ?_)
  obtain ⟨r1, t1, D2, K2, V2⟩ := hp
  have hhB := K2.1 _ _ hhA (xw_nn hh hn) (o1 h)
  have hslB := K2.1 _ _ hslA (xw_nn hsl hn) (o1 sl)
  have hqB := D2.2.2.1
  refine lv_aload_n hx hb nd_S_push_35 rfl (lv_at hl 1 rfl) ?_
  refine xw_get (T := nT_S) (N := 4) (ci := 4) hx hb hT nu_S hown hK.1 hw hhB rfl 1 (by decide) (hT _ nh_fl_S_19) (fun _ h9 => h9) rfl nd_S_push_36 ?_
  refine lv_iload_n hx hb nd_S_push_39 rfl (lv_at hl 2 rfl) ?_
  refine lv_aload hx hb nd_S_push_40 (lv_at hl 0 rfl) ?_
  refine xw_aast (r := (nR_Q, nT_Q, 5)) hx hb hK.1 hB hw hS 3 3 hslB rfl hqB rfl (vp_in_nI (by omega) (by decide)) nd_S_push_42 (fun H locs hw hS => ?_)
  rw [nI_clamp (by omega)] at hw
  obtain ⟨w6, ew7⟩ : ∃ z, z = va_up w5 sl (some (.inl (G.2.1 3, 16, .inr (.inr (.inr (.inr (va_up g i (some qn)))))))) := ⟨_, rfl⟩
  have hw : g_P G w6 H := by rw [ew7]; exact hw
  have hhB : w6 h = some (.inr (4, [.ref e0, .ref sl, va_rf (bd.map (·.1)), .int (nI (L + 1))])) := by rw [ew7, va_up_ne _ _ (xw_ne hhB hslB (by simp))]; exact hhB
  have hqB : w6 qn = some (.inr (3, [.int (nI (L + 1)), .ref r1, .ref t1, .int (nI ((o + 32767) % 32768)), .int (nI (sz j + 1))])) := by rw [ew7, va_up_ne _ _ (xw_ne hqB hslB (by simp))]; exact hqB
  have hslB : w6 sl = some (.inl (G.2.1 3, 16, .inr (.inr (.inr (.inr (va_up g i (some qn))))))) := by rw [ew7]; exact va_up_self _ _ _
  obtain ⟨hC, hF⟩ := sh_call hI hn e1 o1 K2 D2 (sh_pre hs V2 v1) ew7 hi
  have hqB := (show w6 qn = some (.inr (3, [.int (nI (L + 1)), .ref r1, .ref t1, .int (nI ((o + 32767) % 32768)), .int (nI (sz j + 1))])) from hqB)
  refine lv_aload hx hb nd_S_push_43 (lv_at hl 0 rfl) ?_
  refine xw_get (T := nT_Q) (N := 5) (ci := 3) hx hb hT nu_Q hown hK.1 hw hqB rfl 4 (by decide) (hT _ nh_fl_S_46) (fun _ h9 => h9) rfl nd_S_push_45 ?_
  exact vx_ret (g_iret hx hb hr hlocks hw hS (by rw [sp_push_0 hi hj hs]; exact ⟨rfl, rfl, ⟨L + 1, bd, _, by omega, hC⟩, hF⟩) (by exact Nat.le_of_ble_eq_true rfl) (by exact Nat.le_of_ble_eq_true rfl) nd_S_push_48)

set_option maxHeartbeats 4000000 in
set_option maxRecDepth 100000 in
theorem c_S_set (l : Launch) (hl9 : l.stackTraces = false) (G : g_G) (w : xw_W) (h e0 sl K : Nat) (S : sp_S) (hSt : sh_S G w h e0 sl S K) (hK9 : K + 1 < 2 ^ 31) (a b k : Int32) (v : Int64) : vx_Met l ny_S_set nw_S_set ({ frames := 8, cells := 16, slots := 200, locals := 160 }) (g_Pc G w [.ref h, .int a, .int b, .int k, .long v]) (g_Ql G (fun v9 w' => sh_Post G w h e0 sl K (sp_set S a b k v) v9 w')) (g_X G (sh_T S w (sp_set S a b k v) [g_IAE, g_NSE])) 16 200 (xw_A (g_b G)) := by
  refine g_xmet (by decide) (Nat.le_of_ble_eq_true rfl) rfl ?_
  intro p e s m below meth c ls hx hb hr hts hown hlocks hne hml hl hK hB hw hS
  have hT : ∀ w ∈ nw_T, w.before _ s = true := fun w h => hts w (List.mem_cons_of_mem _ h)
  have hown : s.vm.findClass "RadixShelf" = some m.cls := hown
  have hl : lv_has ls 9 [(0, .ref h), (1, .int a), (2, .int b), (3, .int k), (4, .long v)] := hl
  obtain ⟨op, sz, vs⟩ := S
  obtain ⟨L, bd, g, hLK, hI⟩ := hSt
  have hI : sh_I G w h e0 sl op sz vs L bd g := hI
  obtain ⟨hh, hsl, hW, hfr, hop, hsq, he0, hbd⟩ := id hI
  refine lv_iload_n hx hb nd_S_set_0 rfl (lv_at hl 1 rfl) ?_
  refine g_xcallv (vx_runS (As := [.int a]) (rest := []) ⟨hx, hb, hml, hown, hts⟩ (c_S_checkSlot l hl9 G w a) (cwS 1 hts (nw_of (nw_3 nh_ml_S_30 nh_st_S_checkSlot nh_in_S nh_co_S_checkSlot)) rfl rfl rfl (by decide +kernel) ⟨Nat.le_of_ble_eq_true rfl, Nat.le_of_ble_eq_true rfl⟩) (g_preS hK hw hS _) rfl rfl hl.1 rfl (lv_room (Nat.le_of_ble_eq_true rfl)) nd_S_set_1 ⟨by exact Nat.le_of_ble_eq_true rfl, by exact Nat.le_of_ble_eq_true rfl⟩) hS (fun E ce q9 w1 H locs hthr hw hS h1 h2 h3 => g_out hne hlocks hw hS h1 h2 h3 (⟨hthr.2.1, 0, by rw [hthr.1]; rfl, sp_set_1 (Or.inl hthr.2.2)⟩) (by exact Nat.le_of_ble_eq_true rfl) (by exact Nat.le_of_ble_eq_true rfl)) (fun w1 H locs hp hw hS => ?_)
  obtain ⟨hw9, hr9⟩ := hp
  rw [hw9] at hw
  obtain ⟨i, hi, rfl⟩ := sp_sl_of hr9
  refine lv_iload_n hx hb nd_S_set_4 rfl (lv_at hl 2 rfl) ?_
  refine g_xcallv (vx_runS (As := [.int b]) (rest := []) ⟨hx, hb, hml, hown, hts⟩ (c_S_checkSlot l hl9 G w b) (cwS 1 hts (nw_of (nw_3 nh_ml_S_30 nh_st_S_checkSlot nh_in_S nh_co_S_checkSlot)) rfl rfl rfl (by decide +kernel) ⟨Nat.le_of_ble_eq_true rfl, Nat.le_of_ble_eq_true rfl⟩) (g_preS hK hw hS _) rfl rfl hl.1 rfl (lv_room (Nat.le_of_ble_eq_true rfl)) nd_S_set_5 ⟨by exact Nat.le_of_ble_eq_true rfl, by exact Nat.le_of_ble_eq_true rfl⟩) hS (fun E ce q9 w2 H locs hthr hw hS h1 h2 h3 => g_out hne hlocks hw hS h1 h2 h3 (⟨hthr.2.1, 0, by rw [hthr.1]; rfl, sp_set_1 (Or.inr hthr.2.2)⟩) (by exact Nat.le_of_ble_eq_true rfl) (by exact Nat.le_of_ble_eq_true rfl)) (fun w2 H locs hp hw hS => ?_)
  obtain ⟨hw9, hr9⟩ := hp
  rw [hw9] at hw
  obtain ⟨j, hj, rfl⟩ := sp_sl_of hr9
  refine lv_aload_n hx hb nd_S_set_8 rfl (lv_at hl 0 rfl) ?_
  refine xw_get (T := nT_S) (N := 4) (ci := 4) hx hb hT nu_S hown hK.1 hw hh rfl 1 (by decide) (hT _ nh_fl_S_19) (fun _ h9 => h9) rfl nd_S_set_9 ?_
  refine lv_iload_n hx hb nd_S_set_12 rfl (lv_at hl 2 rfl) ?_
  obtain ⟨q, hg, hnb, s0, r, t, o, hSo⟩ := hsq j hj
  have hq := hSo.1
  refine xw_aald (y := q) hx hb hK.1 hw 3 hsl rfl (vp_in_nI (by omega) (by decide)) (by rw [nI_clamp (by omega)]; exact hg) nd_S_set_13 ?_
  have hn3 : sz j ≤ 3000 := hSo.2.2.1
  refine lv_iload_n hx hb nd_S_set_14 rfl (lv_at hl 3 rfl) ?_
  refine g_xcallv (vx_runS (As := [.ref q, .int k]) (rest := []) ⟨hx, hb, hml, hown, hts⟩ (c_S_checkElement l hl9 G w q r t (sz j) s0 (nI o) k hq) (cwS 2 hts (nw_of (nw_3 nh_ml_S_52 nh_st_S_checkElement nh_in_S nh_co_S_checkElement)) rfl rfl rfl (by decide +kernel) ⟨Nat.le_of_ble_eq_true rfl, Nat.le_of_ble_eq_true rfl⟩) (g_preS hK hw hS _) rfl rfl hl.1 rfl (lv_room (Nat.le_of_ble_eq_true rfl)) nd_S_set_15 ⟨by exact Nat.le_of_ble_eq_true rfl, by exact Nat.le_of_ble_eq_true rfl⟩) hS (fun E ce q9 w3 H locs hthr hw hS h1 h2 h3 => g_out hne hlocks hw hS h1 h2 h3 (⟨hthr.2.1, 1, by rw [hthr.1]; rfl, sp_set_2 hi hj hthr.2.2⟩) (by exact Nat.le_of_ble_eq_true rfl) (by exact Nat.le_of_ble_eq_true rfl)) (fun w3 H locs hp hw hS => ?_)
  obtain ⟨hw9, hr9⟩ := hp
  rw [hw9] at hw
  obtain ⟨x, hx1, rfl⟩ := sp_elo hn3 hr9
  refine lv_aload_n hx hb nd_S_set_18 rfl (lv_at hl 0 rfl) ?_
  refine xw_get (T := nT_S) (N := 4) (ci := 4) hx hb hT nu_S hown hK.1 hw hh rfl 1 (by decide) (hT _ nh_fl_S_19) (fun _ h9 => h9) rfl nd_S_set_19 ?_
  refine lv_iload_n hx hb nd_S_set_22 rfl (lv_at hl 2 rfl) ?_
  refine xw_aald (y := q) hx hb hK.1 hw 3 hsl rfl (vp_in_nI (by omega) (by decide)) (by rw [nI_clamp (by omega)]; exact hg) nd_S_set_23 ?_
  refine lv_iload_n hx hb nd_S_set_24 rfl (lv_at hl 3 rfl) ?_
  refine g_calll (va_runV (As := [.int (nI x)]) (rest := []) ⟨hx, hb, hml, hown, hts⟩ (c_Q_element l G w q r t o (sz j) x s0 hSo.2.1 hn3 hx1 hq hSo.2.2.2.1 hSo.2.2.2.2.1) (cwV (C := nR_Q) 1 hts (nw_of (nw_4 nh_ml_S_56 nh_im_Q_element nh_se_Q_element nh_in_Q nh_co_Q_element)) rfl rfl rfl (by decide +kernel) ⟨Nat.le_of_ble_eq_true rfl, Nat.le_of_ble_eq_true rfl⟩) (g_preV (ci := 3) (q := (nR_Q, nT_Q, 5)) hK hw hS rfl hq _) rfl rfl hl.1 rfl (lv_room (Nat.le_of_ble_eq_true rfl)) nd_S_set_25 ⟨by exact Nat.le_of_ble_eq_true rfl, by exact Nat.le_of_ble_eq_true rfl⟩) hS (fun v9 w4 H locs hp hw hS => ?_)
  obtain ⟨rfl, hw9⟩ := hp
  rw [hw9] at hw
  refine lv_topl (fun y5 ey6 => ?_)
  obtain rfl : y5 = vs j x := ey6.trans (hSo.2.2.2.2.2.2 x hx1)
  refine lv_lstore hx hb nd_S_set_28 hl (by decide) (lv' := [(6, .long (vs j x)), (0, .ref h), (1, .int (nI i)), (2, .int (nI j)), (3, .int (nI x)), (4, .long v)]) rfl (fun ls hl => ?_)
  refine lv_aload_n hx hb nd_S_set_30 rfl (lv_at hl 1 rfl) ?_
  refine lv_aload_n hx hb nd_S_set_31 rfl (lv_at hl 1 rfl) ?_
  refine xw_get (T := nT_S) (N := 4) (ci := 4) hx hb hT nu_S hown hK.1 hw hh rfl 1 (by decide) (hT _ nh_fl_S_19) (fun _ h9 => h9) rfl nd_S_set_32 ?_
  refine lv_iload_n hx hb nd_S_set_35 rfl (lv_at hl 3 rfl) ?_
  refine xw_aald (y := q) hx hb hK.1 hw 3 hsl rfl (vp_in_nI (by omega) (by decide)) (by rw [nI_clamp (by omega)]; exact hg) nd_S_set_36 ?_
  refine g_callr (va_runV (As := [.ref q]) (rest := []) ⟨hx, hb, hml, hown, hts⟩ (c_S_draftOf l G w h e0 sl L q r t (bd.map (·.1)) s0 (nI o) (nI (sz j)) hh hq) (cwV (C := nR_S) 1 hts (nw_of (nw_4 nh_ml_S_38 nh_im_S_draftOf nh_se_S_draftOf nh_in_S nh_co_S_draftOf)) rfl rfl rfl (by decide +kernel) ⟨Nat.le_of_ble_eq_true rfl, Nat.le_of_ble_eq_true rfl⟩) (g_preV (ci := 4) (q := (nR_S, nT_S, 4)) hK hw hS rfl hh _) rfl rfl hl.1 rfl (lv_room (Nat.le_of_ble_eq_true rfl)) nd_S_set_37 ⟨by exact Nat.le_of_ble_eq_true rfl, by exact Nat.le_of_ble_eq_true rfl⟩) hS (fun qn w7 H locs hp hw hS => ?_)
  obtain ⟨hn, e1⟩ := hp
  obtain ⟨D1, v1, o1⟩ := sh_draft hI (by omega) hSo hn e1
  have hhA : w7 h = some (.inr (4, [.ref e0, .ref sl, va_rf (bd.map (·.1)), .int (nI (L + 1))])) := by rw [e1, va_up_ne _ _ (xw_nn hh hn)]; exact va_up_self _ _ _
  have hslA : w7 sl = some (.inl (G.2.1 3, 16, .inr (.inr (.inr (.inr g))))) := by rw [e1, va_up_ne _ _ (xw_nn hsl hn), va_up_ne _ _ (tr_ne_kind hsl hh)]; exact hsl
  have hqA := D1.2.2.1
  refine lv_astore hx hb nd_S_set_40 hl (by decide) (lv' := [(8, .ref qn), (6, .long (vs j x)), (0, .ref h), (1, .int (nI i)), (2, .int (nI j)), (3, .int (nI x)), (4, .long v)]) rfl (fun ls hl => ?_)
  refine lv_aload hx hb nd_S_set_42 (lv_at hl 0 rfl) ?_
  refine lv_iload_n hx hb nd_S_set_44 rfl (lv_at hl 5 rfl) ?_
  refine lv_lload hx hb nd_S_set_45 (lv_at hl 6 rfl) ?_
  refine g_callv (va_runV (As := [.int (nI x), .long v]) (rest := []) ⟨hx, hb, hml, hown, hts⟩ (c_Q_replace l G w7 (L + 1) (L + 1) qn r t o (sz j) x v D1 hx1) (cwV (C := nR_Q) 2 hts (nw_of (nw_4 nh_ml_S_60 nh_im_Q_replace nh_se_Q_replace nh_in_Q nh_co_Q_replace)) rfl rfl rfl (by decide +kernel) ⟨Nat.le_of_ble_eq_true rfl, Nat.le_of_ble_eq_true rfl⟩) (g_preV (ci := 3) (q := (nR_Q, nT_Q, 5)) hK hw hS rfl hqA _) rfl rfl hl.1 rfl (lv_room (Nat.le_of_ble_eq_true rfl)) nd_S_set_47 ⟨by exact Nat.le_of_ble_eq_true rfl, by exact Nat.le_of_ble_eq_true rfl⟩) hS (fun w8 H locs hp hw hS => ?_)
  obtain ⟨r1, t1, D2, K2, V2⟩ := hp
  have hhB := K2.1 _ _ hhA (xw_nn hh hn) (o1 h)
  have hslB := K2.1 _ _ hslA (xw_nn hsl hn) (o1 sl)
  have hqB := D2.2.2.1
  refine lv_aload_n hx hb nd_S_set_50 rfl (lv_at hl 2 rfl) ?_
  refine xw_get (T := nT_S) (N := 4) (ci := 4) hx hb hT nu_S hown hK.1 hw hhB rfl 1 (by decide) (hT _ nh_fl_S_19) (fun _ h9 => h9) rfl nd_S_set_51 ?_
  refine lv_iload_n hx hb nd_S_set_54 rfl (lv_at hl 3 rfl) ?_
  refine lv_aload hx hb nd_S_set_55 (lv_at hl 0 rfl) ?_
  refine xw_aast (r := (nR_Q, nT_Q, 5)) hx hb hK.1 hB hw hS 3 3 hslB rfl hqB rfl (vp_in_nI (by omega) (by decide)) nd_S_set_57 (fun H locs hw hS => ?_)
  rw [nI_clamp (by omega)] at hw
  obtain ⟨w9, ew10⟩ : ∃ z, z = va_up w8 sl (some (.inl (G.2.1 3, 16, .inr (.inr (.inr (.inr (va_up g i (some qn)))))))) := ⟨_, rfl⟩
  have hw : g_P G w9 H := by rw [ew10]; exact hw
  have hhB : w9 h = some (.inr (4, [.ref e0, .ref sl, va_rf (bd.map (·.1)), .int (nI (L + 1))])) := by rw [ew10, va_up_ne _ _ (xw_ne hhB hslB (by simp))]; exact hhB
  have hqB : w9 qn = some (.inr (3, [.int (nI (L + 1)), .ref r1, .ref t1, .int (nI o), .int (nI (sz j))])) := by rw [ew10, va_up_ne _ _ (xw_ne hqB hslB (by simp))]; exact hqB
  have hslB : w9 sl = some (.inl (G.2.1 3, 16, .inr (.inr (.inr (.inr (va_up g i (some qn))))))) := by rw [ew10]; exact va_up_self _ _ _
  obtain ⟨hC, hF⟩ := sh_call hI hn e1 o1 K2 D2 (sh_rep hn3 hx1 V2 v1) ew10 hi
  refine lv_lload hx hb nd_S_set_58 (lv_at hl 1 rfl) ?_
  exact vx_ret (g_lret hx hb hr hlocks hw hS (by rw [sp_set_0 hi hj hn3 hx1]; exact ⟨rfl, rfl, ⟨L + 1, bd, _, by omega, hC⟩, hF⟩) (by exact Nat.le_of_ble_eq_true rfl) (by exact Nat.le_of_ble_eq_true rfl) nd_S_set_60)

set_option maxHeartbeats 4000000 in
set_option maxRecDepth 100000 in
theorem c_S_at (l : Launch) (hl9 : l.stackTraces = false) (G : g_G) (w : xw_W) (h e0 sl K : Nat) (S : sp_S) (hSt : sh_S G w h e0 sl S K) (hK9 : K + 1 < 2 ^ 31) (a k : Int32) : vx_Met l ny_S_at nw_S_at ({ frames := 8, cells := 16, slots := 200, locals := 160 }) (g_Pc G w [.ref h, .int a, .int k]) (g_Ql G (fun v9 w' => sh_Post G w h e0 sl K (sp_at S a k) v9 w')) (g_X G (sh_T S w (sp_at S a k) [g_IAE, g_NSE])) 16 200 (xw_A (g_b G)) := by
  refine g_xmet (by decide) (Nat.le_of_ble_eq_true rfl) rfl ?_
  intro p e s m below meth c ls hx hb hr hts hown hlocks hne hml hl hK hB hw hS
  have hT : ∀ w ∈ nw_T, w.before _ s = true := fun w h => hts w (List.mem_cons_of_mem _ h)
  have hown : s.vm.findClass "RadixShelf" = some m.cls := hown
  have hl : lv_has ls 3 [(0, .ref h), (1, .int a), (2, .int k)] := hl
  obtain ⟨op, sz, vs⟩ := S
  obtain ⟨L, bd, g, hLK, hI⟩ := hSt
  have hI : sh_I G w h e0 sl op sz vs L bd g := hI
  obtain ⟨hh, hsl, hW, hfr, hop, hsq, he0, hbd⟩ := id hI
  refine lv_iload_n hx hb nd_S_at_0 rfl (lv_at hl 1 rfl) ?_
  refine g_xcallv (vx_runS (As := [.int a]) (rest := []) ⟨hx, hb, hml, hown, hts⟩ (c_S_checkSlot l hl9 G w a) (cwS 1 hts (nw_of (nw_3 nh_ml_S_30 nh_st_S_checkSlot nh_in_S nh_co_S_checkSlot)) rfl rfl rfl (by decide +kernel) ⟨Nat.le_of_ble_eq_true rfl, Nat.le_of_ble_eq_true rfl⟩) (g_preS hK hw hS _) rfl rfl hl.1 rfl (lv_room (Nat.le_of_ble_eq_true rfl)) nd_S_at_1 ⟨by exact Nat.le_of_ble_eq_true rfl, by exact Nat.le_of_ble_eq_true rfl⟩) hS (fun E ce q9 w1 H locs hthr hw hS h1 h2 h3 => g_out hne hlocks hw hS h1 h2 h3 (⟨hthr.2.1, 0, by rw [hthr.1]; rfl, sp_at_1 hthr.2.2⟩) (by exact Nat.le_of_ble_eq_true rfl) (by exact Nat.le_of_ble_eq_true rfl)) (fun w1 H locs hp hw hS => ?_)
  obtain ⟨hw9, hr9⟩ := hp
  rw [hw9] at hw
  obtain ⟨j, hj, rfl⟩ := sp_sl_of hr9
  refine lv_aload_n hx hb nd_S_at_4 rfl (lv_at hl 0 rfl) ?_
  refine xw_get (T := nT_S) (N := 4) (ci := 4) hx hb hT nu_S hown hK.1 hw hh rfl 1 (by decide) (hT _ nh_fl_S_19) (fun _ h9 => h9) rfl nd_S_at_5 ?_
  refine lv_iload_n hx hb nd_S_at_8 rfl (lv_at hl 1 rfl) ?_
  obtain ⟨q, hg, hnb, s0, r, t, o, hSo⟩ := hsq j hj
  have hq := hSo.1
  refine xw_aald (y := q) hx hb hK.1 hw 3 hsl rfl (vp_in_nI (by omega) (by decide)) (by rw [nI_clamp (by omega)]; exact hg) nd_S_at_9 ?_
  have hn3 : sz j ≤ 3000 := hSo.2.2.1
  refine lv_iload_n hx hb nd_S_at_10 rfl (lv_at hl 2 rfl) ?_
  refine g_xcallv (vx_runS (As := [.ref q, .int k]) (rest := []) ⟨hx, hb, hml, hown, hts⟩ (c_S_checkElement l hl9 G w q r t (sz j) s0 (nI o) k hq) (cwS 2 hts (nw_of (nw_3 nh_ml_S_52 nh_st_S_checkElement nh_in_S nh_co_S_checkElement)) rfl rfl rfl (by decide +kernel) ⟨Nat.le_of_ble_eq_true rfl, Nat.le_of_ble_eq_true rfl⟩) (g_preS hK hw hS _) rfl rfl hl.1 rfl (lv_room (Nat.le_of_ble_eq_true rfl)) nd_S_at_11 ⟨by exact Nat.le_of_ble_eq_true rfl, by exact Nat.le_of_ble_eq_true rfl⟩) hS (fun E ce q9 w2 H locs hthr hw hS h1 h2 h3 => g_out hne hlocks hw hS h1 h2 h3 (⟨hthr.2.1, 1, by rw [hthr.1]; rfl, sp_at_2 hj hthr.2.2⟩) (by exact Nat.le_of_ble_eq_true rfl) (by exact Nat.le_of_ble_eq_true rfl)) (fun w2 H locs hp hw hS => ?_)
  obtain ⟨hw9, hr9⟩ := hp
  rw [hw9] at hw
  obtain ⟨x, hx1, rfl⟩ := sp_elo hn3 hr9
  refine lv_aload_n hx hb nd_S_at_14 rfl (lv_at hl 0 rfl) ?_
  refine xw_get (T := nT_S) (N := 4) (ci := 4) hx hb hT nu_S hown hK.1 hw hh rfl 1 (by decide) (hT _ nh_fl_S_19) (fun _ h9 => h9) rfl nd_S_at_15 ?_
  refine lv_iload_n hx hb nd_S_at_18 rfl (lv_at hl 1 rfl) ?_
  refine xw_aald (y := q) hx hb hK.1 hw 3 hsl rfl (vp_in_nI (by omega) (by decide)) (by rw [nI_clamp (by omega)]; exact hg) nd_S_at_19 ?_
  refine lv_iload_n hx hb nd_S_at_20 rfl (lv_at hl 2 rfl) ?_
  refine g_calll (va_runV (As := [.int (nI x)]) (rest := []) ⟨hx, hb, hml, hown, hts⟩ (c_Q_element l G w q r t o (sz j) x s0 hSo.2.1 hn3 hx1 hq hSo.2.2.2.1 hSo.2.2.2.2.1) (cwV (C := nR_Q) 1 hts (nw_of (nw_4 nh_ml_S_56 nh_im_Q_element nh_se_Q_element nh_in_Q nh_co_Q_element)) rfl rfl rfl (by decide +kernel) ⟨Nat.le_of_ble_eq_true rfl, Nat.le_of_ble_eq_true rfl⟩) (g_preV (ci := 3) (q := (nR_Q, nT_Q, 5)) hK hw hS rfl hq _) rfl rfl hl.1 rfl (lv_room (Nat.le_of_ble_eq_true rfl)) nd_S_at_21 ⟨by exact Nat.le_of_ble_eq_true rfl, by exact Nat.le_of_ble_eq_true rfl⟩) hS (fun v9 w3 H locs hp hw hS => ?_)
  obtain ⟨rfl, hw9⟩ := hp
  rw [hw9] at hw
  refine lv_topl (fun y4 ey5 => ?_)
  obtain rfl : y4 = vs j x := ey5.trans (hSo.2.2.2.2.2.2 x hx1)
  exact vx_ret (g_lret hx hb hr hlocks hw hS (by rw [sp_at_0 hj hn3 hx1]; exact ⟨rfl, rfl, ⟨L, bd, g, by omega, hI⟩, sh_F.rf⟩) (by exact Nat.le_of_ble_eq_true rfl) (by exact Nat.le_of_ble_eq_true rfl) nd_S_at_24)

set_option maxHeartbeats 4000000 in
set_option maxRecDepth 100000 in
theorem c_S_size (l : Launch) (hl9 : l.stackTraces = false) (G : g_G) (w : xw_W) (h e0 sl K : Nat) (S : sp_S) (hSt : sh_S G w h e0 sl S K) (hK9 : K + 1 < 2 ^ 31) (a : Int32) : vx_Met l ny_S_size nw_S_size ({ frames := 8, cells := 16, slots := 200, locals := 160 }) (g_Pc G w [.ref h, .int a]) (g_Qi G (fun v9 w' => sh_Post G w h e0 sl K (sp_size S a) v9.toInt64 w')) (g_X G (sh_T S w (sp_size S a) [g_IAE])) 16 200 (xw_A (g_b G)) := by
  refine g_xmet (by decide) (Nat.le_of_ble_eq_true rfl) rfl ?_
  intro p e s m below meth c ls hx hb hr hts hown hlocks hne hml hl hK hB hw hS
  have hT : ∀ w ∈ nw_T, w.before _ s = true := fun w h => hts w (List.mem_cons_of_mem _ h)
  have hown : s.vm.findClass "RadixShelf" = some m.cls := hown
  have hl : lv_has ls 2 [(0, .ref h), (1, .int a)] := hl
  obtain ⟨op, sz, vs⟩ := S
  obtain ⟨L, bd, g, hLK, hI⟩ := hSt
  have hI : sh_I G w h e0 sl op sz vs L bd g := hI
  obtain ⟨hh, hsl, hW, hfr, hop, hsq, he0, hbd⟩ := id hI
  refine lv_iload_n hx hb nd_S_size_0 rfl (lv_at hl 1 rfl) ?_
  refine g_xcallv (vx_runS (As := [.int a]) (rest := []) ⟨hx, hb, hml, hown, hts⟩ (c_S_checkSlot l hl9 G w a) (cwS 1 hts (nw_of (nw_3 nh_ml_S_30 nh_st_S_checkSlot nh_in_S nh_co_S_checkSlot)) rfl rfl rfl (by decide +kernel) ⟨Nat.le_of_ble_eq_true rfl, Nat.le_of_ble_eq_true rfl⟩) (g_preS hK hw hS _) rfl rfl hl.1 rfl (lv_room (Nat.le_of_ble_eq_true rfl)) nd_S_size_1 ⟨by exact Nat.le_of_ble_eq_true rfl, by exact Nat.le_of_ble_eq_true rfl⟩) hS (fun E ce q9 w1 H locs hthr hw hS h1 h2 h3 => g_out hne hlocks hw hS h1 h2 h3 (⟨hthr.2.1, 0, by rw [hthr.1]; rfl, sp_size_1 hthr.2.2⟩) (by exact Nat.le_of_ble_eq_true rfl) (by exact Nat.le_of_ble_eq_true rfl)) (fun w1 H locs hp hw hS => ?_)
  obtain ⟨hw9, hr9⟩ := hp
  rw [hw9] at hw
  obtain ⟨j, hj, rfl⟩ := sp_sl_of hr9
  refine lv_aload_n hx hb nd_S_size_4 rfl (lv_at hl 0 rfl) ?_
  refine xw_get (T := nT_S) (N := 4) (ci := 4) hx hb hT nu_S hown hK.1 hw hh rfl 1 (by decide) (hT _ nh_fl_S_19) (fun _ h9 => h9) rfl nd_S_size_5 ?_
  refine lv_iload_n hx hb nd_S_size_8 rfl (lv_at hl 1 rfl) ?_
  obtain ⟨q, hg, hnb, s0, r, t, o, hSo⟩ := hsq j hj
  have hq := hSo.1
  refine xw_aald (y := q) hx hb hK.1 hw 3 hsl rfl (vp_in_nI (by omega) (by decide)) (by rw [nI_clamp (by omega)]; exact hg) nd_S_size_9 ?_
  refine xw_get (T := nT_Q) (N := 5) (ci := 3) hx hb hT nu_Q hown hK.1 hw hq rfl 4 (by decide) (hT _ nh_fl_S_46) (fun _ h9 => h9) rfl nd_S_size_10 ?_
  exact vx_ret (g_iret hx hb hr hlocks hw hS (by rw [sp_size_0 hj]; exact ⟨rfl, rfl, ⟨L, bd, g, by omega, hI⟩, sh_F.rf⟩) (by exact Nat.le_of_ble_eq_true rfl) (by exact Nat.le_of_ble_eq_true rfl) nd_S_size_13)
end
section
theorem sp_cmp {a b : Nat} (ha : a < 2 ^ 63) (hb : b < 2 ^ 63) : lg_cmp (lN a) (lN b) ≤ 0 ↔ a ≤ b := by
  unfold lg_cmp
  by_cases h1 : lN a > lN b
  · have h2 := (pk_lLT hb ha).mp h1
    rw [if_pos h1]
    exact ⟨fun z => absurd z (by decide), fun z => by omega⟩
  · have h2 : ¬ b < a := fun z => h1 ((pk_lLT hb ha).mpr z)
    rw [if_neg h1]
    by_cases h3 : lN a = lN b
    · rw [if_pos h3]; exact ⟨fun _ => by omega, fun _ => by decide⟩
    · rw [if_neg h3]; exact ⟨fun _ => by omega, fun _ => by decide⟩

set_option maxHeartbeats 4000000 in
set_option maxRecDepth 100000 in
theorem c_S_cut (l : Launch) (hl9 : l.stackTraces = false) (G : g_G) (w : xw_W) (h e0 sl K : Nat) (S : sp_S) (hSt : sh_S G w h e0 sl S K) (hK9 : K + 1 < 2 ^ 31) (a b f k : Int32) : vx_Met l ny_S_cut nw_S_cut ({ frames := 8, cells := 16, slots := 200, locals := 160 }) (g_Pc G w [.ref h, .int a, .int b, .int f, .int k]) (g_Qi G (fun v9 w' => sh_Post G w h e0 sl K (sp_cut S a b f k) v9.toInt64 w')) (g_X G (sh_T S w (sp_cut S a b f k) [g_IAE, g_NSE])) 16 200 (xw_A (g_b G)) := by
  refine g_xmet (by decide) (Nat.le_of_ble_eq_true rfl) rfl ?_
  intro p e s m below meth c ls hx hb hr hts hown hlocks hne hml hl hK hB hw hS
  have hT : ∀ w ∈ nw_T, w.before _ s = true := fun w h => hts w (List.mem_cons_of_mem _ h)
  have hown : s.vm.findClass "RadixShelf" = some m.cls := hown
  have hl : lv_has ls 6 [(0, .ref h), (1, .int a), (2, .int b), (3, .int f), (4, .int k)] := hl
  obtain ⟨op, sz, vs⟩ := S
  obtain ⟨L, bd, g, hLK, hI⟩ := hSt
  have hI : sh_I G w h e0 sl op sz vs L bd g := hI
  obtain ⟨hh, hsl, hW, hfr, hop, hsq, he0, hbd⟩ := id hI
  refine lv_iload_n hx hb nd_S_cut_0 rfl (lv_at hl 1 rfl) ?_
  refine g_xcallv (vx_runS (As := [.int a]) (rest := []) ⟨hx, hb, hml, hown, hts⟩ (c_S_checkSlot l hl9 G w a) (cwS 1 hts (nw_of (nw_3 nh_ml_S_30 nh_st_S_checkSlot nh_in_S nh_co_S_checkSlot)) rfl rfl rfl (by decide +kernel) ⟨Nat.le_of_ble_eq_true rfl, Nat.le_of_ble_eq_true rfl⟩) (g_preS hK hw hS _) rfl rfl hl.1 rfl (lv_room (Nat.le_of_ble_eq_true rfl)) nd_S_cut_1 ⟨by exact Nat.le_of_ble_eq_true rfl, by exact Nat.le_of_ble_eq_true rfl⟩) hS (fun E ce q9 w1 H locs hthr hw hS h1 h2 h3 => g_out hne hlocks hw hS h1 h2 h3 (⟨hthr.2.1, 0, by rw [hthr.1]; rfl, sp_cut_1 (Or.inl hthr.2.2)⟩) (by exact Nat.le_of_ble_eq_true rfl) (by exact Nat.le_of_ble_eq_true rfl)) (fun w1 H locs hp hw hS => ?_)
  obtain ⟨hw9, hr9⟩ := hp
  rw [hw9] at hw
  obtain ⟨i, hi, rfl⟩ := sp_sl_of hr9
  refine lv_iload_n hx hb nd_S_cut_4 rfl (lv_at hl 2 rfl) ?_
  refine g_xcallv (vx_runS (As := [.int b]) (rest := []) ⟨hx, hb, hml, hown, hts⟩ (c_S_checkSlot l hl9 G w b) (cwS 1 hts (nw_of (nw_3 nh_ml_S_30 nh_st_S_checkSlot nh_in_S nh_co_S_checkSlot)) rfl rfl rfl (by decide +kernel) ⟨Nat.le_of_ble_eq_true rfl, Nat.le_of_ble_eq_true rfl⟩) (g_preS hK hw hS _) rfl rfl hl.1 rfl (lv_room (Nat.le_of_ble_eq_true rfl)) nd_S_cut_5 ⟨by exact Nat.le_of_ble_eq_true rfl, by exact Nat.le_of_ble_eq_true rfl⟩) hS (fun E ce q9 w2 H locs hthr hw hS h1 h2 h3 => g_out hne hlocks hw hS h1 h2 h3 (⟨hthr.2.1, 0, by rw [hthr.1]; rfl, sp_cut_1 (Or.inr (Or.inl hthr.2.2))⟩) (by exact Nat.le_of_ble_eq_true rfl) (by exact Nat.le_of_ble_eq_true rfl)) (fun w2 H locs hp hw hS => ?_)
  obtain ⟨hw9, hr9⟩ := hp
  rw [hw9] at hw
  obtain ⟨j, hj, rfl⟩ := sp_sl_of hr9
  refine lv_iload_n hx hb nd_S_cut_8 rfl (lv_at hl 3 rfl) ?_
  refine g_xcallv (vx_runS (As := [.int f]) (rest := []) ⟨hx, hb, hml, hown, hts⟩ (c_S_checkNotNegative l hl9 G w f) (cwS 1 hts (nw_of (nw_3 nh_ml_S_64 nh_st_S_checkNotNegative nh_in_S nh_co_S_checkNotNegative)) rfl rfl rfl (by decide +kernel) ⟨Nat.le_of_ble_eq_true rfl, Nat.le_of_ble_eq_true rfl⟩) (g_preS hK hw hS _) rfl rfl hl.1 rfl (lv_room (Nat.le_of_ble_eq_true rfl)) nd_S_cut_9 ⟨by exact Nat.le_of_ble_eq_true rfl, by exact Nat.le_of_ble_eq_true rfl⟩) hS (fun E ce q9 w3 H locs hthr hw hS h1 h2 h3 => g_out hne hlocks hw hS h1 h2 h3 (⟨hthr.2.1, 0, by rw [hthr.1]; rfl, sp_cut_1 (Or.inr (Or.inr (Or.inl hthr.2.2)))⟩) (by exact Nat.le_of_ble_eq_true rfl) (by exact Nat.le_of_ble_eq_true rfl)) (fun w3 H locs hp hw hS => ?_)
  obtain ⟨hw9, hr9⟩ := hp
  rw [hw9] at hw
  obtain ⟨x, hx1, rfl⟩ := nI_of (Int32.not_lt.mpr hr9)
  refine lv_iload hx hb nd_S_cut_12 (lv_at hl 4 rfl) ?_
  refine g_xcallv (vx_runS (As := [.int k]) (rest := []) ⟨hx, hb, hml, hown, hts⟩ (c_S_checkNotNegative l hl9 G w k) (cwS 1 hts (nw_of (nw_3 nh_ml_S_64 nh_st_S_checkNotNegative nh_in_S nh_co_S_checkNotNegative)) rfl rfl rfl (by decide +kernel) ⟨Nat.le_of_ble_eq_true rfl, Nat.le_of_ble_eq_true rfl⟩) (g_preS hK hw hS _) rfl rfl hl.1 rfl (lv_room (Nat.le_of_ble_eq_true rfl)) nd_S_cut_14 ⟨by exact Nat.le_of_ble_eq_true rfl, by exact Nat.le_of_ble_eq_true rfl⟩) hS (fun E ce q9 w4 H locs hthr hw hS h1 h2 h3 => g_out hne hlocks hw hS h1 h2 h3 (⟨hthr.2.1, 0, by rw [hthr.1]; rfl, sp_cut_1 (Or.inr (Or.inr (Or.inr hthr.2.2)))⟩) (by exact Nat.le_of_ble_eq_true rfl) (by exact Nat.le_of_ble_eq_true rfl)) (fun w4 H locs hp hw hS => ?_)
  obtain ⟨hw9, hr9⟩ := hp
  rw [hw9] at hw
  obtain ⟨y, hy1, rfl⟩ := nI_of (Int32.not_lt.mpr hr9)
  refine lv_iload_n hx hb nd_S_cut_17 rfl (lv_at hl 3 rfl) ?_
  refine lv_i2l hx hb nd_S_cut_18 rfl ?_
  refine lv_iload hx hb nd_S_cut_19 (lv_at hl 4 rfl) ?_
  refine lv_i2l hx hb nd_S_cut_21 rfl ?_
  refine lv_ladd hx hb nd_S_cut_22 ?_
  refine lv_topl (fun y5 ey6 => ?_)
  obtain rfl : y5 = lN (x + y) := ey6.trans (by rw [nI_l hx1, nI_l hy1, lN_add])
  refine lv_aload_n hx hb nd_S_cut_23 rfl (lv_at hl 0 rfl) ?_
  refine xw_get (T := nT_S) (N := 4) (ci := 4) hx hb hT nu_S hown hK.1 hw hh rfl 1 (by decide) (hT _ nh_fl_S_19) (fun _ h9 => h9) rfl nd_S_cut_24 ?_
  refine lv_iload_n hx hb nd_S_cut_27 rfl (lv_at hl 2 rfl) ?_
  obtain ⟨q, hg, hnb, s0, r, t, o, hSo⟩ := hsq j hj
  have hq := hSo.1
  refine xw_aald (y := q) hx hb hK.1 hw 3 hsl rfl (vp_in_nI (by omega) (by decide)) (by rw [nI_clamp (by omega)]; exact hg) nd_S_cut_28 ?_
  have hn3 : sz j ≤ 3000 := hSo.2.2.1
  refine xw_get (T := nT_Q) (N := 5) (ci := 3) hx hb hT nu_Q hown hK.1 hw hq rfl 4 (by decide) (hT _ nh_fl_S_46) (fun _ h9 => h9) rfl nd_S_cut_29 ?_
  refine lv_i2l hx hb nd_S_cut_32 rfl ?_
  refine lv_topl (fun y7 ey8 => ?_)
  obtain rfl : y7 = lN (sz j) := ey8.trans (nI_l (by omega))
  refine W.lcmp hx hb nd_S_cut_33 ?_
  refine lv_if_le (tgt := 47) hx hb nd_S_cut_34 (by decide) (fun hc => ?_) (fun hc => ?_)
  · have hs : x + y ≤ sz j := (sp_cmp (by omega) (by omega)).mp hc
    refine lv_aload_n hx hb nd_S_cut_47 rfl (lv_at hl 0 rfl) ?_
    refine lv_aload_n hx hb nd_S_cut_48 rfl (lv_at hl 0 rfl) ?_
    refine xw_get (T := nT_S) (N := 4) (ci := 4) hx hb hT nu_S hown hK.1 hw hh rfl 1 (by decide) (hT _ nh_fl_S_19) (fun _ h9 => h9) rfl nd_S_cut_49 ?_
    refine lv_iload_n hx hb nd_S_cut_52 rfl (lv_at hl 2 rfl) ?_
    refine xw_aald (y := q) hx hb hK.1 hw 3 hsl rfl (vp_in_nI (by omega) (by decide)) (by rw [nI_clamp (by omega)]; exact hg) nd_S_cut_53 ?_
    refine g_callr (va_runV (As := [.ref q]) (rest := []) ⟨hx, hb, hml, hown, hts⟩ (c_S_draftOf l G w h e0 sl L q r t (bd.map (·.1)) s0 (nI o) (nI (sz j)) hh hq) (cwV (C := nR_S) 1 hts (nw_of (nw_4 nh_ml_S_38 nh_im_S_draftOf nh_se_S_draftOf nh_in_S nh_co_S_draftOf)) rfl rfl rfl (by decide +kernel) ⟨Nat.le_of_ble_eq_true rfl, Nat.le_of_ble_eq_true rfl⟩) (g_preV (ci := 4) (q := (nR_S, nT_S, 4)) hK hw hS rfl hh _) rfl rfl hl.1 rfl (lv_room (Nat.le_of_ble_eq_true rfl)) nd_S_cut_54 ⟨by exact Nat.le_of_ble_eq_true rfl, by exact Nat.le_of_ble_eq_true rfl⟩) hS (fun qn w9 H locs hp hw hS => ?_)
    obtain ⟨hn, e1⟩ := hp
    obtain ⟨D1, v1, o1⟩ := sh_draft hI (by omega) hSo hn e1
    have hhA : w9 h = some (.inr (4, [.ref e0, .ref sl, va_rf (bd.map (·.1)), .int (nI (L + 1))])) := by rw [e1, va_up_ne _ _ (xw_nn hh hn)]; exact va_up_self _ _ _
    have hslA : w9 sl = some (.inl (G.2.1 3, 16, .inr (.inr (.inr (.inr g))))) := by rw [e1, va_up_ne _ _ (xw_nn hsl hn), va_up_ne _ _ (tr_ne_kind hsl hh)]; exact hsl
    have hqA := D1.2.2.1
    refine lv_astore hx hb nd_S_cut_57 hl (by decide) (lv' := [(5, .ref qn), (0, .ref h), (1, .int (nI i)), (2, .int (nI j)), (3, .int (nI x)), (4, .int (nI y))]) rfl (fun ls hl => ?_)
    refine lv_aload hx hb nd_S_cut_59 (lv_at hl 0 rfl) ?_
    refine lv_iload_n hx hb nd_S_cut_61 rfl (lv_at hl 4 rfl) ?_
    refine lv_iload hx hb nd_S_cut_62 (lv_at hl 5 rfl) ?_
    refine g_callv (va_runV (As := [.int (nI x), .int (nI y)]) (rest := []) ⟨hx, hb, hml, hown, hts⟩ (c_Q_trim l G w9 (L + 1) (L + 1) qn r t o (sz j) x y D1 hs) (cwV (C := nR_Q) 2 hts (nw_of (nw_4 nh_ml_S_74 nh_im_Q_trim nh_se_Q_trim nh_in_Q nh_co_Q_trim)) rfl rfl rfl (by decide +kernel) ⟨Nat.le_of_ble_eq_true rfl, Nat.le_of_ble_eq_true rfl⟩) (g_preV (ci := 3) (q := (nR_Q, nT_Q, 5)) hK hw hS rfl hqA _) rfl rfl hl.1 rfl (lv_room (Nat.le_of_ble_eq_true rfl)) nd_S_cut_64 ⟨by exact Nat.le_of_ble_eq_true rfl, by exact Nat.le_of_ble_eq_true rfl⟩) hS (fun w10 H locs hp hw hS => ?_)
    obtain ⟨t1, D2, K2, V2⟩ := hp
    have hhB := K2.1 _ _ hhA (xw_nn hh hn) (o1 h)
    have hslB := K2.1 _ _ hslA (xw_nn hsl hn) (o1 sl)
    have hqB := D2.2.2.1
    refine lv_aload_n hx hb nd_S_cut_67 rfl (lv_at hl 1 rfl) ?_
    refine xw_get (T := nT_S) (N := 4) (ci := 4) hx hb hT nu_S hown hK.1 hw hhB rfl 1 (by decide) (hT _ nh_fl_S_19) (fun _ h9 => h9) rfl nd_S_cut_68 ?_
    refine lv_iload_n hx hb nd_S_cut_71 rfl (lv_at hl 2 rfl) ?_
    refine lv_aload hx hb nd_S_cut_72 (lv_at hl 0 rfl) ?_
    refine xw_aast (r := (nR_Q, nT_Q, 5)) hx hb hK.1 hB hw hS 3 3 hslB rfl hqB rfl (vp_in_nI (by omega) (by decide)) nd_S_cut_74 (fun H locs hw hS => ?_)
    rw [nI_clamp (by omega)] at hw
    obtain ⟨w11, ew12⟩ : ∃ z, z = va_up w10 sl (some (.inl (G.2.1 3, 16, .inr (.inr (.inr (.inr (va_up g i (some qn)))))))) := ⟨_, rfl⟩
    have hw : g_P G w11 H := by rw [ew12]; exact hw
    have hhB : w11 h = some (.inr (4, [.ref e0, .ref sl, va_rf (bd.map (·.1)), .int (nI (L + 1))])) := by rw [ew12, va_up_ne _ _ (xw_ne hhB hslB (by simp))]; exact hhB
    have hqB : w11 qn = some (.inr (3, [.int (nI (L + 1)), .ref r, .ref t1, .int (nI ((o + x) % 32768)), .int (nI (sz j - (x + y)))])) := by rw [ew12, va_up_ne _ _ (xw_ne hqB hslB (by simp))]; exact hqB
    have hslB : w11 sl = some (.inl (G.2.1 3, 16, .inr (.inr (.inr (.inr (va_up g i (some qn))))))) := by rw [ew12]; exact va_up_self _ _ _
    obtain ⟨hC, hF⟩ := sh_call (f' := fun z => vs j (x + z)) hI hn e1 o1 K2 D2 (fun z hz => (V2 z hz).trans (v1 (x + z) (by omega))) ew12 hi
    refine lv_aload hx hb nd_S_cut_75 (lv_at hl 0 rfl) ?_
    refine xw_get (T := nT_Q) (N := 5) (ci := 3) hx hb hT nu_Q hown hK.1 hw hqB rfl 4 (by decide) (hT _ nh_fl_S_46) (fun _ h9 => h9) rfl nd_S_cut_77 ?_
    exact vx_ret (g_iret hx hb hr hlocks hw hS (by rw [sp_cut_0 hi hj hx1 hy1 hs]; exact ⟨rfl, rfl, ⟨L + 1, bd, _, by omega, hC⟩, hF⟩) (by exact Nat.le_of_ble_eq_true rfl) (by exact Nat.le_of_ble_eq_true rfl) nd_S_cut_80)
  · exact g_throw (cls := g_NSE) 4 hx hb hl9 hown hT hK hw hS (by rw [hml]; exact hl.1) (by decide +kernel) (i1 := 13) (b1 := prog_16_method_4_code) ⟨by decide +kernel, by decide +kernel, by decide +kernel, by decide +kernel⟩ nh_cl_S_67 nh_in_NSE (by decide) rfl (by decide +kernel) (by decide +kernel) (by decide +kernel) (by decide) nd_S_cut_37 nd_S_cut_40 nd_S_cut_41 nd_S_cut_43 nd_S_cut_46 hne (by exact Nat.le_of_ble_eq_true rfl) (by exact Nat.le_of_ble_eq_true rfl) (by exact Nat.le_of_ble_eq_true rfl) (by exact Nat.le_of_ble_eq_true rfl) hlocks (⟨rfl, 1, rfl, sp_cut_2 hi hj hx1 hy1 (fun z => hc ((sp_cmp (by omega) (by omega)).mpr z))⟩) (by exact Nat.le_of_ble_eq_true rfl) (by exact Nat.le_of_ble_eq_true rfl)

set_option maxHeartbeats 4000000 in
set_option maxRecDepth 100000 in
theorem c_S_open (l : Launch) (hl9 : l.stackTraces = false) (G : g_G) (w : xw_W) (h e0 sl K : Nat) (S : sp_S) (hSt : sh_S G w h e0 sl S K) (hK9 : K + 1 < 2 ^ 31) (a : Int32) : vx_Met l ny_S_open nw_S_open ({ frames := 8, cells := 16, slots := 200, locals := 160 }) (g_Pc G w [.ref h, .int a]) (g_Qv G (fun w' => sh_Post G w h e0 sl K (sp_opn S a) 0 w')) (g_X G (sh_T S w (sp_opn S a) [g_IAE, g_ISE])) 16 200 (xw_A (g_b G)) := by
  refine g_xmet (by decide) (Nat.le_of_ble_eq_true rfl) rfl ?_
  intro p e s m below meth c ls hx hb hr hts hown hlocks hne hml hl hK hB hw hS
  have hT : ∀ w ∈ nw_T, w.before _ s = true := fun w h => hts w (List.mem_cons_of_mem _ h)
  have hown : s.vm.findClass "RadixShelf" = some m.cls := hown
  have hl : lv_has ls 2 [(0, .ref h), (1, .int a)] := hl
  obtain ⟨op, sz, vs⟩ := S
  obtain ⟨L, bd, g, hLK, hI⟩ := hSt
  have hI : sh_I G w h e0 sl op sz vs L bd g := hI
  obtain ⟨hh, hsl, hW, hfr, hop, hsq, he0, hbd⟩ := id hI
  refine lv_iload_n hx hb nd_S_open_0 rfl (lv_at hl 1 rfl) ?_
  refine g_xcallv (vx_runS (As := [.int a]) (rest := []) ⟨hx, hb, hml, hown, hts⟩ (c_S_checkSlot l hl9 G w a) (cwS 1 hts (nw_of (nw_3 nh_ml_S_30 nh_st_S_checkSlot nh_in_S nh_co_S_checkSlot)) rfl rfl rfl (by decide +kernel) ⟨Nat.le_of_ble_eq_true rfl, Nat.le_of_ble_eq_true rfl⟩) (g_preS hK hw hS _) rfl rfl hl.1 rfl (lv_room (Nat.le_of_ble_eq_true rfl)) nd_S_open_1 ⟨by exact Nat.le_of_ble_eq_true rfl, by exact Nat.le_of_ble_eq_true rfl⟩) hS (fun E ce q9 w1 H locs hthr hw hS h1 h2 h3 => g_out hne hlocks hw hS h1 h2 h3 (⟨hthr.2.1, 0, by rw [hthr.1]; rfl, sp_opn_1 hthr.2.2⟩) (by exact Nat.le_of_ble_eq_true rfl) (by exact Nat.le_of_ble_eq_true rfl)) (fun w1 H locs hp hw hS => ?_)
  obtain ⟨hw9, hr9⟩ := hp
  rw [hw9] at hw
  obtain ⟨j, hj, rfl⟩ := sp_sl_of hr9
  rcases bd with _ | ⟨qb, d⟩
  · obtain rfl : false = op := hop
    have hh : w h = some (.inr (4, [.ref e0, .ref sl, .null, .int (nI L)])) := hh
    refine lv_aload_n hx hb nd_S_open_4 rfl (lv_at hl 0 rfl) ?_
    refine xw_get (T := nT_S) (N := 4) (ci := 4) hx hb hT nu_S hown hK.1 hw hh rfl 2 (by decide) (hT _ nh_fl_S_23) (fun _ h9 => h9) rfl nd_S_open_5 ?_
    refine lv_ifnullN (tgt := 21) hx hb nd_S_open_8 (by decide) ?_
    refine lv_aload_n hx hb nd_S_open_21 rfl (lv_at hl 0 rfl) ?_
    refine lv_aload_n hx hb nd_S_open_22 rfl (lv_at hl 0 rfl) ?_
    refine lv_aload_n hx hb nd_S_open_23 rfl (lv_at hl 0 rfl) ?_
    refine xw_get (T := nT_S) (N := 4) (ci := 4) hx hb hT nu_S hown hK.1 hw hh rfl 1 (by decide) (hT _ nh_fl_S_19) (fun _ h9 => h9) rfl nd_S_open_24 ?_
    refine lv_iload_n hx hb nd_S_open_27 rfl (lv_at hl 1 rfl) ?_
    obtain ⟨q, hg, hnb, s0, r, t, o, hSo⟩ := hsq j hj
    have hq := hSo.1
    refine xw_aald (y := q) hx hb hK.1 hw 3 hsl rfl (vp_in_nI (by omega) (by decide)) (by rw [nI_clamp (by omega)]; exact hg) nd_S_open_28 ?_
    refine g_callr (va_runV (As := [.ref q]) (rest := [.ref h]) ⟨hx, hb, hml, hown, hts⟩ (c_S_draftOf l G w h e0 sl L q r t none s0 (nI o) (nI (sz j)) hh hq) (cwV (C := nR_S) 1 hts (nw_of (nw_4 nh_ml_S_38 nh_im_S_draftOf nh_se_S_draftOf nh_in_S nh_co_S_draftOf)) rfl rfl rfl (by decide +kernel) ⟨Nat.le_of_ble_eq_true rfl, Nat.le_of_ble_eq_true rfl⟩) (g_preV (ci := 4) (q := (nR_S, nT_S, 4)) hK hw hS rfl hh _) rfl rfl hl.1 rfl (lv_room (Nat.le_of_ble_eq_true rfl)) nd_S_open_29 ⟨by exact Nat.le_of_ble_eq_true rfl, by exact Nat.le_of_ble_eq_true rfl⟩) hS (fun qn w2 H locs hp hw hS => ?_)
    obtain ⟨hn, e1⟩ := hp
    have hhA : w2 h = some (.inr (4, [.ref e0, .ref sl, .null, .int (nI (L + 1))])) := by rw [e1, va_up_ne _ _ (xw_nn hh hn)]; exact va_up_self _ _ _
    refine xw_put (T := nT_S) (N := 4) (ci := 4) (v := .ref qn) (ty := (.object "RadixShelf$Sequence")) hx hb hT nu_S nt_S nk_S nn_S hown hK.1 hB hw hS hhA rfl 2 (by decide) (hT _ nh_fl_S_23) (fun _ h9 => h9) rfl (by decide +kernel) rfl rfl (Nat.le_of_ble_eq_true rfl) nd_S_open_32 (fun H locs hw hS => ?_)
    obtain ⟨w3, ew4⟩ : ∃ z, z = va_up w2 h (some (.inr (4, [.ref e0, .ref sl, .ref qn, .int (nI (L + 1))]))) := ⟨_, rfl⟩
    have hw : g_P G w3 H := by rw [ew4]; exact hw
    have hhA : w3 h = some (.inr (4, [.ref e0, .ref sl, .ref qn, .int (nI (L + 1))])) := by rw [ew4]; exact va_up_self _ _ _
    obtain ⟨hC, hF⟩ := sh_opens hI (by omega) hSo hn e1 ew4
    exact vx_ret (g_vret hx hb hr hlocks hw hS (by rw [sp_opn_0 hj]; exact ⟨rfl, rfl, ⟨L + 1, _, _, by omega, hC⟩, hF⟩) (by exact Nat.le_of_ble_eq_true rfl) (by exact Nat.le_of_ble_eq_true rfl) nd_S_open_35)
  · obtain rfl : true = op := hop
    have hh : w h = some (.inr (4, [.ref e0, .ref sl, .ref qb, .int (nI L)])) := hh
    obtain ⟨rb, tb, ob, Db, vb⟩ := hbd qb d rfl
    have hqb := Db.2.2.1
    have hn3 : sz 16 ≤ 3000 := Db.2.2.2.2.1
    refine lv_aload_n hx hb nd_S_open_4 rfl (lv_at hl 0 rfl) ?_
    refine xw_get (T := nT_S) (N := 4) (ci := 4) hx hb hT nu_S hown hK.1 hw hh rfl 2 (by decide) (hT _ nh_fl_S_23) (fun _ h9 => h9) rfl nd_S_open_5 ?_
    refine lv_ifnull hx hb nd_S_open_8 ?_
    exact g_throw (cls := g_ISE) 5 hx hb hl9 hown hT hK hw hS (by rw [hml]; exact hl.1) (by decide +kernel) (i1 := 7) (b1 := Bundle.six) ⟨by decide +kernel, by decide +kernel, by decide +kernel, by decide +kernel⟩ nh_cl_S_84 nh_in_ISE (by decide) rfl (by decide +kernel) (by decide +kernel) (by decide +kernel) (by decide) nd_S_open_11 nd_S_open_14 nd_S_open_15 nd_S_open_17 nd_S_open_20 hne (by exact Nat.le_of_ble_eq_true rfl) (by exact Nat.le_of_ble_eq_true rfl) (by exact Nat.le_of_ble_eq_true rfl) (by exact Nat.le_of_ble_eq_true rfl) hlocks (⟨rfl, 1, rfl, sp_opn_2 hj⟩) (by exact Nat.le_of_ble_eq_true rfl) (by exact Nat.le_of_ble_eq_true rfl)

set_option maxHeartbeats 4000000 in
set_option maxRecDepth 100000 in
theorem c_S_freeze (l : Launch) (hl9 : l.stackTraces = false) (G : g_G) (w : xw_W) (h e0 sl K : Nat) (S : sp_S) (hSt : sh_S G w h e0 sl S K) (hK9 : K + 1 < 2 ^ 31) (a : Int32) : vx_Met l ny_S_freeze nw_S_freeze ({ frames := 8, cells := 16, slots := 200, locals := 160 }) (g_Pc G w [.ref h, .int a]) (g_Qi G (fun v9 w' => sh_Post G w h e0 sl K (sp_freeze S a) v9.toInt64 w')) (g_X G (sh_T S w (sp_freeze S a) [g_IAE, g_ISE])) 16 200 (xw_A (g_b G)) := by
  refine g_xmet (by decide) (Nat.le_of_ble_eq_true rfl) rfl ?_
  intro p e s m below meth c ls hx hb hr hts hown hlocks hne hml hl hK hB hw hS
  have hT : ∀ w ∈ nw_T, w.before _ s = true := fun w h => hts w (List.mem_cons_of_mem _ h)
  have hown : s.vm.findClass "RadixShelf" = some m.cls := hown
  have hl : lv_has ls 3 [(0, .ref h), (1, .int a)] := hl
  obtain ⟨op, sz, vs⟩ := S
  obtain ⟨L, bd, g, hLK, hI⟩ := hSt
  have hI : sh_I G w h e0 sl op sz vs L bd g := hI
  obtain ⟨hh, hsl, hW, hfr, hop, hsq, he0, hbd⟩ := id hI
  refine lv_iload_n hx hb nd_S_freeze_0 rfl (lv_at hl 1 rfl) ?_
  refine g_xcallv (vx_runS (As := [.int a]) (rest := []) ⟨hx, hb, hml, hown, hts⟩ (c_S_checkSlot l hl9 G w a) (cwS 1 hts (nw_of (nw_3 nh_ml_S_30 nh_st_S_checkSlot nh_in_S nh_co_S_checkSlot)) rfl rfl rfl (by decide +kernel) ⟨Nat.le_of_ble_eq_true rfl, Nat.le_of_ble_eq_true rfl⟩) (g_preS hK hw hS _) rfl rfl hl.1 rfl (lv_room (Nat.le_of_ble_eq_true rfl)) nd_S_freeze_1 ⟨by exact Nat.le_of_ble_eq_true rfl, by exact Nat.le_of_ble_eq_true rfl⟩) hS (fun E ce q9 w1 H locs hthr hw hS h1 h2 h3 => g_out hne hlocks hw hS h1 h2 h3 (⟨hthr.2.1, 0, by rw [hthr.1]; rfl, sp_freeze_1 hthr.2.2⟩) (by exact Nat.le_of_ble_eq_true rfl) (by exact Nat.le_of_ble_eq_true rfl)) (fun w1 H locs hp hw hS => ?_)
  obtain ⟨hw9, hr9⟩ := hp
  rw [hw9] at hw
  obtain ⟨i, hi, rfl⟩ := sp_sl_of hr9
  rcases bd with _ | ⟨qb, d⟩
  · obtain rfl : false = op := hop
    have hh : w h = some (.inr (4, [.ref e0, .ref sl, .null, .int (nI L)])) := hh
    refine lv_aload_n hx hb nd_S_freeze_4 rfl (lv_at hl 0 rfl) ?_
    refine g_xcallr (vx_runV (As := []) (rest := []) ⟨hx, hb, hml, hown, hts⟩ (c_S_presentBuilderN l hl9 G w h e0 sl (nI L) hh) (cwV (C := nR_S) 0 hts (nw_of (nw_4 nh_ml_S_89 nh_im_S_presentBuilder nh_se_S_presentBuilder nh_in_S nh_co_S_presentBuilder)) rfl rfl rfl (by decide +kernel) ⟨Nat.le_of_ble_eq_true rfl, Nat.le_of_ble_eq_true rfl⟩) (g_preV (ci := 4) (q := (nR_S, nT_S, 4)) hK hw hS rfl hh _) rfl rfl hl.1 rfl (lv_room (Nat.le_of_ble_eq_true rfl)) nd_S_freeze_5 ⟨by exact Nat.le_of_ble_eq_true rfl, by exact Nat.le_of_ble_eq_true rfl⟩) hS (fun E ce q9 w2 H locs hthr hw hS h1 h2 h3 => g_out hne hlocks hw hS h1 h2 h3 (⟨hthr.2, 1, by rw [hthr.1]; rfl, sp_freeze_2 hi⟩) (by exact Nat.le_of_ble_eq_true rfl) (by exact Nat.le_of_ble_eq_true rfl)) (fun z9 w2 H locs hp hw hS => ?_)
    exact hp.elim
  · obtain rfl : true = op := hop
    have hh : w h = some (.inr (4, [.ref e0, .ref sl, .ref qb, .int (nI L)])) := hh
    obtain ⟨rb, tb, ob, Db, vb⟩ := hbd qb d rfl
    have hqb := Db.2.2.1
    have hn3 : sz 16 ≤ 3000 := Db.2.2.2.2.1
    refine lv_aload_n hx hb nd_S_freeze_4 rfl (lv_at hl 0 rfl) ?_
    refine g_callr (va_runV (As := []) (rest := []) ⟨hx, hb, hml, hown, hts⟩ (c_S_presentBuilder l G w h e0 sl qb (nI L) hh) (cwV (C := nR_S) 0 hts (nw_of (nw_4 nh_ml_S_89 nh_im_S_presentBuilder nh_se_S_presentBuilder nh_in_S nh_co_S_presentBuilder)) rfl rfl rfl (by decide +kernel) ⟨Nat.le_of_ble_eq_true rfl, Nat.le_of_ble_eq_true rfl⟩) (g_preV (ci := 4) (q := (nR_S, nT_S, 4)) hK hw hS rfl hh _) rfl rfl hl.1 rfl (lv_room (Nat.le_of_ble_eq_true rfl)) nd_S_freeze_5 ⟨by exact Nat.le_of_ble_eq_true rfl, by exact Nat.le_of_ble_eq_true rfl⟩) hS (fun z9 w2 H locs hp hw hS => ?_)
    obtain ⟨ez, hw9⟩ := hp
    rw [hw9] at hw
    rw [ez]
    refine lv_astore_n hx hb nd_S_freeze_8 rfl hl (by decide) (lv' := [(2, .ref qb), (0, .ref h), (1, .int (nI i))]) rfl (fun ls hl => ?_)
    refine lv_aload_n hx hb nd_S_freeze_9 rfl (lv_at hl 1 rfl) ?_
    refine xw_get (T := nT_S) (N := 4) (ci := 4) hx hb hT nu_S hown hK.1 hw hh rfl 1 (by decide) (hT _ nh_fl_S_19) (fun _ h9 => h9) rfl nd_S_freeze_10 ?_
    refine lv_iload_n hx hb nd_S_freeze_13 rfl (lv_at hl 2 rfl) ?_
    refine lv_aload_n hx hb nd_S_freeze_14 rfl (lv_at hl 0 rfl) ?_
    refine xw_aast (r := (nR_Q, nT_Q, 5)) hx hb hK.1 hB hw hS 3 3 hsl rfl hqb rfl (vp_in_nI (by omega) (by decide)) nd_S_freeze_15 (fun H locs hw hS => ?_)
    rw [nI_clamp (by omega)] at hw
    obtain ⟨w3, ew4⟩ : ∃ z, z = va_up w sl (some (.inl (G.2.1 3, 16, .inr (.inr (.inr (.inr (va_up g i (some qb)))))))) := ⟨_, rfl⟩
    have hw : g_P G w3 H := by rw [ew4]; exact hw
    have hh : w3 h = some (.inr (4, [.ref e0, .ref sl, .ref qb, .int (nI L)])) := by rw [ew4, va_up_ne _ _ (xw_ne hh hsl (by simp))]; exact hh
    have hqb : w3 qb = some (.inr (3, [.int (nI d), .ref rb, .ref tb, .int (nI ob), .int (nI (sz 16))])) := by rw [ew4, va_up_ne _ _ (xw_ne hqb hsl (by simp))]; exact hqb
    have hsl : w3 sl = some (.inl (G.2.1 3, 16, .inr (.inr (.inr (.inr (va_up g i (some qb))))))) := by rw [ew4]; exact va_up_self _ _ _
    refine lv_aload_n hx hb nd_S_freeze_16 rfl (lv_at hl 1 rfl) ?_
    refine lv_null hx hb nd_S_freeze_17 ?_
    refine xw_put (T := nT_S) (N := 4) (ci := 4) (v := .null) (ty := (.object "RadixShelf$Sequence")) hx hb hT nu_S nt_S nk_S nn_S hown hK.1 hB hw hS hh rfl 2 (by decide) (hT _ nh_fl_S_23) (fun _ h9 => h9) rfl (by decide +kernel) rfl rfl (Nat.le_of_ble_eq_true rfl) nd_S_freeze_18 (fun H locs hw hS => ?_)
    obtain ⟨w5, ew6⟩ : ∃ z, z = va_up w3 h (some (.inr (4, [.ref e0, .ref sl, .null, .int (nI L)]))) := ⟨_, rfl⟩
    have hw : g_P G w5 H := by rw [ew6]; exact hw
    have hsl : w5 sl = some (.inl (G.2.1 3, 16, .inr (.inr (.inr (.inr (va_up g i (some qb))))))) := by rw [ew6, va_up_ne _ _ (xw_ne hsl hh (by simp))]; exact hsl
    have hqb : w5 qb = some (.inr (3, [.int (nI d), .ref rb, .ref tb, .int (nI ob), .int (nI (sz 16))])) := by rw [ew6, va_up_ne _ _ (xw_ne hqb hh (by simp))]; exact hqb
    have hh : w5 h = some (.inr (4, [.ref e0, .ref sl, .null, .int (nI L)])) := by rw [ew6]; exact va_up_self _ _ _
    refine lv_aload_n hx hb nd_S_freeze_21 rfl (lv_at hl 0 rfl) ?_
    refine xw_get (T := nT_Q) (N := 5) (ci := 3) hx hb hT nu_Q hown hK.1 hw hqb rfl 4 (by decide) (hT _ nh_fl_S_46) (fun _ h9 => h9) rfl nd_S_freeze_22 ?_
    obtain ⟨hC, hF⟩ := sh_freezes hI hi ew4 ew6
    exact vx_ret (g_iret hx hb hr hlocks hw hS (by rw [sp_freeze_0 hi]; exact ⟨rfl, rfl, ⟨L, _, _, by omega, hC⟩, hF⟩) (by exact Nat.le_of_ble_eq_true rfl) (by exact Nat.le_of_ble_eq_true rfl) nd_S_freeze_25)

set_option maxHeartbeats 4000000 in
set_option maxRecDepth 100000 in
theorem c_S_build (l : Launch) (hl9 : l.stackTraces = false) (G : g_G) (w : xw_W) (h e0 sl K : Nat) (S : sp_S) (hSt : sh_S G w h e0 sl S K) (hK9 : K + 1 < 2 ^ 31) (k a : Int32) (v : Int64) : vx_Met l ny_S_build nw_S_build ({ frames := 8, cells := 16, slots := 200, locals := 160 }) (g_Pc G w [.ref h, .int k, .int a, .long v]) (g_Qi G (fun v9 w' => sh_Post G w h e0 sl K (sp_build S k a v) v9.toInt64 w')) (g_X G (sh_T S w (sp_build S k a v) [g_IAE, g_ISE, g_NSE, g_IOB])) 16 200 (xw_A (g_b G)) := by
  refine g_xmet (by decide) (Nat.le_of_ble_eq_true rfl) rfl ?_
  intro p e s m below meth c ls hx hb hr hts hown hlocks hne hml hl hK hB hw hS
  have hT : ∀ w ∈ nw_T, w.before _ s = true := fun w h => hts w (List.mem_cons_of_mem _ h)
  have hown : s.vm.findClass "RadixShelf" = some m.cls := hown
  have hl : lv_has ls 6 [(0, .ref h), (1, .int k), (2, .int a), (3, .long v)] := hl
  obtain ⟨op, sz, vs⟩ := S
  obtain ⟨L, bd, g, hLK, hI⟩ := hSt
  have hI : sh_I G w h e0 sl op sz vs L bd g := hI
  obtain ⟨hh, hsl, hW, hfr, hop, hsq, he0, hbd⟩ := id hI
  refine lv_iload_n hx hb nd_S_build_0 rfl (lv_at hl 1 rfl) ?_
  refine lv_iconst (v := 0) hx hb nd_S_build_1 (by decide) ?_
  refine lv_iconst (v := 2) hx hb nd_S_build_2 (by decide) ?_
  refine g_xcallv (vx_runS (As := [.int k, .int 0, .int 2]) (rest := []) ⟨hx, hb, hml, hown, hts⟩ (c_S_checkRange l hl9 G w k 0 2) (cwS 3 hts (nw_of (nw_3 nh_ml_S_78 nh_st_S_checkRange nh_in_S nh_co_S_checkRange)) rfl rfl rfl (by decide +kernel) ⟨Nat.le_of_ble_eq_true rfl, Nat.le_of_ble_eq_true rfl⟩) (g_preS hK hw hS _) rfl rfl hl.1 rfl (lv_room (Nat.le_of_ble_eq_true rfl)) nd_S_build_3 ⟨by exact Nat.le_of_ble_eq_true rfl, by exact Nat.le_of_ble_eq_true rfl⟩) hS (fun E ce q9 w1 H locs hthr hw hS h1 h2 h3 => g_out hne hlocks hw hS h1 h2 h3 (⟨hthr.2.1, 0, by rw [hthr.1]; rfl, sp_build_1 hthr.2.2⟩) (by exact Nat.le_of_ble_eq_true rfl) (by exact Nat.le_of_ble_eq_true rfl)) (fun w1 H locs hp hw hS => ?_)
  obtain ⟨hw9, hr9⟩ := hp
  rw [hw9] at hw
  rcases bd with _ | ⟨qb, d⟩
  · obtain rfl : false = op := hop
    have hh : w h = some (.inr (4, [.ref e0, .ref sl, .null, .int (nI L)])) := hh
    refine lv_aload_n hx hb nd_S_build_6 rfl (lv_at hl 0 rfl) ?_
    refine g_xcallr (vx_runV (As := []) (rest := []) ⟨hx, hb, hml, hown, hts⟩ (c_S_presentBuilderN l hl9 G w h e0 sl (nI L) hh) (cwV (C := nR_S) 0 hts (nw_of (nw_4 nh_ml_S_89 nh_im_S_presentBuilder nh_se_S_presentBuilder nh_in_S nh_co_S_presentBuilder)) rfl rfl rfl (by decide +kernel) ⟨Nat.le_of_ble_eq_true rfl, Nat.le_of_ble_eq_true rfl⟩) (g_preV (ci := 4) (q := (nR_S, nT_S, 4)) hK hw hS rfl hh _) rfl rfl hl.1 rfl (lv_room (Nat.le_of_ble_eq_true rfl)) nd_S_build_7 ⟨by exact Nat.le_of_ble_eq_true rfl, by exact Nat.le_of_ble_eq_true rfl⟩) hS (fun E ce q9 w2 H locs hthr hw hS h1 h2 h3 => g_out hne hlocks hw hS h1 h2 h3 (⟨hthr.2, 1, by rw [hthr.1]; rfl, sp_build_2 hr9⟩) (by exact Nat.le_of_ble_eq_true rfl) (by exact Nat.le_of_ble_eq_true rfl)) (fun z9 w2 H locs hp hw hS => ?_)
    exact hp.elim
  · obtain rfl : true = op := hop
    have hh : w h = some (.inr (4, [.ref e0, .ref sl, .ref qb, .int (nI L)])) := hh
    obtain ⟨rb, tb, ob, Db, vb⟩ := hbd qb d rfl
    have hqb := Db.2.2.1
    have hn3 : sz 16 ≤ 3000 := Db.2.2.2.2.1
    refine lv_aload_n hx hb nd_S_build_6 rfl (lv_at hl 0 rfl) ?_
    refine g_callr (va_runV (As := []) (rest := []) ⟨hx, hb, hml, hown, hts⟩ (c_S_presentBuilder l G w h e0 sl qb (nI L) hh) (cwV (C := nR_S) 0 hts (nw_of (nw_4 nh_ml_S_89 nh_im_S_presentBuilder nh_se_S_presentBuilder nh_in_S nh_co_S_presentBuilder)) rfl rfl rfl (by decide +kernel) ⟨Nat.le_of_ble_eq_true rfl, Nat.le_of_ble_eq_true rfl⟩) (g_preV (ci := 4) (q := (nR_S, nT_S, 4)) hK hw hS rfl hh _) rfl rfl hl.1 rfl (lv_room (Nat.le_of_ble_eq_true rfl)) nd_S_build_7 ⟨by exact Nat.le_of_ble_eq_true rfl, by exact Nat.le_of_ble_eq_true rfl⟩) hS (fun z9 w2 H locs hp hw hS => ?_)
    obtain ⟨ez, hw9⟩ := hp
    rw [hw9] at hw
    rw [ez]
    refine lv_astore hx hb nd_S_build_10 hl (by decide) (lv' := [(5, .ref qb), (0, .ref h), (1, .int k), (2, .int a), (3, .long v)]) rfl (fun ls hl => ?_)
    refine lv_iload_n hx hb nd_S_build_12 rfl (lv_at hl 2 rfl) ?_
    refine lv_if_ne (tgt := 30) hx hb nd_S_build_13 (by decide) (fun hc => ?_) (fun hc => ?_)
    · refine lv_iload_n hx hb nd_S_build_30 rfl (lv_at hl 2 rfl) ?_
      refine lv_iconst (v := 1) hx hb nd_S_build_31 (by decide) ?_
      refine lv_icmp_ne (tgt := 51) hx hb nd_S_build_32 (by decide) (fun hc2 => ?_) (fun hc2 => ?_)
      · obtain rfl := sp_k2 hr9 hc hc2
        refine lv_aload hx hb nd_S_build_51 (lv_at hl 0 rfl) ?_
        refine lv_iconst (v := 0) hx hb nd_S_build_53 (by decide) ?_
        refine g_xcallv (vx_runS (As := [.ref qb, .int 0]) (rest := []) ⟨hx, hb, hml, hown, hts⟩ (c_S_checkElement l hl9 G w qb rb tb (sz 16) (nI d) (nI ob) 0 hqb) (cwS 2 hts (nw_of (nw_3 nh_ml_S_52 nh_st_S_checkElement nh_in_S nh_co_S_checkElement)) rfl rfl rfl (by decide +kernel) ⟨Nat.le_of_ble_eq_true rfl, Nat.le_of_ble_eq_true rfl⟩) (g_preS hK hw hS _) rfl rfl hl.1 rfl (lv_room (Nat.le_of_ble_eq_true rfl)) nd_S_build_54 ⟨by exact Nat.le_of_ble_eq_true rfl, by exact Nat.le_of_ble_eq_true rfl⟩) hS (fun E ce q9 w3 H locs hthr hw hS h1 h2 h3 => g_out hne hlocks hw hS h1 h2 h3 (⟨hthr.2.1, 2, by rw [hthr.1]; rfl, sp_build_32 (fun z => hthr.2.2 ⟨by decide, by have h := nI_lt (a := 0) z (show sz 16 < 2 ^ 31 by omega); rwa [nI_0] at h⟩)⟩) (by exact Nat.le_of_ble_eq_true rfl) (by exact Nat.le_of_ble_eq_true rfl)) (fun w3 H locs hp hw hS => ?_)
        obtain ⟨hw9, hs9⟩ := hp
        rw [hw9] at hw
        have hs : 0 < sz 16 := by
          obtain ⟨x, hx1, -⟩ := sp_elo hn3 hs9
          omega
        refine lv_aload hx hb nd_S_build_57 (lv_at hl 0 rfl) ?_
        refine lv_iconst (v := 0) hx hb nd_S_build_59 (by decide) ?_
        refine lv_topi (fun y4 ey5 => ?_)
        obtain rfl : y4 = nI 0 := ey5.trans (rfl)
        refine lv_iconst (v := 1) hx hb nd_S_build_60 (by decide) ?_
        refine lv_topi (fun y6 ey7 => ?_)
        obtain rfl : y6 = nI 1 := ey7.trans (rfl)
        refine g_callv (va_runV (As := [.int (nI 0), .int (nI 1)]) (rest := []) ⟨hx, hb, hml, hown, hts⟩ (c_Q_trim l G w L d qb rb tb ob (sz 16) 0 1 Db (by omega)) (cwV (C := nR_Q) 2 hts (nw_of (nw_4 nh_ml_S_74 nh_im_Q_trim nh_se_Q_trim nh_in_Q nh_co_Q_trim)) rfl rfl rfl (by decide +kernel) ⟨Nat.le_of_ble_eq_true rfl, Nat.le_of_ble_eq_true rfl⟩) (g_preV (ci := 3) (q := (nR_Q, nT_Q, 5)) hK hw hS rfl hqb _) rfl rfl hl.1 rfl (lv_room (Nat.le_of_ble_eq_true rfl)) nd_S_build_61 ⟨by exact Nat.le_of_ble_eq_true rfl, by exact Nat.le_of_ble_eq_true rfl⟩) hS (fun w8 H locs hp hw hS => ?_)
        obtain ⟨t1, D2, K2, V2⟩ := hp
        have hqB := D2.2.2.1
        refine lv_aload hx hb nd_S_build_64 (lv_at hl 0 rfl) ?_
        refine xw_get (T := nT_Q) (N := 5) (ci := 3) hx hb hT nu_Q hown hK.1 hw hqB rfl 4 (by decide) (hT _ nh_fl_S_46) (fun _ h9 => h9) rfl nd_S_build_66 ?_
        obtain ⟨hC, hF⟩ := sh_edit (f' := vs 16) hI K2 D2 (fun z hz => (V2 z hz).trans (by rw [Nat.zero_add]; exact vb z (by omega)))
        exact vx_ret (g_iret hx hb hr hlocks hw hS (by rw [sp_build_02 hs]; exact ⟨rfl, rfl, ⟨L, _, _, by omega, hC⟩, hF⟩) (by exact Nat.le_of_ble_eq_true rfl) (by exact Nat.le_of_ble_eq_true rfl) nd_S_build_69)
      · obtain rfl := hc2
        refine lv_aload hx hb nd_S_build_35 (lv_at hl 0 rfl) ?_
        refine lv_iload_n hx hb nd_S_build_37 rfl (lv_at hl 3 rfl) ?_
        refine g_xcallv (vx_runS (As := [.ref qb, .int a]) (rest := []) ⟨hx, hb, hml, hown, hts⟩ (c_S_checkElement l hl9 G w qb rb tb (sz 16) (nI d) (nI ob) a hqb) (cwS 2 hts (nw_of (nw_3 nh_ml_S_52 nh_st_S_checkElement nh_in_S nh_co_S_checkElement)) rfl rfl rfl (by decide +kernel) ⟨Nat.le_of_ble_eq_true rfl, Nat.le_of_ble_eq_true rfl⟩) (g_preS hK hw hS _) rfl rfl hl.1 rfl (lv_room (Nat.le_of_ble_eq_true rfl)) nd_S_build_38 ⟨by exact Nat.le_of_ble_eq_true rfl, by exact Nat.le_of_ble_eq_true rfl⟩) hS (fun E ce q9 w3 H locs hthr hw hS h1 h2 h3 => g_out hne hlocks hw hS h1 h2 h3 (⟨hthr.2.1, 2, by rw [hthr.1]; rfl, sp_build_31 hthr.2.2⟩) (by exact Nat.le_of_ble_eq_true rfl) (by exact Nat.le_of_ble_eq_true rfl)) (fun w3 H locs hp hw hS => ?_)
        obtain ⟨hw9, hs9⟩ := hp
        rw [hw9] at hw
        obtain ⟨x, hx1, rfl⟩ := sp_elo hn3 hs9
        refine lv_aload hx hb nd_S_build_41 (lv_at hl 0 rfl) ?_
        refine lv_iload_n hx hb nd_S_build_43 rfl (lv_at hl 3 rfl) ?_
        refine lv_lload_n hx hb nd_S_build_44 rfl (lv_at hl 4 rfl) ?_
        refine g_callv (va_runV (As := [.int (nI x), .long v]) (rest := []) ⟨hx, hb, hml, hown, hts⟩ (c_Q_replace l G w L d qb rb tb ob (sz 16) x v Db hx1) (cwV (C := nR_Q) 2 hts (nw_of (nw_4 nh_ml_S_60 nh_im_Q_replace nh_se_Q_replace nh_in_Q nh_co_Q_replace)) rfl rfl rfl (by decide +kernel) ⟨Nat.le_of_ble_eq_true rfl, Nat.le_of_ble_eq_true rfl⟩) (g_preV (ci := 3) (q := (nR_Q, nT_Q, 5)) hK hw hS rfl hqb _) rfl rfl hl.1 rfl (lv_room (Nat.le_of_ble_eq_true rfl)) nd_S_build_45 ⟨by exact Nat.le_of_ble_eq_true rfl, by exact Nat.le_of_ble_eq_true rfl⟩) hS (fun w4 H locs hp hw hS => ?_)
        obtain ⟨r1, t1, D2, K2, V2⟩ := hp
        have hqB := D2.2.2.1
        refine lv_goto (tgt := 64) hx hb nd_S_build_48 (by decide) ?_
        refine lv_aload hx hb nd_S_build_64 (lv_at hl 0 rfl) ?_
        refine xw_get (T := nT_Q) (N := 5) (ci := 3) hx hb hT nu_Q hown hK.1 hw hqB rfl 4 (by decide) (hT _ nh_fl_S_46) (fun _ h9 => h9) rfl nd_S_build_66 ?_
        obtain ⟨hC, hF⟩ := sh_edit hI K2 D2 (sh_rep hn3 hx1 V2 vb)
        exact vx_ret (g_iret hx hb hr hlocks hw hS (by rw [sp_build_01 hn3 hx1]; exact ⟨rfl, rfl, ⟨L, _, _, by omega, hC⟩, hF⟩) (by exact Nat.le_of_ble_eq_true rfl) (by exact Nat.le_of_ble_eq_true rfl) nd_S_build_69)
    · obtain rfl := hc
      refine lv_aload hx hb nd_S_build_16 (lv_at hl 0 rfl) ?_
      refine g_xcallv (vx_runS (As := [.ref qb]) (rest := []) ⟨hx, hb, hml, hown, hts⟩ (c_S_checkRoom l hl9 G w qb rb tb (sz 16) (nI d) (nI ob) hqb) (cwS 1 hts (nw_of (nw_3 nh_ml_S_34 nh_st_S_checkRoom nh_in_S nh_co_S_checkRoom)) rfl rfl rfl (by decide +kernel) ⟨Nat.le_of_ble_eq_true rfl, Nat.le_of_ble_eq_true rfl⟩) (g_preS hK hw hS _) rfl rfl hl.1 rfl (lv_room (Nat.le_of_ble_eq_true rfl)) nd_S_build_18 ⟨by exact Nat.le_of_ble_eq_true rfl, by exact Nat.le_of_ble_eq_true rfl⟩) hS (fun E ce q9 w3 H locs hthr hw hS h1 h2 h3 => g_out hne hlocks hw hS h1 h2 h3 (⟨hthr.2.1, 3, by rw [hthr.1]; rfl, sp_build_4 (fun z => hthr.2.2 (nI_lt (b := 3000) z (by omega)))⟩) (by exact Nat.le_of_ble_eq_true rfl) (by exact Nat.le_of_ble_eq_true rfl)) (fun w3 H locs hp hw hS => ?_)
      obtain ⟨hw9, hs9⟩ := hp
      rw [hw9] at hw
      have hs : sz 16 < 3000 := (nI_ltI (b := 3000) (by omega) (by omega)).mp hs9
      refine lv_aload hx hb nd_S_build_21 (lv_at hl 0 rfl) ?_
      refine lv_lload_n hx hb nd_S_build_23 rfl (lv_at hl 4 rfl) ?_
      refine g_callv (va_runV (As := [.long v]) (rest := []) ⟨hx, hb, hml, hown, hts⟩ (c_Q_append l G w L d qb rb tb ob (sz 16) v Db hs) (cwV (C := nR_Q) 1 hts (nw_of (nw_4 nh_ml_S_42 nh_im_Q_append nh_se_Q_append nh_in_Q nh_co_Q_append)) rfl rfl rfl (by decide +kernel) ⟨Nat.le_of_ble_eq_true rfl, Nat.le_of_ble_eq_true rfl⟩) (g_preV (ci := 3) (q := (nR_Q, nT_Q, 5)) hK hw hS rfl hqb _) rfl rfl hl.1 rfl (lv_room (Nat.le_of_ble_eq_true rfl)) nd_S_build_24 ⟨by exact Nat.le_of_ble_eq_true rfl, by exact Nat.le_of_ble_eq_true rfl⟩) hS (fun w4 H locs hp hw hS => ?_)
      obtain ⟨r1, t1, D2, K2, V2, -⟩ := hp
      have hqB := D2.2.2.1
      refine lv_goto (tgt := 64) hx hb nd_S_build_27 (by decide) ?_
      refine lv_aload hx hb nd_S_build_64 (lv_at hl 0 rfl) ?_
      refine xw_get (T := nT_Q) (N := 5) (ci := 3) hx hb hT nu_Q hown hK.1 hw hqB rfl 4 (by decide) (hT _ nh_fl_S_46) (fun _ h9 => h9) rfl nd_S_build_66 ?_
      obtain ⟨hC, hF⟩ := sh_edit hI K2 D2 (sh_app (by omega) V2 vb)
      exact vx_ret (g_iret hx hb hr hlocks hw hS (by rw [sp_build_00 hs]; exact ⟨rfl, rfl, ⟨L, _, _, by omega, hC⟩, hF⟩) (by exact Nat.le_of_ble_eq_true rfl) (by exact Nat.le_of_ble_eq_true rfl) nd_S_build_69)
end
section
theorem sp_nx (x st : Int64) (i : Nat) : x + lN i * st + st = x + lN (i + 1) * st := by rw [← lN_1, Int64.add_mul, Int64.one_mul, Int64.add_assoc]
theorem tr_tb0 {i : Nat} (h : i ≤ 3000) (h1 : i % 32 ≠ 0) : tr_tb 0 (i + 1) = tr_tb 0 i := by unfold tr_tb; omega

set_option maxHeartbeats 4000000 in
set_option maxRecDepth 100000 in
theorem c_S_hash (l : Launch) (hl9 : l.stackTraces = false) (G : g_G) (w : xw_W) (h e0 sl K : Nat) (S : sp_S) (hSt : sh_S G w h e0 sl S K) (hK9 : K + 1 < 2 ^ 31) (a : Int32) : vx_Met l ny_S_hash nw_S_hash ({ frames := 8, cells := 16, slots := 200, locals := 160 }) (g_Pc G w [.ref h, .int a]) (g_Ql G (fun v9 w' => sh_Post G w h e0 sl K (sp_hash S a) v9 w')) (g_X G (sh_T S w (sp_hash S a) [g_IAE])) 16 200 (xw_A (g_b G)) := by
  refine g_xmet (by decide) (Nat.le_of_ble_eq_true rfl) rfl ?_
  intro p e s m below meth c ls hx hb hr hts hown hlocks hne hml hl hK hB hw hS
  have hT : ∀ w ∈ nw_T, w.before _ s = true := fun w h => hts w (List.mem_cons_of_mem _ h)
  have hown : s.vm.findClass "RadixShelf" = some m.cls := hown
  have hl : lv_has ls 6 [(0, .ref h), (1, .int a)] := hl
  obtain ⟨op, sz, vs⟩ := S
  obtain ⟨L, bd, g, hLK, hI⟩ := hSt
  have hI : sh_I G w h e0 sl op sz vs L bd g := hI
  obtain ⟨hh, hsl, hW, hfr, hop, hsq, he0, hbd⟩ := id hI
  refine lv_iload_n hx hb nd_S_hash_0 rfl (lv_at hl 1 rfl) ?_
  refine g_xcallv (vx_runS (As := [.int a]) (rest := []) ⟨hx, hb, hml, hown, hts⟩ (c_S_checkSlot l hl9 G w a) (cwS 1 hts (nw_of (nw_3 nh_ml_S_30 nh_st_S_checkSlot nh_in_S nh_co_S_checkSlot)) rfl rfl rfl (by decide +kernel) ⟨Nat.le_of_ble_eq_true rfl, Nat.le_of_ble_eq_true rfl⟩) (g_preS hK hw hS _) rfl rfl hl.1 rfl (lv_room (Nat.le_of_ble_eq_true rfl)) nd_S_hash_1 ⟨by exact Nat.le_of_ble_eq_true rfl, by exact Nat.le_of_ble_eq_true rfl⟩) hS (fun E ce q9 w1 H locs hthr hw hS h1 h2 h3 => g_out hne hlocks hw hS h1 h2 h3 (⟨hthr.2.1, 0, by rw [hthr.1]; rfl, sp_hash_1 hthr.2.2⟩) (by exact Nat.le_of_ble_eq_true rfl) (by exact Nat.le_of_ble_eq_true rfl)) (fun w1 H locs hp hw hS => ?_)
  obtain ⟨hw9, hr9⟩ := hp
  rw [hw9] at hw
  obtain ⟨j, hj, rfl⟩ := sp_sl_of hr9
  refine lv_aload_n hx hb nd_S_hash_4 rfl (lv_at hl 0 rfl) ?_
  refine xw_get (T := nT_S) (N := 4) (ci := 4) hx hb hT nu_S hown hK.1 hw hh rfl 1 (by decide) (hT _ nh_fl_S_19) (fun _ h9 => h9) rfl nd_S_hash_5 ?_
  refine lv_iload_n hx hb nd_S_hash_8 rfl (lv_at hl 1 rfl) ?_
  obtain ⟨q, hg, hnb, s0, r, t, o, hSo⟩ := hsq j hj
  have hq := hSo.1
  refine xw_aald (y := q) hx hb hK.1 hw 3 hsl rfl (vp_in_nI (by omega) (by decide)) (by rw [nI_clamp (by omega)]; exact hg) nd_S_hash_9 ?_
  have hn3 : sz j ≤ 3000 := hSo.2.2.1
  refine lv_astore_n hx hb nd_S_hash_10 rfl hl (by decide) (lv' := [(2, .ref q), (0, .ref h), (1, .int (nI j))]) rfl (fun ls hl => ?_)
  refine lv_lconst (v := 1) hx hb nd_S_hash_11 (by decide) ?_
  refine lv_lstore_n hx hb nd_S_hash_12 rfl hl (by decide) (lv' := [(3, .long 1), (2, .ref q), (0, .ref h), (1, .int (nI j))]) rfl (fun ls hl => ?_)
  refine lv_iconst (v := 0) hx hb nd_S_hash_13 (by decide) ?_
  refine lv_istore hx hb nd_S_hash_14 hl (by decide) (lv' := [(5, .int 0), (3, .long 1), (2, .ref q), (0, .ref h), (1, .int (nI j))]) rfl (fun ls hl => ?_)
  rw [show (0 : Int32) = nI 0 from nI_0.symm] at hl
  have loop : ∀ (m9 i : Nat) (ls : Array Slot) (H : Heap) (locs : List Loc), m9 + i = sz j → lv_has ls 6 [(5, .int (nI i)), (3, .long (sp_hs (vs j) i)), (2, .ref q), (0, .ref h), (1, .int (nI j))] → g_P G w H → g_S G s.heap H locs → W p l e ({ frames := 8, cells := 16, slots := 200, locals := 160 }) s m [.ref h, .int (nI j)].toArray below meth c H locs (1) (6) (vx_MQ below (g_Ql G (fun v9 w' => sh_Post G w h e0 sl K (sp_hash (op, sz, vs) (nI j)) v9 w')) (g_X G (sh_T (op, sz, vs) w (sp_hash (op, sz, vs) (nI j)) [g_IAE])) [.ref h, .int (nI j)].toArray s 16 200 (xw_A (g_b G))) (F0 m 16 ls []) := by
    intro m9
    induction m9 with
    | zero =>
      intro i ls H locs hmi hl hw hS
      refine lv_iload hx hb nd_S_hash_16 (lv_at hl 0 rfl) ?_
      refine lv_aload_n hx hb nd_S_hash_18 rfl (lv_at hl 2 rfl) ?_
      refine xw_get (T := nT_Q) (N := 5) (ci := 3) hx hb hT nu_Q hown hK.1 hw hq rfl 4 (by decide) (hT _ nh_fl_S_46) (fun _ h9 => h9) rfl nd_S_hash_19 ?_
      refine lv_icmp_ge (tgt := 44) hx hb nd_S_hash_22 (by decide) (fun hc => ?_) (fun hc => ?_)
      · obtain rfl : i = sz j := by omega
        refine lv_lload_n hx hb nd_S_hash_44 rfl (lv_at hl 1 rfl) ?_
        exact vx_ret (g_lret hx hb hr hlocks hw hS (by rw [sp_hash_0 hj]; exact ⟨rfl, rfl, ⟨L, bd, g, by omega, hI⟩, sh_F.rf⟩) (by exact Nat.le_of_ble_eq_true rfl) (by exact Nat.le_of_ble_eq_true rfl) nd_S_hash_45)
      · exact absurd (nI_le (by omega) (by omega)) hc
    | succ m9 ih =>
      intro i ls H locs hmi hl hw hS
      refine lv_iload hx hb nd_S_hash_16 (lv_at hl 0 rfl) ?_
      refine lv_aload_n hx hb nd_S_hash_18 rfl (lv_at hl 2 rfl) ?_
      refine xw_get (T := nT_Q) (N := 5) (ci := 3) hx hb hT nu_Q hown hK.1 hw hq rfl 4 (by decide) (hT _ nh_fl_S_46) (fun _ h9 => h9) rfl nd_S_hash_19 ?_
      refine lv_icmp_ge (tgt := 44) hx hb nd_S_hash_22 (by decide) (fun hc => ?_) (fun hc => ?_)
      · exact absurd hc (nI_ge (by omega) (by omega))
      · refine lv_ldc2 hx hb hown (hT _ nh_kl_S_82) nd_S_hash_25 ?_
        refine lv_lload_n hx hb nd_S_hash_28 rfl (lv_at hl 1 rfl) ?_
        refine lv_lmul hx hb nd_S_hash_29 ?_
        refine lv_aload_n hx hb nd_S_hash_30 rfl (lv_at hl 2 rfl) ?_
        refine lv_iload hx hb nd_S_hash_31 (lv_at hl 0 rfl) ?_
        refine g_calll (va_runV (As := [.int (nI i)]) (rest := [.long (31 * (sp_hs (vs j) i))]) ⟨hx, hb, hml, hown, hts⟩ (c_Q_element l G w q r t o (sz j) i s0 hSo.2.1 hn3 (by omega) hq hSo.2.2.2.1 hSo.2.2.2.2.1) (cwV (C := nR_Q) 1 hts (nw_of (nw_4 nh_ml_S_56 nh_im_Q_element nh_se_Q_element nh_in_Q nh_co_Q_element)) rfl rfl rfl (by decide +kernel) ⟨Nat.le_of_ble_eq_true rfl, Nat.le_of_ble_eq_true rfl⟩) (g_preV (ci := 3) (q := (nR_Q, nT_Q, 5)) hK hw hS rfl hq _) rfl rfl hl.1 rfl (lv_room (Nat.le_of_ble_eq_true rfl)) nd_S_hash_33 ⟨by exact Nat.le_of_ble_eq_true rfl, by exact Nat.le_of_ble_eq_true rfl⟩) hS (fun v9 w2 H locs hp hw hS => ?_)
        obtain ⟨rfl, hw9⟩ := hp
        rw [hw9] at hw
        refine lv_topl (fun y3 ey4 => ?_)
        obtain rfl : y3 = vs j i := ey4.trans (hSo.2.2.2.2.2.2 i (by omega))
        refine lv_ladd hx hb nd_S_hash_36 ?_
        refine lv_lstore_n hx hb nd_S_hash_37 rfl hl (by decide) (lv' := [(3, .long ((31 * (sp_hs (vs j) i)) + (vs j i))), (5, .int (nI i)), (2, .ref q), (0, .ref h), (1, .int (nI j))]) rfl (fun ls hl => ?_)
        refine lv_iinc (k := 1) hx hb nd_S_hash_38 hl rfl rfl (by decide) (lv' := [(5, .int ((nI i) + 1)), (3, .long ((31 * (sp_hs (vs j) i)) + (vs j i))), (2, .ref q), (0, .ref h), (1, .int (nI j))]) rfl (fun ls hl => ?_)
        rw [nI_1] at hl
        refine lv_goto (tgt := 16) hx hb nd_S_hash_41 (by decide) ?_
        exact ih (i + 1) ls H locs (by omega) hl hw hS
  exact loop (sz j) 0 ls H locs (by omega) hl hw hS

set_option maxHeartbeats 4000000 in
set_option maxRecDepth 100000 in
theorem c_S_fill (l : Launch) (hl9 : l.stackTraces = false) (G : g_G) (w : xw_W) (h e0 sl K : Nat) (S : sp_S) (hSt : sh_S G w h e0 sl S K) (hK9 : K + 1 < 2 ^ 31) (a : Int32) (x0 st : Int64) (n : Int32) : vx_Met l ny_S_fill nw_S_fill ({ frames := 8, cells := 400, slots := 6500, locals := 160 }) (g_Pc G w [.ref h, .int a, .long x0, .long st, .int n]) (g_Qi G (fun v9 w' => sh_Post G w h e0 sl K (sp_fill S a x0 st n) v9.toInt64 w')) (g_X G (sh_T S w (sp_fill S a x0 st n) [g_IAE])) 400 6500 (xw_A (g_b G)) := by
  refine g_xmet (by decide) (Nat.le_of_ble_eq_true rfl) rfl ?_
  intro p e s m below meth c ls hx hb hr hts hown hlocks hne hml hl hK hB hw hS
  have hT : ∀ w ∈ nw_T, w.before _ s = true := fun w h => hts w (List.mem_cons_of_mem _ h)
  have hown : s.vm.findClass "RadixShelf" = some m.cls := hown
  have hl : lv_has ls 11 [(0, .ref h), (1, .int a), (2, .long x0), (4, .long st), (6, .int n)] := hl
  obtain ⟨op, sz, vs⟩ := S
  obtain ⟨L, bd, g, hLK, hI⟩ := hSt
  have hI : sh_I G w h e0 sl op sz vs L bd g := hI
  obtain ⟨hh, hsl, hW, hfr, hop, hsq, he0, hbd⟩ := id hI
  refine lv_iload_n hx hb nd_S_fill_0 rfl (lv_at hl 1 rfl) ?_
  refine g_xcallv (vx_runS (As := [.int a]) (rest := []) ⟨hx, hb, hml, hown, hts⟩ (c_S_checkSlot l hl9 G w a) (cwS 1 hts (nw_of (nw_3 nh_ml_S_30 nh_st_S_checkSlot nh_in_S nh_co_S_checkSlot)) rfl rfl rfl (by decide +kernel) ⟨Nat.le_of_ble_eq_true rfl, Nat.le_of_ble_eq_true rfl⟩) (g_preS hK hw hS _) rfl rfl hl.1 rfl (lv_room (Nat.le_of_ble_eq_true rfl)) nd_S_fill_1 ⟨by exact Nat.le_of_ble_eq_true rfl, by exact Nat.le_of_ble_eq_true rfl⟩) hS (fun E ce q9 w1 H locs hthr hw hS h1 h2 h3 => g_out hne hlocks hw hS h1 h2 h3 (⟨hthr.2.1, 0, by rw [hthr.1]; rfl, sp_fill_1 (Or.inl hthr.2.2)⟩) (by exact Nat.le_of_ble_eq_true rfl) (by exact Nat.le_of_ble_eq_true rfl)) (fun w1 H locs hp hw hS => ?_)
  obtain ⟨hw9, hr9⟩ := hp
  rw [hw9] at hw
  obtain ⟨i0, hi0, rfl⟩ := sp_sl_of hr9
  refine lv_iload hx hb nd_S_fill_4 (lv_at hl 4 rfl) ?_
  refine lv_iconst (v := 0) hx hb nd_S_fill_6 (by decide) ?_
  refine lv_sipush (v := 2000) hx hb nd_S_fill_7 (by decide) ?_
  refine g_xcallv (vx_runS (As := [.int n, .int 0, .int 2000]) (rest := []) ⟨hx, hb, hml, hown, hts⟩ (c_S_checkRange l hl9 G w n 0 2000) (cwS 3 hts (nw_of (nw_3 nh_ml_S_78 nh_st_S_checkRange nh_in_S nh_co_S_checkRange)) rfl rfl rfl (by decide +kernel) ⟨Nat.le_of_ble_eq_true rfl, Nat.le_of_ble_eq_true rfl⟩) (g_preS hK hw hS _) rfl rfl hl.1 rfl (lv_room (Nat.le_of_ble_eq_true rfl)) nd_S_fill_10 ⟨by exact Nat.le_of_ble_eq_true rfl, by exact Nat.le_of_ble_eq_true rfl⟩) hS (fun E ce q9 w2 H locs hthr hw hS h1 h2 h3 => g_out hne hlocks hw hS h1 h2 h3 (⟨hthr.2.1, 0, by rw [hthr.1]; rfl, sp_fill_1 (Or.inr hthr.2.2)⟩) (by exact Nat.le_of_ble_eq_true rfl) (by exact Nat.le_of_ble_eq_true rfl)) (fun w2 H locs hp hw hS => ?_)
  obtain ⟨hw9, hr9⟩ := hp
  rw [hw9] at hw
  obtain ⟨y, hy, rfl⟩ := nI_of2 (n := 2000) (by decide) (Int32.not_lt.mpr hr9.1) hr9.2
  obtain ⟨hne0, s0, r, t, hSo⟩ := he0
  have hq := hSo.1
  refine lv_aload_n hx hb nd_S_fill_13 rfl (lv_at hl 0 rfl) ?_
  refine lv_aload_n hx hb nd_S_fill_14 rfl (lv_at hl 0 rfl) ?_
  refine xw_get (T := nT_S) (N := 4) (ci := 4) hx hb hT nu_S hown hK.1 hw hh rfl 0 (by decide) (hT _ nh_fl_S_13) (fun _ h9 => h9) rfl nd_S_fill_15 ?_
  refine g_callr (va_runV (As := [.ref e0]) (rest := []) ⟨hx, hb, hml, hown, hts⟩ (c_S_draftOf l G w h e0 sl L e0 r t (bd.map (·.1)) s0 (nI 0) (nI 0) hh hq) (cwV (C := nR_S) 1 hts (nw_of (nw_4 nh_ml_S_38 nh_im_S_draftOf nh_se_S_draftOf nh_in_S nh_co_S_draftOf)) rfl rfl rfl (by decide +kernel) ⟨Nat.le_of_ble_eq_true rfl, Nat.le_of_ble_eq_true rfl⟩) (g_preV (ci := 4) (q := (nR_S, nT_S, 4)) hK hw hS rfl hh _) rfl rfl hl.1 rfl (lv_room (Nat.le_of_ble_eq_true rfl)) nd_S_fill_18 ⟨by exact Nat.le_of_ble_eq_true rfl, by exact Nat.le_of_ble_eq_true rfl⟩) hS (fun qn w3 H locs hp hw hS => ?_)
  obtain ⟨hn, e1⟩ := hp
  obtain ⟨D1, v1, o1⟩ := sh_draft hI (by omega) hSo hn e1
  have hhA : w3 h = some (.inr (4, [.ref e0, .ref sl, va_rf (bd.map (·.1)), .int (nI (L + 1))])) := by rw [e1, va_up_ne _ _ (xw_nn hh hn)]; exact va_up_self _ _ _
  have hslA : w3 sl = some (.inl (G.2.1 3, 16, .inr (.inr (.inr (.inr g))))) := by rw [e1, va_up_ne _ _ (xw_nn hsl hn), va_up_ne _ _ (tr_ne_kind hsl hh)]; exact hsl
  refine lv_astore hx hb nd_S_fill_21 hl (by decide) (lv' := [(7, .ref qn), (0, .ref h), (1, .int (nI i0)), (2, .long x0), (4, .long st), (6, .int (nI y))]) rfl (fun ls hl => ?_)
  refine lv_lload_n hx hb nd_S_fill_23 rfl (lv_at hl 3 rfl) ?_
  refine lv_lstore hx hb nd_S_fill_24 hl (by decide) (lv' := [(8, .long x0), (7, .ref qn), (0, .ref h), (1, .int (nI i0)), (2, .long x0), (4, .long st), (6, .int (nI y))]) rfl (fun ls hl => ?_)
  refine lv_iconst (v := 0) hx hb nd_S_fill_26 (by decide) ?_
  refine lv_istore hx hb nd_S_fill_27 hl (by decide) (lv' := [(10, .int 0), (8, .long x0), (7, .ref qn), (0, .ref h), (1, .int (nI i0)), (2, .long x0), (4, .long st), (6, .int (nI y))]) rfl (fun ls hl => ?_)
  have ex0 : x0 = x0 + lN 0 * st := by rw [show lN 0 = 0 from rfl, Int64.zero_mul, Int64.add_zero]
  have loop : ∀ (m9 i r t : Nat) (wl : xw_W) (ls : Array Slot) (H : Heap) (locs : List Loc), m9 + i = y → tr_Df (G.2.1 0) (G.2.1 1) (G.2.1 2) (L + 1) (L + 1) (sh_Z bd) wl qn r t 0 i → tr_Kp (L + 1) qn w3 wl → (∀ z, z < i → tr_vl wl r t (tr_tb 0 i) ((0 + z) % 32768) = x0 + lN z * st) → (0 < i → tr_stp wl t = nI (L + 1)) → lv_has ls 11 [(10, .int (nI i)), (8, .long (x0 + lN i * st)), (7, .ref qn), (0, .ref h), (1, .int (nI i0)), (2, .long x0), (4, .long st), (6, .int (nI y))] → g_P G wl H → g_S G s.heap H locs → W p l e ({ frames := 8, cells := 400, slots := 6500, locals := 160 }) s m [.ref h, .int (nI i0), .long x0, .long st, .int (nI y)].toArray below meth c H locs (3 + 6 * ((i + 31) / 32)) (17 + 102 * ((i + 31) / 32)) (vx_MQ below (g_Qi G (fun v9 w' => sh_Post G w h e0 sl K (sp_fill (op, sz, vs) (nI i0) x0 st (nI y)) v9.toInt64 w')) (g_X G (sh_T (op, sz, vs) w (sp_fill (op, sz, vs) (nI i0) x0 st (nI y)) [g_IAE])) [.ref h, .int (nI i0), .long x0, .long st, .int (nI y)].toArray s 400 6500 (xw_A (g_b G))) (F0 m 29 ls []) := by
    intro m9
    induction m9 with
    | zero =>
      intro i r t wl ls H locs hmi D2 K2 V2 s2 hl hw hS
      have hqB := D2.2.2.1
      refine lv_iload hx hb nd_S_fill_29 (lv_at hl 0 rfl) ?_
      refine lv_iload hx hb nd_S_fill_31 (lv_at hl 7 rfl) ?_
      refine lv_icmp_ge (tgt := 56) hx hb nd_S_fill_33 (by decide) (fun hc => ?_) (fun hc => ?_)
      · obtain rfl : i = y := by omega
        have hhB := K2.1 _ _ hhA (xw_nn hh hn) (o1 h)
        have hslB := K2.1 _ _ hslA (xw_nn hsl hn) (o1 sl)
        refine lv_aload_n hx hb nd_S_fill_56 rfl (lv_at hl 3 rfl) ?_
        refine xw_get (T := nT_S) (N := 4) (ci := 4) hx hb hT nu_S hown hK.1 hw hhB rfl 1 (by decide) (hT _ nh_fl_S_19) (fun _ h9 => h9) rfl nd_S_fill_57 ?_
        refine lv_iload_n hx hb nd_S_fill_60 rfl (lv_at hl 4 rfl) ?_
        refine lv_aload hx hb nd_S_fill_61 (lv_at hl 2 rfl) ?_
        refine xw_aast (r := (nR_Q, nT_Q, 5)) hx hb hK.1 hB hw hS 3 3 hslB rfl hqB rfl (vp_in_nI (by omega) (by decide)) nd_S_fill_63 (fun H locs hw hS => ?_)
        rw [nI_clamp (by omega)] at hw
        obtain ⟨w4, ew5⟩ : ∃ z, z = va_up wl sl (some (.inl (G.2.1 3, 16, .inr (.inr (.inr (.inr (va_up g i0 (some qn)))))))) := ⟨_, rfl⟩
        have hw : g_P G w4 H := by rw [ew5]; exact hw
        have hhB : w4 h = some (.inr (4, [.ref e0, .ref sl, va_rf (bd.map (·.1)), .int (nI (L + 1))])) := by rw [ew5, va_up_ne _ _ (xw_ne hhB hslB (by simp))]; exact hhB
        have hqB : w4 qn = some (.inr (3, [.int (nI (L + 1)), .ref r, .ref t, .int (nI 0), .int (nI i)])) := by rw [ew5, va_up_ne _ _ (xw_ne hqB hslB (by simp))]; exact hqB
        have hslB : w4 sl = some (.inl (G.2.1 3, 16, .inr (.inr (.inr (.inr (va_up g i0 (some qn))))))) := by rw [ew5]; exact va_up_self _ _ _
        obtain ⟨hC, hF⟩ := sh_call (f' := fun z => x0 + lN z * st) hI hn e1 o1 K2 D2 V2 ew5 hi0
        refine lv_iload hx hb nd_S_fill_64 (lv_at hl 7 rfl) ?_
        exact vx_ret (g_iret hx hb hr hlocks hw hS (by rw [sp_fill_0 hi0 hy]; exact ⟨rfl, rfl, ⟨L + 1, bd, _, by omega, hC⟩, hF⟩) (by first | omega | (show _ ≤ 400; omega) | (show _ ≤ 6500; omega)) (by first | omega | (show _ ≤ 400; omega) | (show _ ≤ 6500; omega)) nd_S_fill_66)
      · exact absurd (nI_le (by omega) (by omega)) hc
    | succ m9 ih =>
      intro i r t wl ls H locs hmi D2 K2 V2 s2 hl hw hS
      have hqB := D2.2.2.1
      refine lv_iload hx hb nd_S_fill_29 (lv_at hl 0 rfl) ?_
      refine lv_iload hx hb nd_S_fill_31 (lv_at hl 7 rfl) ?_
      refine lv_icmp_ge (tgt := 56) hx hb nd_S_fill_33 (by decide) (fun hc => ?_) (fun hc => ?_)
      · exact absurd hc (nI_ge (by omega) (by omega))
      · refine lv_aload hx hb nd_S_fill_36 (lv_at hl 2 rfl) ?_
        refine lv_lload hx hb nd_S_fill_38 (lv_at hl 1 rfl) ?_
        by_cases h32 : i % 32 = 0
        · refine g_callv (va_runV (As := [.long (x0 + lN i * st)]) (rest := []) ⟨hx, hb, hml, hown, hts⟩ (c_Q_append l G wl (L + 1) (L + 1) qn r t 0 i (x0 + lN i * st) D2 (by omega)) (cwV (C := nR_Q) 1 hts (nw_of (nw_4 nh_ml_S_42 nh_im_Q_append nh_se_Q_append nh_in_Q nh_co_Q_append)) rfl rfl rfl (by decide +kernel) ⟨Nat.le_of_ble_eq_true rfl, Nat.le_of_ble_eq_true rfl⟩) (g_preV (ci := 3) (q := (nR_Q, nT_Q, 5)) hK hw hS rfl hqB _) rfl rfl hl.1 rfl (lv_room (Nat.le_of_ble_eq_true rfl)) nd_S_fill_40 ⟨by first | omega | (show _ ≤ 400; omega) | (show _ ≤ 6500; omega), by first | omega | (show _ ≤ 400; omega) | (show _ ≤ 6500; omega)⟩) hS (fun w4 H locs hp hw hS => ?_)
          obtain ⟨r1, t1, D3, K3, V3, s3⟩ := hp
          have V4 : ∀ z, z < i + 1 → tr_vl w4 r1 t1 (tr_tb 0 (i + 1)) ((0 + z) % 32768) = x0 + lN z * st := fun z hz => by
            rw [sh_app (by omega) V3 V2 z hz]
            by_cases ez : z = i
            · rw [ez, va_up_self]
            · rw [va_up_ne _ _ ez]
          refine lv_lload hx hb nd_S_fill_43 (lv_at hl 1 rfl) ?_
          refine lv_lload hx hb nd_S_fill_45 (lv_at hl 6 rfl) ?_
          refine lv_ladd hx hb nd_S_fill_47 ?_
          refine lv_topl (fun y5 ey6 => ?_)
          obtain rfl : y5 = x0 + lN (i + 1) * st := ey6.trans (sp_nx x0 st i)
          refine lv_lstore hx hb nd_S_fill_48 hl (by decide) (lv' := [(8, .long (x0 + lN (i + 1) * st)), (10, .int (nI i)), (7, .ref qn), (0, .ref h), (1, .int (nI i0)), (2, .long x0), (4, .long st), (6, .int (nI y))]) rfl (fun ls hl => ?_)
          refine lv_iinc (k := 1) hx hb nd_S_fill_50 hl rfl rfl (by decide) (lv' := [(10, .int ((nI i) + 1)), (8, .long (x0 + lN (i + 1) * st)), (7, .ref qn), (0, .ref h), (1, .int (nI i0)), (2, .long x0), (4, .long st), (6, .int (nI y))]) rfl (fun ls hl => ?_)
          rw [nI_1] at hl
          refine lv_goto (tgt := 29) hx hb nd_S_fill_53 (by decide) ?_
          refine W.widen (k := 3 + 6 * ((i + 1 + 31) / 32)) (n := 17 + 102 * ((i + 1 + 31) / 32)) (by omega) (by omega) ?_
          exact ih (i + 1) r1 t1 w4 ls H locs (by omega) D3 (K2.tr K3) V4 (fun _ => s3) hl hw hS
        · refine g_callv (va_runV (As := [.long (x0 + lN i * st)]) (rest := []) ⟨hx, hb, hml, hown, hts⟩ (c_Q_append0 l G wl (L + 1) (L + 1) qn r t 0 i (x0 + lN i * st) D2 (by omega) (tr_tb0 (by omega) h32) (s2 (by omega))) (cwV (C := nR_Q) 1 hts (nw_of (nw_4 nh_ml_S_42 nh_im_Q_append nh_se_Q_append nh_in_Q nh_co_Q_append)) rfl rfl rfl (by decide +kernel) ⟨Nat.le_of_ble_eq_true rfl, Nat.le_of_ble_eq_true rfl⟩) (g_preV (ci := 3) (q := (nR_Q, nT_Q, 5)) hK hw hS rfl hqB _) rfl rfl hl.1 rfl (lv_room (Nat.le_of_ble_eq_true rfl)) nd_S_fill_40 ⟨by first | omega | (show _ ≤ 400; omega) | (show _ ≤ 6500; omega), by first | omega | (show _ ≤ 400; omega) | (show _ ≤ 6500; omega)⟩) hS (fun w4 H locs hp hw hS => ?_)
          obtain ⟨r1, t1, D3, K3, V3, s3⟩ := hp
          have V4 : ∀ z, z < i + 1 → tr_vl w4 r1 t1 (tr_tb 0 (i + 1)) ((0 + z) % 32768) = x0 + lN z * st := fun z hz => by
            rw [sh_app (by omega) V3 V2 z hz]
            by_cases ez : z = i
            · rw [ez, va_up_self]
            · rw [va_up_ne _ _ ez]
          refine lv_lload hx hb nd_S_fill_43 (lv_at hl 1 rfl) ?_
          refine lv_lload hx hb nd_S_fill_45 (lv_at hl 6 rfl) ?_
          refine lv_ladd hx hb nd_S_fill_47 ?_
          refine lv_topl (fun y5 ey6 => ?_)
          obtain rfl : y5 = x0 + lN (i + 1) * st := ey6.trans (sp_nx x0 st i)
          refine lv_lstore hx hb nd_S_fill_48 hl (by decide) (lv' := [(8, .long (x0 + lN (i + 1) * st)), (10, .int (nI i)), (7, .ref qn), (0, .ref h), (1, .int (nI i0)), (2, .long x0), (4, .long st), (6, .int (nI y))]) rfl (fun ls hl => ?_)
          refine lv_iinc (k := 1) hx hb nd_S_fill_50 hl rfl rfl (by decide) (lv' := [(10, .int ((nI i) + 1)), (8, .long (x0 + lN (i + 1) * st)), (7, .ref qn), (0, .ref h), (1, .int (nI i0)), (2, .long x0), (4, .long st), (6, .int (nI y))]) rfl (fun ls hl => ?_)
          rw [nI_1] at hl
          refine lv_goto (tgt := 29) hx hb nd_S_fill_53 (by decide) ?_
          refine W.widen (k := 3 + 6 * ((i + 1 + 31) / 32)) (n := 17 + 102 * ((i + 1 + 31) / 32)) (by omega) (by omega) ?_
          exact ih (i + 1) r1 t1 w4 ls H locs (by omega) D3 (K2.tr K3) V4 (fun _ => s3) hl hw hS
  refine loop y 0 r t w3 ls H locs (by omega) D1 tr_Kp.rf (fun z hz => absurd hz (by omega)) (fun z => absurd z (by omega)) ?_ hw hS
  rw [← ex0]
  exact hl
end
section
/-- the blank sequence: three nodes -/
theorem sh_blank {cJ cL cB : Nat} {w : tr_W} {q rt br lf x1 xa xb : Nat} {f : Nat → Int64} {fa fb : Nat → Option Nat} (hq : w q = some (tr_S 0 rt lf 0 0)) (hr : w rt = some (tr_N tr_kR 0 xb)) (hb : w br = some (tr_N tr_kB 0 xa)) (hl : w lf = some (tr_N tr_kL 0 x1)) (h1 : w x1 = some (tr_V cJ f)) (ha : w xa = some (tr_Q cL fa)) (hxb : w xb = some (tr_Q cB fb)) (hfa : ∀ j, j < 32 → fa j = some lf) (hfb : ∀ j, j < 32 → fb j = some br) (hab : xa ≠ xb)
    (hN : ∀ k n, tr_isN w k n → n = rt ∨ n = br ∨ n = lf) : tr_So cJ cL cB (fun _ => True) w q 0 rt lf 0 0 (fun _ => 0) ∧ tr_Wi w 0 := by
  have ar : tr_arr w rt = xb := tr_arr_of hr
  have ab : tr_arr w br = xa := tr_arr_of hb
  have al : tr_arr w lf = x1 := tr_arr_of hl
  have okl : tr_okL cJ w lf := ⟨⟨Or.inl rfl, _, _, hl⟩, f, by rw [al]; exact h1⟩
  have ca : ∀ j, j < 32 → tr_chd w xa j = lf := fun j hj => by rw [tr_chd_of ha, hfa j hj]; rfl
  have cb : ∀ j, j < 32 → tr_chd w xb j = br := fun j hj => by rw [tr_chd_of hxb, hfb j hj]; rfl
  have okb : tr_okB cJ cL w br := ⟨⟨Or.inr (Or.inl rfl), _, _, hb⟩, by rw [ab]; exact ⟨fa, ha, fun j hj => by rw [ca j hj]; exact hfa j hj⟩, fun j hj => by rw [ab, ca j hj]; exact okl⟩
  have okr : tr_okR cJ cL cB w rt := ⟨⟨Or.inr (Or.inr rfl), _, _, hr⟩, by rw [ar]; exact ⟨fb, hxb, fun j hj => by rw [cb j hj]; exact hfb j hj⟩, fun j hj => by rw [ar, cb j hj]; exact okb⟩
  have ne1 : x1 ≠ xa := xw_ne h1 ha (fun z => by injection z with z; injection z with z1 z2; injection z2 with z3 z4; injection z4 with z5; cases z5)
  have ne2 : x1 ≠ xb := xw_ne h1 hxb (fun z => by injection z with z; injection z with z1 z2; injection z2 with z3 z4; injection z4 with z5; cases z5)
  refine ⟨⟨by rw [nI_0]; exact hq, by decide, by decide, okr, okl, ⟨trivial, fun _ _ => trivial, fun _ _ => trivial, trivial⟩, fun i hi => absurd hi (by omega)⟩, fun k n hn => ?_, fun k n k' n' hn hn' e => ?_, fun k n hn => ⟨0, Nat.le_refl _, ?_⟩⟩
  · rcases hN k n hn with rfl | rfl | rfl
    · rw [ar]; exact ⟨_, hxb⟩
    · rw [ab]; exact ⟨_, ha⟩
    · rw [al]; exact ⟨_, h1⟩
  · rcases hN k n hn with rfl | rfl | rfl <;> rcases hN k' n' hn' with rfl | rfl | rfl
    · rfl
    · rw [ar, ab] at e; exact absurd e.symm hab
    · rw [ar, al] at e; exact absurd e.symm ne2
    · rw [ab, ar] at e; exact absurd e hab
    · rfl
    · rw [ab, al] at e; exact absurd e.symm ne1
    · rw [al, ar] at e; exact absurd e ne2
    · rw [al, ab] at e; exact absurd e ne1
    · rfl
  · rcases hN k n hn with rfl | rfl | rfl
    · exact tr_stp_of hr
    · exact tr_stp_of hb
    · exact tr_stp_of hl
theorem tr_isN_at {w : tr_W} {k n a : Nat} {e : va_E} (hn : tr_isN (va_up w a (some e)) k n) : n = a ∨ tr_isN w k n := by
  by_cases h : n = a
  · exact Or.inl h
  · exact Or.inr (tr_isN_eq (va_up_ne _ _ h).symm hn)
theorem tr_isN_no {w : tr_W} {k n a : Nat} {e : va_E} (hn : tr_isN (va_up w a (some e)) k n) (he : (∃ x, e = .inl x) ∨ ∃ c l, e = .inr (c, l) ∧ 3 ≤ c) : tr_isN w k n := by
  rcases tr_isN_at hn with h | h
  · obtain ⟨hk, s, x, hx⟩ := hn
    rw [h, va_up_self] at hx
    rcases he with ⟨y, rfl⟩ | ⟨c, l, rfl, hc⟩
    · cases hx
    · injection hx with hx
      injection hx with hx
      injection hx with h1 h2
      rcases hk with hk | hk | hk <;> (rw [← h1] at hk; subst hk; exact absurd hc (by decide))
  · exact h

theorem va_up_id {w : xw_W} {a : Nat} {e : va_E} (h : w a = some e) : va_up w a (some e) = w := by
  funext x
  by_cases hx : x = a
  · rw [hx, va_up_self, h]
  · rw [va_up_ne _ _ hx]

set_option maxHeartbeats 4000000 in
set_option maxRecDepth 100000 in
theorem c_S_blankSequence (l : Launch) (G : g_G) (w : xw_W) (hno : ∀ k n, ¬ tr_isN w k n) : Met l ny_S_blankSequence nw_S_blankSequence ({ frames := 2, cells := 7, slots := 107, locals := 37 }) (g_Pc G w []) (g_Qr G (fun q w' => ∃ rt lf, tr_So (G.2.1 0) (G.2.1 1) (G.2.1 2) (fun _ => True) w' q 0 rt lf 0 0 (fun _ => 0) ∧ tr_Wi w' 0 ∧ ∀ a e, w a = some e → w' a = some e)) 7 107 (xw_A (g_b G)) := by
  refine g_met (by decide) (Nat.le_of_ble_eq_true rfl) rfl ?_
  intro p e s m below meth c ls hx hb hr hts hown hlocks hin hml hl hK hB hw hS
  have hT : ∀ w ∈ nw_T, w.before _ s = true := fun w h => hts w (List.mem_cons_of_mem _ h)
  have hown : s.vm.findClass "RadixShelf" = some m.cls := hown
  have hl : lv_has ls 5 [] := hl
  have ol : ∀ a e, w a = some e → w a = some e := fun _ _ h => h
  refine xw_new (T := nT_F) (N := 2) (ci := 1) (fs := [.int 0, .null]) hx hb hT nu_F nt_F nk_F hown (hT _ nh_cl_S_122) (hT _ nh_is_F) (hT _ nh_in_F) hK.1 hB hw hS rfl (fun j hj => by rcases (show j = 0 ∨ j = 1 by omega) with rfl | rfl <;> rfl) (by exact Nat.le_of_ble_eq_true rfl) (by exact Nat.le_of_ble_eq_true rfl) nd_S_blankSequence_0 (fun lf H hn_lf hw hS => ?_)
  obtain ⟨w1, ew2⟩ : ∃ z, z = va_up w lf (some (.inr (1, [.int 0, .null]))) := ⟨_, rfl⟩
  have hw : g_P G w1 H := by rw [ew2]; exact hw
  have h_lf : w1 lf = some (.inr (1, [.int 0, .null])) := by rw [ew2]; exact va_up_self _ _ _
  have z_lf : w lf = none := by
    cases h9 : w lf with
    | none => rfl
    | some e9 => rw [ol _ _ h9] at hn_lf; cases hn_lf
  have ol : ∀ a e, w a = some e → w1 a = some e := fun a e9 h9 => by rw [ew2, va_up_ne _ _ (xw_nn h9 z_lf)]; exact ol a e9 h9
  refine lv_dup hx hb nd_S_blankSequence_3 rfl ?_
  refine lv_iconst (v := 0) hx hb nd_S_blankSequence_4 (by decide) ?_
  refine lv_bipush (v := 32) hx hb nd_S_blankSequence_5 (by decide) ?_
  refine xw_newa (atype := .long) (N' := 32) (a0 := (32, .inr (.inl (fun _ => 0)))) hx hb (hT _ nh_ac_long) (ty := .long) rfl hK.1 hB hw hS 0 rfl (fun _ => rfl) (by decide) (by decide) (by decide) (by exact Nat.le_of_ble_eq_true rfl) (by exact Nat.le_of_ble_eq_true rfl) nd_S_blankSequence_7 (fun x1 H hn_x1 hw hS => ?_)
  obtain ⟨w3, ew4⟩ : ∃ z, z = va_up w1 x1 (some (.inl (G.2.1 0, 32, .inr (.inl (fun _ => 0))))) := ⟨_, rfl⟩
  have hw : g_P G w3 H := by rw [ew4]; exact hw
  have h_lf : w3 lf = some (.inr (1, [.int 0, .null])) := by rw [ew4, va_up_ne _ _ (xw_nn h_lf hn_x1)]; exact h_lf
  have h_x1 : w3 x1 = some (.inl (G.2.1 0, 32, .inr (.inl (fun _ => 0)))) := by rw [ew4]; exact va_up_self _ _ _
  have z_x1 : w x1 = none := by
    cases h9 : w x1 with
    | none => rfl
    | some e9 => rw [ol _ _ h9] at hn_x1; cases hn_x1
  have ol : ∀ a e, w a = some e → w3 a = some e := fun a e9 h9 => by rw [ew4, va_up_ne _ _ (xw_nn h9 z_x1)]; exact ol a e9 h9
  refine g_callv (va_runI (As := [.int 0, .ref x1]) (rest := [.ref lf]) ⟨hx, hb, hml, hown, hts⟩ (c_F_init l G w3 lf 0 x1 h_lf) (cwI 2 hts (nw_of (nw_0 nh_co_F_init)) rfl rfl rfl (hT _ nh_in_F) (hT _ nh_ml_S_124) (hT _ nh_im_F_init) rfl (by decide +kernel) ⟨Nat.le_of_ble_eq_true rfl, Nat.le_of_ble_eq_true rfl⟩) (g_preS hK hw hS _) rfl rfl hl.1 rfl (lv_room (Nat.le_of_ble_eq_true rfl)) nd_S_blankSequence_9 ⟨by exact Nat.le_of_ble_eq_true rfl, by exact Nat.le_of_ble_eq_true rfl⟩) hS (fun w5 H locs hp hw hS => ?_)
  have e_lf : w5 = va_up w3 lf (some (.inr (1, [.int 0, .ref x1]))) := hp
  have h_x1 : w5 x1 = some (.inl (G.2.1 0, 32, .inr (.inl (fun _ => 0)))) := by rw [e_lf, va_up_ne _ _ (xw_ne h_x1 h_lf (by simp))]; exact h_x1
  have h_lf : w5 lf = some (.inr (1, [.int 0, .ref x1])) := by rw [e_lf]; exact va_up_self _ _ _
  have ol : ∀ a e, w a = some e → w5 a = some e := fun a e9 h9 => by rw [e_lf, va_up_ne _ _ (xw_nn h9 z_lf)]; exact ol a e9 h9
  refine lv_astore_n hx hb nd_S_blankSequence_12 rfl hl (by decide) (lv' := [(0, .ref lf)]) rfl (fun ls hl => ?_)
  refine lv_bipush (v := 32) hx hb nd_S_blankSequence_13 (by decide) ?_
  refine xw_newq (N' := 32) hx hb hown (hT _ nh_cl_S_122) hK.2.1.1 hK.1 hB hw hS 1 rfl (by decide) (by decide) (by decide) (by exact Nat.le_of_ble_eq_true rfl) (by exact Nat.le_of_ble_eq_true rfl) nd_S_blankSequence_15 (fun xa H hn_xa hw hS => ?_)
  obtain ⟨w6, ew7⟩ : ∃ z, z = va_up w5 xa (some (.inl (G.2.1 1, 32, .inr (.inr (.inr (.inr (fun _ => none))))))) := ⟨_, rfl⟩
  have hw : g_P G w6 H := by rw [ew7]; exact hw
  have h_lf : w6 lf = some (.inr (1, [.int 0, .ref x1])) := by rw [ew7, va_up_ne _ _ (xw_nn h_lf hn_xa)]; exact h_lf
  have h_x1 : w6 x1 = some (.inl (G.2.1 0, 32, .inr (.inl (fun _ => 0)))) := by rw [ew7, va_up_ne _ _ (xw_nn h_x1 hn_xa)]; exact h_x1
  have h_xa : w6 xa = some (.inl (G.2.1 1, 32, .inr (.inr (.inr (.inr (fun _ => none)))))) := by rw [ew7]; exact va_up_self _ _ _
  have z_xa : w xa = none := by
    cases h9 : w xa with
    | none => rfl
    | some e9 => rw [ol _ _ h9] at hn_xa; cases hn_xa
  have ol : ∀ a e, w a = some e → w6 a = some e := fun a e9 h9 => by rw [ew7, va_up_ne _ _ (xw_nn h9 z_xa)]; exact ol a e9 h9
  refine lv_astore_n hx hb nd_S_blankSequence_18 rfl hl (by decide) (lv' := [(1, .ref xa), (0, .ref lf)]) rfl (fun ls hl => ?_)
  refine lv_iconst (v := 0) hx hb nd_S_blankSequence_19 (by decide) ?_
  refine lv_istore_n hx hb nd_S_blankSequence_20 rfl hl (by decide) (lv' := [(2, .int 0), (1, .ref xa), (0, .ref lf)]) rfl (fun ls hl => ?_)
  have loopxa : (∀ (f : Nat → Option Nat) (ls : Array Slot) (H : Heap) (locs : List Loc), (∀ j, j < 32 → f j = some lf) → lv_has ls 5 [(2, .int (nI 32)), (1, .ref xa), (0, .ref lf)] → g_P G (va_up w6 xa (some (.inl (G.2.1 1, 32, .inr (.inr (.inr (.inr f))))))) H → g_S G s.heap H locs → W p l e ({ frames := 2, cells := 7, slots := 107, locals := 37 }) s m [].toArray below meth c H locs (3) (66) (MQ below (g_Qr G (fun q w' => ∃ rt lf, tr_So (G.2.1 0) (G.2.1 1) (G.2.1 2) (fun _ => True) w' q 0 rt lf 0 0 (fun _ => 0) ∧ tr_Wi w' 0 ∧ ∀ a e, w a = some e → w' a = some e)) [].toArray s 7 107 (xw_A (g_b G))) (F0 m 37 ls [])) → ∀ (m9 i : Nat) (f : Nat → Option Nat) (ls : Array Slot) (H : Heap) (locs : List Loc), m9 + i = 32 → (∀ j, j < i → f j = some lf) → lv_has ls 5 [(2, .int (nI i)), (1, .ref xa), (0, .ref lf)] → g_P G (va_up w6 xa (some (.inl (G.2.1 1, 32, .inr (.inr (.inr (.inr f))))))) H → g_S G s.heap H locs → W p l e ({ frames := 2, cells := 7, slots := 107, locals := 37 }) s m [].toArray below meth c H locs (3) (66) (MQ below (g_Qr G (fun q w' => ∃ rt lf, tr_So (G.2.1 0) (G.2.1 1) (G.2.1 2) (fun _ => True) w' q 0 rt lf 0 0 (fun _ => 0) ∧ tr_Wi w' 0 ∧ ∀ a e, w a = some e → w' a = some e)) [].toArray s 7 107 (xw_A (g_b G))) (F0 m 21 ls []) := by
    intro go m9
    induction m9 with
    | zero =>
      intro i f ls H locs hmi hf hl hw hS
      obtain ⟨wl, ewl⟩ : ∃ z, z = va_up w6 xa (some (.inl (G.2.1 1, 32, .inr (.inr (.inr (.inr f)))))) := ⟨_, rfl⟩
      rw [← ewl] at hw
      have h_lf : wl lf = some (.inr (1, [.int 0, .ref x1])) := by rw [ewl, va_up_ne _ _ (xw_ne h_lf h_xa (by simp))]; exact h_lf
      have h_xa : wl xa = some (.inl (G.2.1 1, 32, .inr (.inr (.inr (.inr f))))) := by rw [ewl]; exact va_up_self _ _ _
      refine lv_iload_n hx hb nd_S_blankSequence_21 rfl (lv_at hl 0 rfl) ?_
      refine lv_bipush (v := 32) hx hb nd_S_blankSequence_22 (by decide) ?_
      refine lv_icmp_ge (tgt := 37) hx hb nd_S_blankSequence_24 (by decide) (fun hc => ?_) (fun hc => ?_)
      · obtain rfl : i = 32 := by omega
        exact go f ls H locs hf hl (by rw [← ewl]; exact hw) hS
      · exact absurd (nI_le (a := 32) (b := i) (by omega) (by omega)) hc
    | succ m9 ih =>
      intro i f ls H locs hmi hf hl hw hS
      obtain ⟨wl, ewl⟩ : ∃ z, z = va_up w6 xa (some (.inl (G.2.1 1, 32, .inr (.inr (.inr (.inr f)))))) := ⟨_, rfl⟩
      rw [← ewl] at hw
      have h_lf : wl lf = some (.inr (1, [.int 0, .ref x1])) := by rw [ewl, va_up_ne _ _ (xw_ne h_lf h_xa (by simp))]; exact h_lf
      have h_xa : wl xa = some (.inl (G.2.1 1, 32, .inr (.inr (.inr (.inr f))))) := by rw [ewl]; exact va_up_self _ _ _
      refine lv_iload_n hx hb nd_S_blankSequence_21 rfl (lv_at hl 0 rfl) ?_
      refine lv_bipush (v := 32) hx hb nd_S_blankSequence_22 (by decide) ?_
      refine lv_icmp_ge (tgt := 37) hx hb nd_S_blankSequence_24 (by decide) (fun hc => ?_) (fun hc => ?_)
      · exact absurd hc (nI_ge (b := 32) (by omega) (by omega))
      · refine lv_aload_n hx hb nd_S_blankSequence_27 rfl (lv_at hl 1 rfl) ?_
        refine lv_iload_n hx hb nd_S_blankSequence_28 rfl (lv_at hl 0 rfl) ?_
        refine lv_aload_n hx hb nd_S_blankSequence_29 rfl (lv_at hl 2 rfl) ?_
        refine xw_aast (r := (nR_F, nT_F, 2)) hx hb hK.1 hB hw hS 1 1 h_xa rfl h_lf rfl (vp_in_nI (by omega) (by decide)) nd_S_blankSequence_30 (fun H locs hw hS => ?_)
        rw [nI_clamp (by omega)] at hw
        obtain ⟨w8, ew9⟩ : ∃ z, z = va_up wl xa (some (.inl (G.2.1 1, 32, .inr (.inr (.inr (.inr (va_up f i (some lf)))))))) := ⟨_, rfl⟩
        have hw : g_P G w8 H := by rw [ew9]; exact hw
        have h_lf : w8 lf = some (.inr (1, [.int 0, .ref x1])) := by rw [ew9, va_up_ne _ _ (xw_ne h_lf h_xa (by simp))]; exact h_lf
        have h_xa : w8 xa = some (.inl (G.2.1 1, 32, .inr (.inr (.inr (.inr (va_up f i (some lf))))))) := by rw [ew9]; exact va_up_self _ _ _
        refine lv_iinc (k := 0) hx hb nd_S_blankSequence_31 hl rfl rfl (by decide) (lv' := [(2, .int ((nI i) + 1)), (1, .ref xa), (0, .ref lf)]) rfl (fun ls hl => ?_)
        rw [nI_1] at hl
        refine lv_goto (tgt := 21) hx hb nd_S_blankSequence_34 (by decide) ?_
        refine ih (i + 1) (va_up f i (some lf)) ls H locs (by omega) (fun j hj => ?_) hl (by rw [ew9, ewl, bx_uu] at hw; exact hw) hS
        by_cases ej : j = i
        · rw [ej, va_up_self]
        · rw [va_up_ne _ _ ej]; exact hf j (by omega)
  refine loopxa (fun fxa ls H locs hfxa hl hw hS => ?_) 32 0 (fun _ => none) ls H locs (by omega) (fun j hj => absurd hj (by omega)) hl ?_ hS
  · obtain ⟨w8, e_xa⟩ : ∃ z, z = va_up w6 xa (some (.inl (G.2.1 1, 32, .inr (.inr (.inr (.inr fxa)))))) := ⟨_, rfl⟩
    rw [← e_xa] at hw
    have h_lf : w8 lf = some (.inr (1, [.int 0, .ref x1])) := by rw [e_xa, va_up_ne _ _ (xw_ne h_lf h_xa (by simp))]; exact h_lf
    have h_x1 : w8 x1 = some (.inl (G.2.1 0, 32, .inr (.inl (fun _ => 0)))) := by rw [e_xa, va_up_ne _ _ (xw_ne h_x1 h_xa (by simp))]; exact h_x1
    have h_xa : w8 xa = some (.inl (G.2.1 1, 32, .inr (.inr (.inr (.inr fxa))))) := by rw [e_xa]; exact va_up_self _ _ _
    have ol : ∀ a e, w a = some e → w8 a = some e := fun a e9 h9 => by rw [e_xa, va_up_ne _ _ (xw_nn h9 z_xa)]; exact ol a e9 h9
    refine xw_new (T := nT_B) (N := 2) (ci := 0) (fs := [.int 0, .null]) hx hb hT nu_B nt_B nk_B hown (hT _ nh_cl_S_127) (hT _ nh_is_B) (hT _ nh_in_B) hK.1 hB hw hS rfl (fun j hj => by rcases (show j = 0 ∨ j = 1 by omega) with rfl | rfl <;> rfl) (by exact Nat.le_of_ble_eq_true rfl) (by exact Nat.le_of_ble_eq_true rfl) nd_S_blankSequence_37 (fun br H hn_br hw hS => ?_)
    obtain ⟨w9, ew10⟩ : ∃ z, z = va_up w8 br (some (.inr (0, [.int 0, .null]))) := ⟨_, rfl⟩
    have hw : g_P G w9 H := by rw [ew10]; exact hw
    have h_lf : w9 lf = some (.inr (1, [.int 0, .ref x1])) := by rw [ew10, va_up_ne _ _ (xw_nn h_lf hn_br)]; exact h_lf
    have h_x1 : w9 x1 = some (.inl (G.2.1 0, 32, .inr (.inl (fun _ => 0)))) := by rw [ew10, va_up_ne _ _ (xw_nn h_x1 hn_br)]; exact h_x1
    have h_xa : w9 xa = some (.inl (G.2.1 1, 32, .inr (.inr (.inr (.inr fxa))))) := by rw [ew10, va_up_ne _ _ (xw_nn h_xa hn_br)]; exact h_xa
    have h_br : w9 br = some (.inr (0, [.int 0, .null])) := by rw [ew10]; exact va_up_self _ _ _
    have z_br : w br = none := by
      cases h9 : w br with
      | none => rfl
      | some e9 => rw [ol _ _ h9] at hn_br; cases hn_br
    have ol : ∀ a e, w a = some e → w9 a = some e := fun a e9 h9 => by rw [ew10, va_up_ne _ _ (xw_nn h9 z_br)]; exact ol a e9 h9
    refine lv_dup hx hb nd_S_blankSequence_40 rfl ?_
    refine lv_iconst (v := 0) hx hb nd_S_blankSequence_41 (by decide) ?_
    refine lv_aload_n hx hb nd_S_blankSequence_42 rfl (lv_at hl 1 rfl) ?_
    refine g_callv (va_runI (As := [.int 0, .ref xa]) (rest := [.ref br]) ⟨hx, hb, hml, hown, hts⟩ (c_B_init l G w9 br 0 xa h_br) (cwI 2 hts (nw_of (nw_0 nh_co_B_init)) rfl rfl rfl (hT _ nh_in_B) (hT _ nh_ml_S_129) (hT _ nh_im_B_init) rfl (by decide +kernel) ⟨Nat.le_of_ble_eq_true rfl, Nat.le_of_ble_eq_true rfl⟩) (g_preS hK hw hS _) rfl rfl hl.1 rfl (lv_room (Nat.le_of_ble_eq_true rfl)) nd_S_blankSequence_43 ⟨by exact Nat.le_of_ble_eq_true rfl, by exact Nat.le_of_ble_eq_true rfl⟩) hS (fun w11 H locs hp hw hS => ?_)
    have e_br : w11 = va_up w9 br (some (.inr (0, [.int 0, .ref xa]))) := hp
    have h_lf : w11 lf = some (.inr (1, [.int 0, .ref x1])) := by rw [e_br, va_up_ne _ _ (xw_ne h_lf h_br (by simp))]; exact h_lf
    have h_x1 : w11 x1 = some (.inl (G.2.1 0, 32, .inr (.inl (fun _ => 0)))) := by rw [e_br, va_up_ne _ _ (xw_ne h_x1 h_br (by simp))]; exact h_x1
    have h_xa : w11 xa = some (.inl (G.2.1 1, 32, .inr (.inr (.inr (.inr fxa))))) := by rw [e_br, va_up_ne _ _ (xw_ne h_xa h_br (by simp))]; exact h_xa
    have h_br : w11 br = some (.inr (0, [.int 0, .ref xa])) := by rw [e_br]; exact va_up_self _ _ _
    have ol : ∀ a e, w a = some e → w11 a = some e := fun a e9 h9 => by rw [e_br, va_up_ne _ _ (xw_nn h9 z_br)]; exact ol a e9 h9
    refine lv_astore_n hx hb nd_S_blankSequence_46 rfl hl (by decide) (lv' := [(2, .ref br), (1, .ref xa), (0, .ref lf)]) rfl (fun ls hl => ?_)
    refine lv_bipush (v := 32) hx hb nd_S_blankSequence_47 (by decide) ?_
    refine xw_newq (N' := 32) hx hb hown (hT _ nh_cl_S_127) hK.2.1.2.1 hK.1 hB hw hS 2 rfl (by decide) (by decide) (by decide) (by exact Nat.le_of_ble_eq_true rfl) (by exact Nat.le_of_ble_eq_true rfl) nd_S_blankSequence_49 (fun xb H hn_xb hw hS => ?_)
    have hab : xa ≠ xb := xw_nn h_xa hn_xb
    obtain ⟨w12, ew13⟩ : ∃ z, z = va_up w11 xb (some (.inl (G.2.1 2, 32, .inr (.inr (.inr (.inr (fun _ => none))))))) := ⟨_, rfl⟩
    have hw : g_P G w12 H := by rw [ew13]; exact hw
    have h_lf : w12 lf = some (.inr (1, [.int 0, .ref x1])) := by rw [ew13, va_up_ne _ _ (xw_nn h_lf hn_xb)]; exact h_lf
    have h_x1 : w12 x1 = some (.inl (G.2.1 0, 32, .inr (.inl (fun _ => 0)))) := by rw [ew13, va_up_ne _ _ (xw_nn h_x1 hn_xb)]; exact h_x1
    have h_xa : w12 xa = some (.inl (G.2.1 1, 32, .inr (.inr (.inr (.inr fxa))))) := by rw [ew13, va_up_ne _ _ (xw_nn h_xa hn_xb)]; exact h_xa
    have h_br : w12 br = some (.inr (0, [.int 0, .ref xa])) := by rw [ew13, va_up_ne _ _ (xw_nn h_br hn_xb)]; exact h_br
    have h_xb : w12 xb = some (.inl (G.2.1 2, 32, .inr (.inr (.inr (.inr (fun _ => none)))))) := by rw [ew13]; exact va_up_self _ _ _
    have z_xb : w xb = none := by
      cases h9 : w xb with
      | none => rfl
      | some e9 => rw [ol _ _ h9] at hn_xb; cases hn_xb
    have ol : ∀ a e, w a = some e → w12 a = some e := fun a e9 h9 => by rw [ew13, va_up_ne _ _ (xw_nn h9 z_xb)]; exact ol a e9 h9
    refine lv_astore_n hx hb nd_S_blankSequence_52 rfl hl (by decide) (lv' := [(3, .ref xb), (2, .ref br), (1, .ref xa), (0, .ref lf)]) rfl (fun ls hl => ?_)
    refine lv_iconst (v := 0) hx hb nd_S_blankSequence_53 (by decide) ?_
    refine lv_istore hx hb nd_S_blankSequence_54 hl (by decide) (lv' := [(4, .int 0), (3, .ref xb), (2, .ref br), (1, .ref xa), (0, .ref lf)]) rfl (fun ls hl => ?_)
    have loopxb : (∀ (f : Nat → Option Nat) (ls : Array Slot) (H : Heap) (locs : List Loc), (∀ j, j < 32 → f j = some br) → lv_has ls 5 [(4, .int (nI 32)), (3, .ref xb), (2, .ref br), (1, .ref xa), (0, .ref lf)] → g_P G (va_up w12 xb (some (.inl (G.2.1 2, 32, .inr (.inr (.inr (.inr f))))))) H → g_S G s.heap H locs → W p l e ({ frames := 2, cells := 7, slots := 107, locals := 37 }) s m [].toArray below meth c H locs (5) (100) (MQ below (g_Qr G (fun q w' => ∃ rt lf, tr_So (G.2.1 0) (G.2.1 1) (G.2.1 2) (fun _ => True) w' q 0 rt lf 0 0 (fun _ => 0) ∧ tr_Wi w' 0 ∧ ∀ a e, w a = some e → w' a = some e)) [].toArray s 7 107 (xw_A (g_b G))) (F0 m 74 ls [])) → ∀ (m9 i : Nat) (f : Nat → Option Nat) (ls : Array Slot) (H : Heap) (locs : List Loc), m9 + i = 32 → (∀ j, j < i → f j = some br) → lv_has ls 5 [(4, .int (nI i)), (3, .ref xb), (2, .ref br), (1, .ref xa), (0, .ref lf)] → g_P G (va_up w12 xb (some (.inl (G.2.1 2, 32, .inr (.inr (.inr (.inr f))))))) H → g_S G s.heap H locs → W p l e ({ frames := 2, cells := 7, slots := 107, locals := 37 }) s m [].toArray below meth c H locs (5) (100) (MQ below (g_Qr G (fun q w' => ∃ rt lf, tr_So (G.2.1 0) (G.2.1 1) (G.2.1 2) (fun _ => True) w' q 0 rt lf 0 0 (fun _ => 0) ∧ tr_Wi w' 0 ∧ ∀ a e, w a = some e → w' a = some e)) [].toArray s 7 107 (xw_A (g_b G))) (F0 m 56 ls []) := by
        intro go m9
        induction m9 with
        | zero =>
          intro i f ls H locs hmi hf hl hw hS
          obtain ⟨wl, ewl⟩ : ∃ z, z = va_up w12 xb (some (.inl (G.2.1 2, 32, .inr (.inr (.inr (.inr f)))))) := ⟨_, rfl⟩
          rw [← ewl] at hw
          have h_br : wl br = some (.inr (0, [.int 0, .ref xa])) := by rw [ewl, va_up_ne _ _ (xw_ne h_br h_xb (by simp))]; exact h_br
          have h_xb : wl xb = some (.inl (G.2.1 2, 32, .inr (.inr (.inr (.inr f))))) := by rw [ewl]; exact va_up_self _ _ _
          refine lv_iload hx hb nd_S_blankSequence_56 (lv_at hl 0 rfl) ?_
          refine lv_bipush (v := 32) hx hb nd_S_blankSequence_58 (by decide) ?_
          refine lv_icmp_ge (tgt := 74) hx hb nd_S_blankSequence_60 (by decide) (fun hc => ?_) (fun hc => ?_)
          · obtain rfl : i = 32 := by omega
            exact go f ls H locs hf hl (by rw [← ewl]; exact hw) hS
          · exact absurd (nI_le (a := 32) (b := i) (by omega) (by omega)) hc
        | succ m9 ih =>
          intro i f ls H locs hmi hf hl hw hS
          obtain ⟨wl, ewl⟩ : ∃ z, z = va_up w12 xb (some (.inl (G.2.1 2, 32, .inr (.inr (.inr (.inr f)))))) := ⟨_, rfl⟩
          rw [← ewl] at hw
          have h_br : wl br = some (.inr (0, [.int 0, .ref xa])) := by rw [ewl, va_up_ne _ _ (xw_ne h_br h_xb (by simp))]; exact h_br
          have h_xb : wl xb = some (.inl (G.2.1 2, 32, .inr (.inr (.inr (.inr f))))) := by rw [ewl]; exact va_up_self _ _ _
          refine lv_iload hx hb nd_S_blankSequence_56 (lv_at hl 0 rfl) ?_
          refine lv_bipush (v := 32) hx hb nd_S_blankSequence_58 (by decide) ?_
          refine lv_icmp_ge (tgt := 74) hx hb nd_S_blankSequence_60 (by decide) (fun hc => ?_) (fun hc => ?_)
          · exact absurd hc (nI_ge (b := 32) (by omega) (by omega))
          · refine lv_aload_n hx hb nd_S_blankSequence_63 rfl (lv_at hl 1 rfl) ?_
            refine lv_iload hx hb nd_S_blankSequence_64 (lv_at hl 0 rfl) ?_
            refine lv_aload_n hx hb nd_S_blankSequence_66 rfl (lv_at hl 2 rfl) ?_
            refine xw_aast (r := (nR_B, nT_B, 2)) hx hb hK.1 hB hw hS 2 0 h_xb rfl h_br rfl (vp_in_nI (by omega) (by decide)) nd_S_blankSequence_67 (fun H locs hw hS => ?_)
            rw [nI_clamp (by omega)] at hw
            obtain ⟨w14, ew15⟩ : ∃ z, z = va_up wl xb (some (.inl (G.2.1 2, 32, .inr (.inr (.inr (.inr (va_up f i (some br)))))))) := ⟨_, rfl⟩
            have hw : g_P G w14 H := by rw [ew15]; exact hw
            have h_br : w14 br = some (.inr (0, [.int 0, .ref xa])) := by rw [ew15, va_up_ne _ _ (xw_ne h_br h_xb (by simp))]; exact h_br
            have h_xb : w14 xb = some (.inl (G.2.1 2, 32, .inr (.inr (.inr (.inr (va_up f i (some br))))))) := by rw [ew15]; exact va_up_self _ _ _
            refine lv_iinc (k := 0) hx hb nd_S_blankSequence_68 hl rfl rfl (by decide) (lv' := [(4, .int ((nI i) + 1)), (3, .ref xb), (2, .ref br), (1, .ref xa), (0, .ref lf)]) rfl (fun ls hl => ?_)
            rw [nI_1] at hl
            refine lv_goto (tgt := 56) hx hb nd_S_blankSequence_71 (by decide) ?_
            refine ih (i + 1) (va_up f i (some br)) ls H locs (by omega) (fun j hj => ?_) hl (by rw [ew15, ewl, bx_uu] at hw; exact hw) hS
            by_cases ej : j = i
            · rw [ej, va_up_self]
            · rw [va_up_ne _ _ ej]; exact hf j (by omega)
    refine loopxb (fun fxb ls H locs hfxb hl hw hS => ?_) 32 0 (fun _ => none) ls H locs (by omega) (fun j hj => absurd hj (by omega)) hl ?_ hS
    · obtain ⟨w14, e_xb⟩ : ∃ z, z = va_up w12 xb (some (.inl (G.2.1 2, 32, .inr (.inr (.inr (.inr fxb)))))) := ⟨_, rfl⟩
      rw [← e_xb] at hw
      have h_lf : w14 lf = some (.inr (1, [.int 0, .ref x1])) := by rw [e_xb, va_up_ne _ _ (xw_ne h_lf h_xb (by simp))]; exact h_lf
      have h_x1 : w14 x1 = some (.inl (G.2.1 0, 32, .inr (.inl (fun _ => 0)))) := by rw [e_xb, va_up_ne _ _ (xw_ne h_x1 h_xb (by simp))]; exact h_x1
      have h_xa : w14 xa = some (.inl (G.2.1 1, 32, .inr (.inr (.inr (.inr fxa))))) := by rw [e_xb, va_up_ne _ _ (hab)]; exact h_xa
      have h_br : w14 br = some (.inr (0, [.int 0, .ref xa])) := by rw [e_xb, va_up_ne _ _ (xw_ne h_br h_xb (by simp))]; exact h_br
      have h_xb : w14 xb = some (.inl (G.2.1 2, 32, .inr (.inr (.inr (.inr fxb))))) := by rw [e_xb]; exact va_up_self _ _ _
      have ol : ∀ a e, w a = some e → w14 a = some e := fun a e9 h9 => by rw [e_xb, va_up_ne _ _ (xw_nn h9 z_xb)]; exact ol a e9 h9
      refine xw_new (T := nT_Q) (N := 5) (ci := 3) (fs := [.int 0, .null, .null, .int 0, .int 0]) hx hb hT nu_Q nt_Q nk_Q hown (hT _ nh_cl_S_17) (hT _ nh_is_Q) (hT _ nh_in_Q) hK.1 hB hw hS rfl (fun j hj => by rcases (show j = 0 ∨ j = 1 ∨ j = 2 ∨ j = 3 ∨ j = 4 by omega) with rfl | rfl | rfl | rfl | rfl <;> rfl) (by exact Nat.le_of_ble_eq_true rfl) (by exact Nat.le_of_ble_eq_true rfl) nd_S_blankSequence_74 (fun q H hn_q hw hS => ?_)
      obtain ⟨w15, ew16⟩ : ∃ z, z = va_up w14 q (some (.inr (3, [.int 0, .null, .null, .int 0, .int 0]))) := ⟨_, rfl⟩
      have hw : g_P G w15 H := by rw [ew16]; exact hw
      have h_lf : w15 lf = some (.inr (1, [.int 0, .ref x1])) := by rw [ew16, va_up_ne _ _ (xw_nn h_lf hn_q)]; exact h_lf
      have h_x1 : w15 x1 = some (.inl (G.2.1 0, 32, .inr (.inl (fun _ => 0)))) := by rw [ew16, va_up_ne _ _ (xw_nn h_x1 hn_q)]; exact h_x1
      have h_xa : w15 xa = some (.inl (G.2.1 1, 32, .inr (.inr (.inr (.inr fxa))))) := by rw [ew16, va_up_ne _ _ (xw_nn h_xa hn_q)]; exact h_xa
      have h_br : w15 br = some (.inr (0, [.int 0, .ref xa])) := by rw [ew16, va_up_ne _ _ (xw_nn h_br hn_q)]; exact h_br
      have h_xb : w15 xb = some (.inl (G.2.1 2, 32, .inr (.inr (.inr (.inr fxb))))) := by rw [ew16, va_up_ne _ _ (xw_nn h_xb hn_q)]; exact h_xb
      have h_q : w15 q = some (.inr (3, [.int 0, .null, .null, .int 0, .int 0])) := by rw [ew16]; exact va_up_self _ _ _
      have z_q : w q = none := by
        cases h9 : w q with
        | none => rfl
        | some e9 => rw [ol _ _ h9] at hn_q; cases hn_q
      have ol : ∀ a e, w a = some e → w15 a = some e := fun a e9 h9 => by rw [ew16, va_up_ne _ _ (xw_nn h9 z_q)]; exact ol a e9 h9
      refine lv_dup hx hb nd_S_blankSequence_77 rfl ?_
      refine lv_iconst (v := 0) hx hb nd_S_blankSequence_78 (by decide) ?_
      refine xw_new (T := nT_R) (N := 2) (ci := 2) (fs := [.int 0, .null]) hx hb hT nu_R nt_R nk_R hown (hT _ nh_cl_S_132) (hT _ nh_is_R) (hT _ nh_in_R) hK.1 hB hw hS rfl (fun j hj => by rcases (show j = 0 ∨ j = 1 by omega) with rfl | rfl <;> rfl) (by exact Nat.le_of_ble_eq_true rfl) (by exact Nat.le_of_ble_eq_true rfl) nd_S_blankSequence_79 (fun rt H hn_rt hw hS => ?_)
      obtain ⟨w17, ew18⟩ : ∃ z, z = va_up w15 rt (some (.inr (2, [.int 0, .null]))) := ⟨_, rfl⟩
      have hw : g_P G w17 H := by rw [ew18]; exact hw
      have h_lf : w17 lf = some (.inr (1, [.int 0, .ref x1])) := by rw [ew18, va_up_ne _ _ (xw_nn h_lf hn_rt)]; exact h_lf
      have h_x1 : w17 x1 = some (.inl (G.2.1 0, 32, .inr (.inl (fun _ => 0)))) := by rw [ew18, va_up_ne _ _ (xw_nn h_x1 hn_rt)]; exact h_x1
      have h_xa : w17 xa = some (.inl (G.2.1 1, 32, .inr (.inr (.inr (.inr fxa))))) := by rw [ew18, va_up_ne _ _ (xw_nn h_xa hn_rt)]; exact h_xa
      have h_br : w17 br = some (.inr (0, [.int 0, .ref xa])) := by rw [ew18, va_up_ne _ _ (xw_nn h_br hn_rt)]; exact h_br
      have h_xb : w17 xb = some (.inl (G.2.1 2, 32, .inr (.inr (.inr (.inr fxb))))) := by rw [ew18, va_up_ne _ _ (xw_nn h_xb hn_rt)]; exact h_xb
      have h_q : w17 q = some (.inr (3, [.int 0, .null, .null, .int 0, .int 0])) := by rw [ew18, va_up_ne _ _ (xw_nn h_q hn_rt)]; exact h_q
      have h_rt : w17 rt = some (.inr (2, [.int 0, .null])) := by rw [ew18]; exact va_up_self _ _ _
      have z_rt : w rt = none := by
        cases h9 : w rt with
        | none => rfl
        | some e9 => rw [ol _ _ h9] at hn_rt; cases hn_rt
      have ol : ∀ a e, w a = some e → w17 a = some e := fun a e9 h9 => by rw [ew18, va_up_ne _ _ (xw_nn h9 z_rt)]; exact ol a e9 h9
      refine lv_dup hx hb nd_S_blankSequence_82 rfl ?_
      refine lv_iconst (v := 0) hx hb nd_S_blankSequence_83 (by decide) ?_
      refine lv_aload_n hx hb nd_S_blankSequence_84 rfl (lv_at hl 1 rfl) ?_
      refine g_callv (va_runI (As := [.int 0, .ref xb]) (rest := [.ref rt, .int 0, .ref q, .ref q]) ⟨hx, hb, hml, hown, hts⟩ (c_R_init l G w17 rt 0 xb h_rt) (cwI 2 hts (nw_of (nw_0 nh_co_R_init)) rfl rfl rfl (hT _ nh_in_R) (hT _ nh_ml_S_134) (hT _ nh_im_R_init) rfl (by decide +kernel) ⟨Nat.le_of_ble_eq_true rfl, Nat.le_of_ble_eq_true rfl⟩) (g_preS hK hw hS _) rfl rfl hl.1 rfl (lv_room (Nat.le_of_ble_eq_true rfl)) nd_S_blankSequence_85 ⟨by exact Nat.le_of_ble_eq_true rfl, by exact Nat.le_of_ble_eq_true rfl⟩) hS (fun w19 H locs hp hw hS => ?_)
      have e_rt : w19 = va_up w17 rt (some (.inr (2, [.int 0, .ref xb]))) := hp
      have h_lf : w19 lf = some (.inr (1, [.int 0, .ref x1])) := by rw [e_rt, va_up_ne _ _ (xw_ne h_lf h_rt (by simp))]; exact h_lf
      have h_x1 : w19 x1 = some (.inl (G.2.1 0, 32, .inr (.inl (fun _ => 0)))) := by rw [e_rt, va_up_ne _ _ (xw_ne h_x1 h_rt (by simp))]; exact h_x1
      have h_xa : w19 xa = some (.inl (G.2.1 1, 32, .inr (.inr (.inr (.inr fxa))))) := by rw [e_rt, va_up_ne _ _ (xw_ne h_xa h_rt (by simp))]; exact h_xa
      have h_br : w19 br = some (.inr (0, [.int 0, .ref xa])) := by rw [e_rt, va_up_ne _ _ (xw_ne h_br h_rt (by simp))]; exact h_br
      have h_xb : w19 xb = some (.inl (G.2.1 2, 32, .inr (.inr (.inr (.inr fxb))))) := by rw [e_rt, va_up_ne _ _ (xw_ne h_xb h_rt (by simp))]; exact h_xb
      have h_q : w19 q = some (.inr (3, [.int 0, .null, .null, .int 0, .int 0])) := by rw [e_rt, va_up_ne _ _ (xw_ne h_q h_rt (by simp))]; exact h_q
      have h_rt : w19 rt = some (.inr (2, [.int 0, .ref xb])) := by rw [e_rt]; exact va_up_self _ _ _
      have ol : ∀ a e, w a = some e → w19 a = some e := fun a e9 h9 => by rw [e_rt, va_up_ne _ _ (xw_nn h9 z_rt)]; exact ol a e9 h9
      refine lv_aload_n hx hb nd_S_blankSequence_88 rfl (lv_at hl 4 rfl) ?_
      refine lv_iconst (v := 0) hx hb nd_S_blankSequence_89 (by decide) ?_
      refine lv_iconst (v := 0) hx hb nd_S_blankSequence_90 (by decide) ?_
      refine g_callv (va_runI (As := [.int 0, .ref rt, .ref lf, .int 0, .int 0]) (rest := [.ref q]) ⟨hx, hb, hml, hown, hts⟩ (c_Q_init l G w19 q rt lf 0 0 0 h_q) (cwI 5 hts (nw_of (nw_0 nh_co_Q_init)) rfl rfl rfl (hT _ nh_in_Q) (hT _ nh_ml_S_105) (hT _ nh_im_Q_init) rfl (by decide +kernel) ⟨Nat.le_of_ble_eq_true rfl, Nat.le_of_ble_eq_true rfl⟩) (g_preS hK hw hS _) rfl rfl hl.1 rfl (lv_room (Nat.le_of_ble_eq_true rfl)) nd_S_blankSequence_91 ⟨by exact Nat.le_of_ble_eq_true rfl, by exact Nat.le_of_ble_eq_true rfl⟩) hS (fun w20 H locs hp hw hS => ?_)
      have e_q : w20 = va_up w19 q (some (.inr (3, [.int 0, .ref rt, .ref lf, .int 0, .int 0]))) := hp
      have h_lf : w20 lf = some (.inr (1, [.int 0, .ref x1])) := by rw [e_q, va_up_ne _ _ (xw_ne h_lf h_q (by simp))]; exact h_lf
      have h_x1 : w20 x1 = some (.inl (G.2.1 0, 32, .inr (.inl (fun _ => 0)))) := by rw [e_q, va_up_ne _ _ (xw_ne h_x1 h_q (by simp))]; exact h_x1
      have h_xa : w20 xa = some (.inl (G.2.1 1, 32, .inr (.inr (.inr (.inr fxa))))) := by rw [e_q, va_up_ne _ _ (xw_ne h_xa h_q (by simp))]; exact h_xa
      have h_br : w20 br = some (.inr (0, [.int 0, .ref xa])) := by rw [e_q, va_up_ne _ _ (xw_ne h_br h_q (by simp))]; exact h_br
      have h_xb : w20 xb = some (.inl (G.2.1 2, 32, .inr (.inr (.inr (.inr fxb))))) := by rw [e_q, va_up_ne _ _ (xw_ne h_xb h_q (by simp))]; exact h_xb
      have h_rt : w20 rt = some (.inr (2, [.int 0, .ref xb])) := by rw [e_q, va_up_ne _ _ (xw_ne h_rt h_q (by simp))]; exact h_rt
      have h_q : w20 q = some (.inr (3, [.int 0, .ref rt, .ref lf, .int 0, .int 0])) := by rw [e_q]; exact va_up_self _ _ _
      have ol : ∀ a e, w a = some e → w20 a = some e := fun a e9 h9 => by rw [e_q, va_up_ne _ _ (xw_nn h9 z_q)]; exact ol a e9 h9
      have hN : ∀ k n, tr_isN w20 k n → n = rt ∨ n = br ∨ n = lf := by
        intro k n hn
        rw [e_q] at hn
        have hn := tr_isN_no hn (Or.inr ⟨_, _, rfl, by decide⟩)
        rw [e_rt] at hn
        rcases tr_isN_at hn with h9 | hn
        · exact Or.inl h9
        rw [ew18] at hn
        rcases tr_isN_at hn with h9 | hn
        · exact Or.inl h9
        rw [ew16] at hn
        have hn := tr_isN_no hn (Or.inr ⟨_, _, rfl, by decide⟩)
        rw [e_xb] at hn
        have hn := tr_isN_no hn (Or.inl ⟨_, rfl⟩)
        rw [ew13] at hn
        have hn := tr_isN_no hn (Or.inl ⟨_, rfl⟩)
        rw [e_br] at hn
        rcases tr_isN_at hn with h9 | hn
        · exact Or.inr (Or.inl h9)
        rw [ew10] at hn
        rcases tr_isN_at hn with h9 | hn
        · exact Or.inr (Or.inl h9)
        rw [e_xa] at hn
        have hn := tr_isN_no hn (Or.inl ⟨_, rfl⟩)
        rw [ew7] at hn
        have hn := tr_isN_no hn (Or.inl ⟨_, rfl⟩)
        rw [e_lf] at hn
        rcases tr_isN_at hn with h9 | hn
        · exact Or.inr (Or.inr h9)
        rw [ew4] at hn
        have hn := tr_isN_no hn (Or.inl ⟨_, rfl⟩)
        rw [ew2] at hn
        rcases tr_isN_at hn with h9 | hn
        · exact Or.inr (Or.inr h9)
        exact absurd hn (hno k n)
      obtain ⟨hSo, hWi⟩ := sh_blank h_q h_rt h_br h_lf h_x1 h_xa h_xb hfxa hfxb hab hN
      exact g_aret hx hb hr hlocks hw hS (⟨rt, lf, hSo, hWi, ol⟩) (by exact Nat.le_of_ble_eq_true rfl) (by exact Nat.le_of_ble_eq_true rfl) nd_S_blankSequence_94
    · rw [show va_up w12 xb (some (.inl (G.2.1 2, 32, .inr (.inr (.inr (.inr (fun _ => none))))))) = w12 from va_up_id h_xb]; exact hw
  · rw [show va_up w6 xa (some (.inl (G.2.1 1, 32, .inr (.inr (.inr (.inr (fun _ => none))))))) = w6 from va_up_id h_xa]; exact hw
end
section
theorem sh_init {G : g_G} {w1 w' : xw_W} {h e0 sl rt lf : Nat} {fs : List Value} {f : Nat → Option Nat} (hSo : tr_So (G.2.1 0) (G.2.1 1) (G.2.1 2) (fun _ => True) w1 e0 0 rt lf 0 0 (fun _ => 0)) (hWi : tr_Wi w1 0) (h1 : w1 h = some (.inr (4, fs))) (hs1 : w1 sl = none) (hh : w' h = some (.inr (4, [.ref e0, .ref sl, .null, .int 0]))) (hs : w' sl = some (.inl (G.2.1 3, 16, .inr (.inr (.inr (.inr f)))))) (hk : ∀ a, a ≠ h → a ≠ sl → w' a = w1 a) (hf : ∀ j, j < 16 → f j = some e0) :
    sh_I G w' h e0 sl false (fun _ => 0) (fun _ _ => 0) 0 none f := by
  have sm : ∀ k m, tr_isN w1 k m → tr_Same w1 w' m := fun k m hm => by
    obtain ⟨e1, he1⟩ := hWi.1 k m hm
    obtain ⟨s, x, hx⟩ := hm.2
    exact ⟨hk _ (tr_isN_ne hm h1 (by decide)) (xw_nn hx hs1), hk _ (tr_ne_kind he1 h1) (xw_nn he1 hs1)⟩
  have back : ∀ k m, tr_isN w' k m → tr_isN w1 k m := fun k m hm => by
    have n2 : m ≠ sl := by
      obtain ⟨s, x, hx⟩ := hm.2
      exact Ne.symm (tr_ne_kind hs hx)
    exact tr_isN_eq (hk _ (tr_isN_ne hm hh (by decide)) n2).symm hm
  have s0 : tr_So (G.2.1 0) (G.2.1 1) (G.2.1 2) (sh_Z none) w' e0 0 rt lf 0 0 (fun _ => 0) := tr_So_Z (tr_So_same hSo (hk _ (hSo.ne4 h1) (xw_nn hSo.1 hs1)) (fun k m hm _ => sm k m hm)) (fun _ _ _ _ _ _ z => by cases z)
  refine ⟨by rw [nI_0]; exact hh, hs, tr_Wi_all hWi sm back, fun k m hm => ?_, rfl, fun k hk9 => ⟨e0, hf k hk9, fun d z => (by cases z), 0, rt, lf, 0, s0⟩, ⟨fun d z => (by cases z), 0, rt, lf, s0⟩, fun q d z => by cases z⟩
  obtain ⟨e1, he1⟩ := hWi.1 k m (back k m hm)
  rw [(sm _ _ (back k m hm)).arr]
  exact xw_nn he1 hs1

set_option maxHeartbeats 4000000 in
set_option maxRecDepth 100000 in
theorem c_S_init (l : Launch) (G : g_G) (w : xw_W) (h : Nat) (hno : ∀ k n, ¬ tr_isN w k n) (hh : w h = some (.inr (4, [.null, .null, .null, .int 0]))) : Met l ny_S_init nw_S_init ({ frames := 3, cells := 8, slots := 123, locals := 64 }) (g_Pc G w [.ref h]) (g_Qv G (fun w' => ∃ e0 sl, sh_S G w' h e0 sl (false, fun _ => 0, fun _ _ => 0) 0)) 8 123 (xw_A (g_b G)) := by
  refine g_met (by decide) (Nat.le_of_ble_eq_true rfl) rfl ?_
  intro p e s m below meth c ls hx hb hr hts hown hlocks hin hml hl hK hB hw hS
  have hT : ∀ w ∈ nw_T, w.before _ s = true := fun w h => hts w (List.mem_cons_of_mem _ h)
  have hown : s.vm.findClass "RadixShelf" = some m.cls := hown
  have hl : lv_has ls 2 [(0, .ref h)] := hl
  refine lv_aload_n hx hb nd_S_init_0 rfl (lv_at hl 0 rfl) ?_
  refine W.objInit hx hb hown (hT _ nh_ml_S_3) (hT _ nh_im_obj) (hT _ nh_co_obj) rfl (by rw [hml]; exact hl.1) rfl nd_S_init_1 (Nat.le_of_ble_eq_true rfl) (Nat.le_of_ble_eq_true rfl) ?_
  refine W.eq (g2 := F0 m 4 ls []) rfl ?_
  refine lv_aload_n hx hb nd_S_init_4 rfl (lv_at hl 0 rfl) ?_
  refine g_callr (va_runS (As := []) (rest := [.ref h]) ⟨hx, hb, hml, hown, hts⟩ (c_S_blankSequence l G w hno) (cwS 0 hts (nw_of (nw_3 nh_ml_S_9 nh_st_S_blankSequence nh_in_S nh_co_S_blankSequence)) rfl rfl rfl (by decide +kernel) ⟨Nat.le_of_ble_eq_true rfl, Nat.le_of_ble_eq_true rfl⟩) (g_preS hK hw hS _) rfl rfl hl.1 rfl (lv_room (Nat.le_of_ble_eq_true rfl)) nd_S_init_5 ⟨by exact Nat.le_of_ble_eq_true rfl, by exact Nat.le_of_ble_eq_true rfl⟩) hS (fun e0 w1 H locs hp hw hS => ?_)
  obtain ⟨rt, lf, hSo, hWi, ol⟩ := hp
  have hh := ol _ _ hh
  have h1 := hh
  refine xw_putF (T := nT_S) (N := 4) (ci := 4) (v := .ref e0) (ty := (.object "RadixShelf$Sequence")) hx hb hT nu_S nt_S nk_S nn_S hown hK.1 hB hw hS hh rfl 0 (by decide) (hT _ nh_fl_S_13) (fun _ h9 => h9) rfl hin rfl (by decide +kernel) rfl rfl (Nat.le_of_ble_eq_true rfl) nd_S_init_8 (fun H locs hw hS => ?_)
  obtain ⟨w2, ew3⟩ : ∃ z, z = va_up w1 h (some (.inr (4, [.ref e0, .null, .null, .int 0]))) := ⟨_, rfl⟩
  have hw : g_P G w2 H := by rw [ew3]; exact hw
  have hh : w2 h = some (.inr (4, [.ref e0, .null, .null, .int 0])) := by rw [ew3]; exact va_up_self _ _ _
  refine lv_aload_n hx hb nd_S_init_11 rfl (lv_at hl 0 rfl) ?_
  refine lv_bipush (v := 16) hx hb nd_S_init_12 (by decide) ?_
  refine xw_newq (N' := 16) hx hb hown (hT _ nh_cl_S_17) hK.2.1.2.2.1 hK.1 hB hw hS 3 rfl (by decide) (by decide) (by decide) (by exact Nat.le_of_ble_eq_true rfl) (by exact Nat.le_of_ble_eq_true rfl) nd_S_init_14 (fun sl H hn_sl hw hS => ?_)
  have hs1 : w1 sl = none := by
    have h9 := hn_sl
    rw [ew3, va_up_ne _ _ (fun z => ?_)] at h9
    · exact h9
    · rw [z, hh] at hn_sl
      cases hn_sl
  obtain ⟨w4, ew5⟩ : ∃ z, z = va_up w2 sl (some (.inl (G.2.1 3, 16, .inr (.inr (.inr (.inr (fun _ => none))))))) := ⟨_, rfl⟩
  have hw : g_P G w4 H := by rw [ew5]; exact hw
  have hh : w4 h = some (.inr (4, [.ref e0, .null, .null, .int 0])) := by rw [ew5, va_up_ne _ _ (xw_nn hh hn_sl)]; exact hh
  have h_sl : w4 sl = some (.inl (G.2.1 3, 16, .inr (.inr (.inr (.inr (fun _ => none)))))) := by rw [ew5]; exact va_up_self _ _ _
  refine xw_putF (T := nT_S) (N := 4) (ci := 4) (v := .ref sl) (ty := (.array (.object "RadixShelf$Sequence"))) hx hb hT nu_S nt_S nk_S nn_S hown hK.1 hB hw hS hh rfl 1 (by decide) (hT _ nh_fl_S_19) (fun _ h9 => h9) rfl hin rfl (by decide +kernel) rfl rfl (Nat.le_of_ble_eq_true rfl) nd_S_init_17 (fun H locs hw hS => ?_)
  obtain ⟨w6, ew7⟩ : ∃ z, z = va_up w4 h (some (.inr (4, [.ref e0, .ref sl, .null, .int 0]))) := ⟨_, rfl⟩
  have hw : g_P G w6 H := by rw [ew7]; exact hw
  have h_sl : w6 sl = some (.inl (G.2.1 3, 16, .inr (.inr (.inr (.inr (fun _ => none)))))) := by rw [ew7, va_up_ne _ _ (xw_ne h_sl hh (by simp))]; exact h_sl
  have hh : w6 h = some (.inr (4, [.ref e0, .ref sl, .null, .int 0])) := by rw [ew7]; exact va_up_self _ _ _
  refine lv_iconst (v := 0) hx hb nd_S_init_20 (by decide) ?_
  refine lv_istore_n hx hb nd_S_init_21 rfl hl (by decide) (lv' := [(1, .int 0), (0, .ref h)]) rfl (fun ls hl => ?_)
  have hso2 : w6 e0 = some (.inr (3, [.int 0, .ref rt, .ref lf, .int (nI 0), .int (nI 0)])) := by rw [ew7, va_up_ne _ _ (hSo.ne4 h1), ew5, va_up_ne _ _ (xw_nn hSo.1 hs1), ew3, va_up_ne _ _ (hSo.ne4 h1)]; exact hSo.1
  have loop : ∀ (m9 i : Nat) (f : Nat → Option Nat) (ls : Array Slot) (H : Heap) (locs : List Loc), m9 + i = 16 → (∀ j, j < i → f j = some e0) → lv_has ls 2 [(1, .int (nI i)), (0, .ref h)] → g_P G (va_up w6 sl (some (.inl (G.2.1 3, 16, .inr (.inr (.inr (.inr f))))))) H → g_S G s.heap H locs → W p l e ({ frames := 3, cells := 8, slots := 123, locals := 64 }) s m [.ref h].toArray below meth c H locs (8) (123) (MQ below (g_Qv G (fun w' => ∃ e0 sl, sh_S G w' h e0 sl (false, fun _ => 0, fun _ _ => 0) 0)) [.ref h].toArray s 8 123 (xw_A (g_b G))) (F0 m 22 ls []) := by
    intro m9
    induction m9 with
    | zero =>
      intro i f ls H locs hmi hf hl hw hS
      obtain ⟨wl, ewl⟩ : ∃ z, z = va_up w6 sl (some (.inl (G.2.1 3, 16, .inr (.inr (.inr (.inr f)))))) := ⟨_, rfl⟩
      rw [← ewl] at hw
      have hh : wl h = some (.inr (4, [.ref e0, .ref sl, .null, .int 0])) := by rw [ewl, va_up_ne _ _ (xw_ne hh h_sl (by simp))]; exact hh
      have hso2 : wl e0 = some (.inr (3, [.int 0, .ref rt, .ref lf, .int (nI 0), .int (nI 0)])) := by rw [ewl, va_up_ne _ _ (xw_ne hso2 h_sl (by simp))]; exact hso2
      have h_sl : wl sl = some (.inl (G.2.1 3, 16, .inr (.inr (.inr (.inr f))))) := by rw [ewl]; exact va_up_self _ _ _
      refine lv_iload_n hx hb nd_S_init_22 rfl (lv_at hl 0 rfl) ?_
      refine lv_bipush (v := 16) hx hb nd_S_init_23 (by decide) ?_
      refine lv_icmp_ge (tgt := 44) hx hb nd_S_init_25 (by decide) (fun hc => ?_) (fun hc => ?_)
      · refine lv_aload_n hx hb nd_S_init_44 rfl (lv_at hl 1 rfl) ?_
        refine lv_null hx hb nd_S_init_45 ?_
        refine xw_put (T := nT_S) (N := 4) (ci := 4) (v := .null) (ty := (.object "RadixShelf$Sequence")) hx hb hT nu_S nt_S nk_S nn_S hown hK.1 hB hw hS hh rfl 2 (by decide) (hT _ nh_fl_S_23) (fun _ h9 => h9) rfl (by decide +kernel) rfl rfl (Nat.le_of_ble_eq_true rfl) nd_S_init_46 (fun H locs hw hS => ?_)
        obtain ⟨w8, ew9⟩ : ∃ z, z = va_up wl h (some (.inr (4, [.ref e0, .ref sl, .null, .int 0]))) := ⟨_, rfl⟩
        have hw : g_P G w8 H := by rw [ew9]; exact hw
        have hso2 : w8 e0 = some (.inr (3, [.int 0, .ref rt, .ref lf, .int (nI 0), .int (nI 0)])) := by rw [ew9, va_up_ne _ _ (xw_ne hso2 hh (by simp))]; exact hso2
        have h_sl : w8 sl = some (.inl (G.2.1 3, 16, .inr (.inr (.inr (.inr f))))) := by rw [ew9, va_up_ne _ _ (xw_ne h_sl hh (by simp))]; exact h_sl
        have hh : w8 h = some (.inr (4, [.ref e0, .ref sl, .null, .int 0])) := by rw [ew9]; exact va_up_self _ _ _
        refine lv_aload_n hx hb nd_S_init_49 rfl (lv_at hl 1 rfl) ?_
        refine lv_iconst (v := 0) hx hb nd_S_init_50 (by decide) ?_
        refine xw_put (T := nT_S) (N := 4) (ci := 4) (v := .int 0) (ty := .int) hx hb hT nu_S nt_S nk_S nn_S hown hK.1 hB hw hS hh rfl 3 (by decide) (hT _ nh_fl_S_26) (fun _ h9 => h9) rfl (by decide +kernel) rfl rfl (Nat.le_of_ble_eq_true rfl) nd_S_init_51 (fun H locs hw hS => ?_)
        obtain ⟨w10, ew11⟩ : ∃ z, z = va_up w8 h (some (.inr (4, [.ref e0, .ref sl, .null, .int 0]))) := ⟨_, rfl⟩
        have hw : g_P G w10 H := by rw [ew11]; exact hw
        have hso2 : w10 e0 = some (.inr (3, [.int 0, .ref rt, .ref lf, .int (nI 0), .int (nI 0)])) := by rw [ew11, va_up_ne _ _ (xw_ne hso2 hh (by simp))]; exact hso2
        have h_sl : w10 sl = some (.inl (G.2.1 3, 16, .inr (.inr (.inr (.inr f))))) := by rw [ew11, va_up_ne _ _ (xw_ne h_sl hh (by simp))]; exact h_sl
        have hh : w10 h = some (.inr (4, [.ref e0, .ref sl, .null, .int 0])) := by rw [ew11]; exact va_up_self _ _ _
        have hk : ∀ a, a ≠ h → a ≠ sl → w10 a = w1 a := fun a n1 n2 => by rw [ew11, va_up_ne _ _ n1, ew9, va_up_ne _ _ n1, ewl, va_up_ne _ _ n2, ew7, va_up_ne _ _ n1, ew5, va_up_ne _ _ n2, ew3, va_up_ne _ _ n1]
        exact g_vret hx hb hr hlocks hw hS (⟨e0, sl, 0, none, f, Nat.le_refl _, sh_init hSo hWi h1 hs1 hh h_sl hk (fun j hj => hf j (by omega))⟩) (by exact Nat.le_of_ble_eq_true rfl) (by exact Nat.le_of_ble_eq_true rfl) nd_S_init_54
      · exact absurd (nI_le (a := 16) (b := i) (by omega) (by omega)) hc
    | succ m9 ih =>
      intro i f ls H locs hmi hf hl hw hS
      obtain ⟨wl, ewl⟩ : ∃ z, z = va_up w6 sl (some (.inl (G.2.1 3, 16, .inr (.inr (.inr (.inr f)))))) := ⟨_, rfl⟩
      rw [← ewl] at hw
      have hh : wl h = some (.inr (4, [.ref e0, .ref sl, .null, .int 0])) := by rw [ewl, va_up_ne _ _ (xw_ne hh h_sl (by simp))]; exact hh
      have hso2 : wl e0 = some (.inr (3, [.int 0, .ref rt, .ref lf, .int (nI 0), .int (nI 0)])) := by rw [ewl, va_up_ne _ _ (xw_ne hso2 h_sl (by simp))]; exact hso2
      have h_sl : wl sl = some (.inl (G.2.1 3, 16, .inr (.inr (.inr (.inr f))))) := by rw [ewl]; exact va_up_self _ _ _
      refine lv_iload_n hx hb nd_S_init_22 rfl (lv_at hl 0 rfl) ?_
      refine lv_bipush (v := 16) hx hb nd_S_init_23 (by decide) ?_
      refine lv_icmp_ge (tgt := 44) hx hb nd_S_init_25 (by decide) (fun hc => ?_) (fun hc => ?_)
      · exact absurd hc (nI_ge (b := 16) (by omega) (by omega))
      · refine lv_aload_n hx hb nd_S_init_28 rfl (lv_at hl 1 rfl) ?_
        refine xw_get (T := nT_S) (N := 4) (ci := 4) hx hb hT nu_S hown hK.1 hw hh rfl 1 (by decide) (hT _ nh_fl_S_19) (fun _ h9 => h9) rfl nd_S_init_29 ?_
        refine lv_iload_n hx hb nd_S_init_32 rfl (lv_at hl 0 rfl) ?_
        refine lv_aload_n hx hb nd_S_init_33 rfl (lv_at hl 1 rfl) ?_
        refine xw_get (T := nT_S) (N := 4) (ci := 4) hx hb hT nu_S hown hK.1 hw hh rfl 0 (by decide) (hT _ nh_fl_S_13) (fun _ h9 => h9) rfl nd_S_init_34 ?_
        refine xw_aast (r := (nR_Q, nT_Q, 5)) hx hb hK.1 hB hw hS 3 3 h_sl rfl hso2 rfl (vp_in_nI (by omega) (by decide)) nd_S_init_37 (fun H locs hw hS => ?_)
        rw [nI_clamp (by omega)] at hw
        obtain ⟨w8, ew9⟩ : ∃ z, z = va_up wl sl (some (.inl (G.2.1 3, 16, .inr (.inr (.inr (.inr (va_up f i (some e0)))))))) := ⟨_, rfl⟩
        have hw : g_P G w8 H := by rw [ew9]; exact hw
        have hh : w8 h = some (.inr (4, [.ref e0, .ref sl, .null, .int 0])) := by rw [ew9, va_up_ne _ _ (xw_ne hh h_sl (by simp))]; exact hh
        have hso2 : w8 e0 = some (.inr (3, [.int 0, .ref rt, .ref lf, .int (nI 0), .int (nI 0)])) := by rw [ew9, va_up_ne _ _ (xw_ne hso2 h_sl (by simp))]; exact hso2
        have h_sl : w8 sl = some (.inl (G.2.1 3, 16, .inr (.inr (.inr (.inr (va_up f i (some e0))))))) := by rw [ew9]; exact va_up_self _ _ _
        refine lv_iinc (k := 0) hx hb nd_S_init_38 hl rfl rfl (by decide) (lv' := [(1, .int ((nI i) + 1)), (0, .ref h)]) rfl (fun ls hl => ?_)
        rw [nI_1] at hl
        refine lv_goto (tgt := 22) hx hb nd_S_init_41 (by decide) ?_
        refine ih (i + 1) (va_up f i (some e0)) ls H locs (by omega) (fun j hj => ?_) hl (by rw [ew9, ewl, bx_uu] at hw; exact hw) hS
        by_cases ej : j = i
        · rw [ej, va_up_self]
        · rw [va_up_ne _ _ ej]; exact hf j (by omega)
  exact loop 16 0 (fun _ => none) ls H locs (by omega) (fun j hj => absurd hj (by omega)) hl (by rw [show va_up w6 sl (some (.inl (G.2.1 3, 16, .inr (.inr (.inr (.inr (fun _ => none))))))) = w6 from va_up_id h_sl]; exact hw) hS
end
section
/-! The reference in pure words. -/
def mo_b (b : Bool) : Int32 := if b then 1 else 0
/-- the reference at m: its rows rr k hold f k, its sizes sz -/
def mo_J (G : g_G) (w : xw_W) (m ra sa : Nat) (rr : Nat → Nat) (op : Bool) (sz : Nat → Nat) (f : Nat → Nat → Int64) (cd : Int32) : Prop :=
  w m = some (.inr (5, [.ref ra, .ref sa, .int (mo_b op), .int cd])) ∧ (∃ g, w ra = some (.inl (G.2.1 5, 17, .inr (.inr (.inr (.inr g))))) ∧ ∀ k, k < 17 → g k = some (rr k)) ∧ (∃ fs, w sa = some (.inl (G.2.1 4, 17, .inl fs)) ∧ ∀ k, k < 17 → fs k = nI (sz k)) ∧
  (∀ k, k < 17 → sz k ≤ 3000 ∧ w (rr k) = some (.inl (G.2.1 0, 3000, .inr (.inl (f k))))) ∧ ∀ k k', k < 17 → k' < 17 → rr k = rr k' → k = k'
def mo_F (m sa : Nat) (rr : Nat → Nat) (w w' : xw_W) : Prop := ∀ a, a ≠ m → a ≠ sa → (∀ k, k < 17 → a ≠ rr k) → w' a = w a
def mo_I (G : g_G) (w : xw_W) (m ra sa : Nat) (rr : Nat → Nat) (S : sp_S) (cd : Int32) : Prop := ∃ f, mo_J G w m ra sa rr S.1 S.2.1 f cd ∧ ∀ k, k < 17 → ∀ z, z < S.2.1 k → f k z = S.2.2 k z
def mo_Post (G : g_G) (w : xw_W) (m ra sa : Nat) (rr : Nat → Nat) (R : sp_R) (x : Int64) (w' : xw_W) : Prop := mo_I G w' m ra sa rr R.2.2 (nI R.1) ∧ x = R.2.1 ∧ mo_F m sa rr w w'
theorem mo_F.rf {m sa : Nat} {rr : Nat → Nat} {w : xw_W} : mo_F m sa rr w w := fun _ _ _ _ => rfl
theorem mo_F.tr {m sa : Nat} {rr : Nat → Nat} {w w1 w2 : xw_W} (a : mo_F m sa rr w w1) (b : mo_F m sa rr w1 w2) : mo_F m sa rr w w2 := fun x h1 h2 h3 => (b x h1 h2 h3).trans (a x h1 h2 h3)
section MOL
variable {G : g_G} {w w' : xw_W} {m ra sa : Nat} {rr : Nat → Nat} {op op' : Bool} {sz : Nat → Nat} {f : Nat → Nat → Int64} {cd cd' : Int32} {k n : Nat}
theorem mo_ne1 {a b : Nat} {c c' n n' : Nat} {x : Nat → Int32} {y : Nat → Int64} (ha : w a = some (.inl (c, n, .inl x))) (hb : w b = some (.inl (c', n', .inr (.inl y)))) : a ≠ b := xw_ne ha hb (fun z => by injection z with z; injection z with z1 z2; injection z2 with z3 z4; cases z4)
theorem mo_ne2 {a b : Nat} {c c' n n' : Nat} {x : Nat → Int32} {y : Nat → Option Nat} (ha : w a = some (.inl (c, n, .inl x))) (hb : w b = some (.inl (c', n', .inr (.inr (.inr (.inr y)))))) : a ≠ b := xw_ne ha hb (fun z => by injection z with z; injection z with z1 z2; injection z2 with z3 z4; cases z4)
theorem mo_ne3 {a b : Nat} {c c' n n' : Nat} {x : Nat → Int64} {y : Nat → Option Nat} (ha : w a = some (.inl (c, n, .inr (.inl x)))) (hb : w b = some (.inl (c', n', .inr (.inr (.inr (.inr y)))))) : a ≠ b := xw_ne ha hb (fun z => by injection z with z; injection z with z1 z2; injection z2 with z3 z4; injection z4 with z5; cases z5)
theorem mo_row {h : Nat → Int64} (hJ : mo_J G w m ra sa rr op sz f cd) (hk : k < 17) (e : w' = va_up w (rr k) (some (.inl (G.2.1 0, 3000, .inr (.inl h))))) : mo_J G w' m ra sa rr op sz (va_up f k h) cd ∧ mo_F m sa rr w w' := by
  obtain ⟨hm, ⟨g, hra, hg⟩, ⟨fs, hsa, hfs⟩, hrow, hinj⟩ := hJ
  have hr := (hrow k hk).2
  refine ⟨⟨?_, ⟨g, ?_, hg⟩, ⟨fs, ?_, hfs⟩, fun k' hk' => ⟨(hrow k' hk').1, ?_⟩, hinj⟩, fun a h1 h2 h3 => by rw [e, va_up_ne _ _ (h3 k hk)]⟩
  · rw [e, va_up_ne _ _ (Ne.symm (tr_ne_kind hr hm))]; exact hm
  · rw [e, va_up_ne _ _ (Ne.symm (mo_ne3 hr hra))]; exact hra
  · rw [e, va_up_ne _ _ (mo_ne1 hsa hr)]; exact hsa
  · by_cases ek : k' = k
    · rw [ek, va_up_self, e, va_up_self]
    · rw [va_up_ne _ _ ek, e, va_up_ne _ _ (fun z => ek (hinj k' k hk' hk z))]; exact (hrow k' hk').2
theorem mo_siz {fs : Nat → Int32} (hJ : mo_J G w m ra sa rr op sz f cd) (hk : k < 17) (hn : n ≤ 3000) (hs : w sa = some (.inl (G.2.1 4, 17, .inl fs))) (e : w' = va_up w sa (some (.inl (G.2.1 4, 17, .inl (upd fs k (nI n)))))) : mo_J G w' m ra sa rr op (va_up sz k n) f cd ∧ mo_F m sa rr w w' := by
  obtain ⟨hm, ⟨g, hra, hg⟩, ⟨fs', hsa, hfs⟩, hrow, hinj⟩ := hJ
  have ef : fs' = fs := by
    rw [hs] at hsa
    injection hsa with z
    injection z with z
    injection z with z1 z2
    injection z2 with z3 z4
    injection z4 with z5
    exact z5.symm
  subst ef
  refine ⟨⟨?_, ⟨g, ?_, hg⟩, ⟨upd fs' k (nI n), by rw [e, va_up_self], fun k' hk' => ?_⟩, fun k' hk' => ⟨?_, ?_⟩, hinj⟩, fun a h1 h2 h3 => by rw [e, va_up_ne _ _ h2]⟩
  · rw [e, va_up_ne _ _ (Ne.symm (tr_ne_kind hsa hm))]; exact hm
  · rw [e, va_up_ne _ _ (Ne.symm (mo_ne2 hsa hra))]; exact hra
  · by_cases ek : k' = k
    · rw [ek, va_up_self]; exact if_pos rfl
    · rw [va_up_ne _ _ ek]; exact (if_neg ek).trans (hfs k' hk')
  · by_cases ek : k' = k
    · rw [ek, va_up_self]; exact hn
    · rw [va_up_ne _ _ ek]; exact (hrow k' hk').1
  · rw [e, va_up_ne _ _ (Ne.symm (mo_ne1 hsa (hrow k' hk').2))]; exact (hrow k' hk').2
theorem mo_cod (hJ : mo_J G w m ra sa rr op sz f cd) (e : w' = va_up w m (some (.inr (5, [.ref ra, .ref sa, .int (mo_b op'), .int cd'])))) : mo_J G w' m ra sa rr op' sz f cd' ∧ mo_F m sa rr w w' := by
  obtain ⟨hm, ⟨g, hra, hg⟩, ⟨fs, hsa, hfs⟩, hrow, hinj⟩ := hJ
  refine ⟨⟨by rw [e]; exact va_up_self _ _ _, ⟨g, ?_, hg⟩, ⟨fs, ?_, hfs⟩, fun k' hk' => ⟨(hrow k' hk').1, ?_⟩, hinj⟩, fun a h1 h2 h3 => by rw [e, va_up_ne _ _ h1]⟩
  · rw [e, va_up_ne _ _ (tr_ne_kind hra hm)]; exact hra
  · rw [e, va_up_ne _ _ (tr_ne_kind hsa hm)]; exact hsa
  · rw [e, va_up_ne _ _ (tr_ne_kind (hrow k' hk').2 hm)]; exact (hrow k' hk').2
theorem mo_fin {vs : Nat → Nat → Int64} {i : Nat} {h u : Nat → Int64} (hv : ∀ k, k < 17 → ∀ z, z < sz k → f k z = vs k z) (hh : ∀ z, z < n → h z = u z) : ∀ k, k < 17 → ∀ z, z < va_up sz i n k → va_up f i h k z = va_up vs i u k z := by
  intro k hk z hz
  by_cases ek : k = i
  · rw [ek, va_up_self] at hz
    rw [ek, va_up_self, va_up_self]
    exact hh z hz
  · rw [va_up_ne _ _ ek] at hz
    rw [va_up_ne _ _ ek, va_up_ne _ _ ek]
    exact hv k hk z hz
theorem mo_upd {h u : Nat → Int64} {x n : Nat} {v : Int64} (hh : ∀ z, z < n → z ≠ x → h z = u z) : ∀ z, z < n → vp_updL h x v z = va_up u x v z := by
  intro z hz
  by_cases e : z = x
  · rw [e, va_up_self]; exact pk_uLs
  · rw [va_up_ne _ _ e, pk_uLn e]
    exact hh z hz e
end MOL
theorem sp_lt16 {a : Int32} : a < 16 ↔ a ≤ 15 := by
  rw [Int32.lt_iff_toInt_lt, Int32.le_iff_toInt_le, show (16 : Int32).toInt = 16 by decide, show (15 : Int32).toInt = 15 by decide]
  omega
end
section
set_option maxHeartbeats 4000000 in
set_option maxRecDepth 100000 in
theorem c_M_isSlot1 (l : Launch) (G : g_G) (w : xw_W) (a : Int32) (ha : (0 ≤ a ∧ a ≤ 15)) : Met l ny_M_isSlot nw_M_isSlot ({ frames := 0, cells := 0, slots := 0, locals := 0 }) (g_Pc G w [.int a]) (g_Qi G (fun v9 w' => v9 = 1 ∧ w' = w)) 0 0 (xw_A (g_b G)) := by
  refine g_met (by decide) (Nat.le_of_ble_eq_true rfl) rfl ?_
  intro p e s m below meth c ls hx hb hr hts hown hlocks hin hml hl hK hB hw hS
  have hT : ∀ w ∈ nw_T, w.before _ s = true := fun w h => hts w (List.mem_cons_of_mem _ h)
  have hown : s.vm.findClass "RadixShelfModel" = some m.cls := hown
  have hl : lv_has ls 1 [(0, .int a)] := hl
  refine lv_iload_n hx hb nd_M_isSlot_0 rfl (lv_at hl 0 rfl) ?_
  refine lv_if_lt (tgt := 14) hx hb nd_M_isSlot_1 (by decide) (fun hc => absurd hc (Int32.not_lt.mpr ha.1)) (fun hc => ?_)
  refine lv_iload_n hx hb nd_M_isSlot_4 rfl (lv_at hl 0 rfl) ?_
  refine lv_bipush (v := 16) hx hb nd_M_isSlot_5 (by decide) ?_
  refine lv_icmp_ge (tgt := 14) hx hb nd_M_isSlot_7 (by decide) (fun hc => absurd (sp_lt16.mpr ha.2) (Int32.not_lt.mpr hc)) (fun hc => ?_)
  refine lv_iconst (v := 1) hx hb nd_M_isSlot_10 (by decide) ?_
  refine lv_goto (tgt := 15) hx hb nd_M_isSlot_11 (by decide) ?_
  exact g_zret hx hb hr rfl hlocks hw hS (⟨rfl, rfl⟩) (by exact Nat.le_of_ble_eq_true rfl) (by exact Nat.le_of_ble_eq_true rfl) nd_M_isSlot_15

set_option maxHeartbeats 4000000 in
set_option maxRecDepth 100000 in
theorem c_M_isSlot0 (l : Launch) (G : g_G) (w : xw_W) (a : Int32) (ha : ¬ (0 ≤ a ∧ a ≤ 15)) : Met l ny_M_isSlot nw_M_isSlot ({ frames := 0, cells := 0, slots := 0, locals := 0 }) (g_Pc G w [.int a]) (g_Qi G (fun v9 w' => v9 = 0 ∧ w' = w)) 0 0 (xw_A (g_b G)) := by
  refine g_met (by decide) (Nat.le_of_ble_eq_true rfl) rfl ?_
  intro p e s m below meth c ls hx hb hr hts hown hlocks hin hml hl hK hB hw hS
  have hT : ∀ w ∈ nw_T, w.before _ s = true := fun w h => hts w (List.mem_cons_of_mem _ h)
  have hown : s.vm.findClass "RadixShelfModel" = some m.cls := hown
  have hl : lv_has ls 1 [(0, .int a)] := hl
  refine lv_iload_n hx hb nd_M_isSlot_0 rfl (lv_at hl 0 rfl) ?_
  refine lv_if_lt (tgt := 14) hx hb nd_M_isSlot_1 (by decide) (fun hc => ?_) (fun hc => ?_)
  · refine lv_iconst (v := 0) hx hb nd_M_isSlot_14 (by decide) ?_
    exact g_zret hx hb hr rfl hlocks hw hS (⟨rfl, rfl⟩) (by exact Nat.le_of_ble_eq_true rfl) (by exact Nat.le_of_ble_eq_true rfl) nd_M_isSlot_15
  · have hc0 := hc
    refine lv_iload_n hx hb nd_M_isSlot_4 rfl (lv_at hl 0 rfl) ?_
    refine lv_bipush (v := 16) hx hb nd_M_isSlot_5 (by decide) ?_
    refine lv_icmp_ge (tgt := 14) hx hb nd_M_isSlot_7 (by decide) (fun hc => ?_) (fun hc => absurd ⟨Int32.not_lt.mp hc0, sp_lt16.mp (Int32.not_le.mp hc)⟩ ha)
    refine lv_iconst (v := 0) hx hb nd_M_isSlot_14 (by decide) ?_
    exact g_zret hx hb hr rfl hlocks hw hS (⟨rfl, rfl⟩) (by exact Nat.le_of_ble_eq_true rfl) (by exact Nat.le_of_ble_eq_true rfl) nd_M_isSlot_15

set_option maxHeartbeats 4000000 in
set_option maxRecDepth 100000 in
theorem c_M_good1 (l : Launch) (G : g_G) (w : xw_W) (mo ra sa : Nat) (ob cd c0 : Int32) (hm : w mo = some (.inr (5, [.ref ra, .ref sa, .int ob, .int cd]))) : Met l ny_M_good nw_M_good ({ frames := 0, cells := 0, slots := 0, locals := 0 }) (g_Pc G w [.ref mo, .int 1, .int c0]) (g_Qi G (fun v9 w' => v9 = 1 ∧ w' = va_up w mo (some (.inr (5, [.ref ra, .ref sa, .int ob, .int 0]))))) 0 0 (xw_A (g_b G)) := by
  refine g_met (by decide) (Nat.le_of_ble_eq_true rfl) rfl ?_
  intro p e s m below meth c ls hx hb hr hts hown hlocks hin hml hl hK hB hw hS
  have hT : ∀ w ∈ nw_T, w.before _ s = true := fun w h => hts w (List.mem_cons_of_mem _ h)
  have hown : s.vm.findClass "RadixShelfModel" = some m.cls := hown
  have hl : lv_has ls 3 [(0, .ref mo), (1, .int 1), (2, .int c0)] := hl
  refine lv_aload_n hx hb nd_M_good_0 rfl (lv_at hl 0 rfl) ?_
  refine lv_iload_n hx hb nd_M_good_1 rfl (lv_at hl 1 rfl) ?_
  refine lv_if_eq (tgt := 9) hx hb nd_M_good_2 (by decide) (fun hc => absurd hc (by decide)) (fun hc => ?_)
  refine lv_iconst (v := 0) hx hb nd_M_good_5 (by decide) ?_
  refine lv_goto (tgt := 10) hx hb nd_M_good_6 (by decide) ?_
  refine xw_put (T := nT_M) (N := 4) (ci := 5) (v := .int 0) (ty := .int) hx hb hT nu_M nt_M nk_M nn_M hown hK.1 hB hw hS hm rfl 3 (by decide) (hT _ nh_fl_M_18) (fun _ h9 => h9) rfl (by decide +kernel) rfl rfl (Nat.le_of_ble_eq_true rfl) nd_M_good_10 (fun H locs hw hS => ?_)
  obtain ⟨w1, ew2⟩ : ∃ z, z = va_up w mo (some (.inr (5, [.ref ra, .ref sa, .int ob, .int 0]))) := ⟨_, rfl⟩
  have hw : g_P G w1 H := by rw [ew2]; exact hw
  have hm : w1 mo = some (.inr (5, [.ref ra, .ref sa, .int ob, .int 0])) := by rw [ew2]; exact va_up_self _ _ _
  refine lv_iload_n hx hb nd_M_good_13 rfl (lv_at hl 1 rfl) ?_
  exact g_zret hx hb hr rfl hlocks hw hS (⟨rfl, ew2⟩) (by exact Nat.le_of_ble_eq_true rfl) (by exact Nat.le_of_ble_eq_true rfl) nd_M_good_14

set_option maxHeartbeats 4000000 in
set_option maxRecDepth 100000 in
theorem c_M_good0 (l : Launch) (G : g_G) (w : xw_W) (mo ra sa : Nat) (ob cd c0 : Int32) (hm : w mo = some (.inr (5, [.ref ra, .ref sa, .int ob, .int cd]))) : Met l ny_M_good nw_M_good ({ frames := 0, cells := 0, slots := 0, locals := 0 }) (g_Pc G w [.ref mo, .int 0, .int c0]) (g_Qi G (fun v9 w' => v9 = 0 ∧ w' = va_up w mo (some (.inr (5, [.ref ra, .ref sa, .int ob, .int c0]))))) 0 0 (xw_A (g_b G)) := by
  refine g_met (by decide) (Nat.le_of_ble_eq_true rfl) rfl ?_
  intro p e s m below meth c ls hx hb hr hts hown hlocks hin hml hl hK hB hw hS
  have hT : ∀ w ∈ nw_T, w.before _ s = true := fun w h => hts w (List.mem_cons_of_mem _ h)
  have hown : s.vm.findClass "RadixShelfModel" = some m.cls := hown
  have hl : lv_has ls 3 [(0, .ref mo), (1, .int 0), (2, .int c0)] := hl
  refine lv_aload_n hx hb nd_M_good_0 rfl (lv_at hl 0 rfl) ?_
  refine lv_iload_n hx hb nd_M_good_1 rfl (lv_at hl 1 rfl) ?_
  refine lv_if_eq (tgt := 9) hx hb nd_M_good_2 (by decide) (fun hc => ?_) (fun hc => absurd rfl hc)
  refine lv_iload_n hx hb nd_M_good_9 rfl (lv_at hl 2 rfl) ?_
  refine xw_put (T := nT_M) (N := 4) (ci := 5) (v := .int c0) (ty := .int) hx hb hT nu_M nt_M nk_M nn_M hown hK.1 hB hw hS hm rfl 3 (by decide) (hT _ nh_fl_M_18) (fun _ h9 => h9) rfl (by decide +kernel) rfl rfl (Nat.le_of_ble_eq_true rfl) nd_M_good_10 (fun H locs hw hS => ?_)
  obtain ⟨w1, ew2⟩ : ∃ z, z = va_up w mo (some (.inr (5, [.ref ra, .ref sa, .int ob, .int c0]))) := ⟨_, rfl⟩
  have hw : g_P G w1 H := by rw [ew2]; exact hw
  have hm : w1 mo = some (.inr (5, [.ref ra, .ref sa, .int ob, .int c0])) := by rw [ew2]; exact va_up_self _ _ _
  refine lv_iload_n hx hb nd_M_good_13 rfl (lv_at hl 1 rfl) ?_
  exact g_zret hx hb hr rfl hlocks hw hS (⟨rfl, ew2⟩) (by exact Nat.le_of_ble_eq_true rfl) (by exact Nat.le_of_ble_eq_true rfl) nd_M_good_14

set_option maxHeartbeats 4000000 in
set_option maxRecDepth 100000 in
theorem c_M_thrown (l : Launch) (G : g_G) (w : xw_W) (mo ra sa : Nat) (ob cd : Int32) (hm : w mo = some (.inr (5, [.ref ra, .ref sa, .int ob, .int cd]))) : Met l ny_M_thrown nw_M_thrown ({ frames := 0, cells := 0, slots := 0, locals := 0 }) (g_Pc G w [.ref mo]) (g_Qi G (fun v9 w' => v9 = cd ∧ w' = w)) 0 0 (xw_A (g_b G)) := by
  refine g_met (by decide) (Nat.le_of_ble_eq_true rfl) rfl ?_
  intro p e s m below meth c ls hx hb hr hts hown hlocks hin hml hl hK hB hw hS
  have hT : ∀ w ∈ nw_T, w.before _ s = true := fun w h => hts w (List.mem_cons_of_mem _ h)
  have hown : s.vm.findClass "RadixShelfModel" = some m.cls := hown
  have hl : lv_has ls 1 [(0, .ref mo)] := hl
  refine lv_aload_n hx hb nd_M_thrown_0 rfl (lv_at hl 0 rfl) ?_
  refine xw_get (T := nT_M) (N := 4) (ci := 5) hx hb hT nu_M hown hK.1 hw hm rfl 3 (by decide) (hT _ nh_fl_M_18) (fun _ h9 => h9) rfl nd_M_thrown_1 ?_
  exact g_iret hx hb hr hlocks hw hS (⟨rfl, rfl⟩) (by exact Nat.le_of_ble_eq_true rfl) (by exact Nat.le_of_ble_eq_true rfl) nd_M_thrown_4

theorem va_up_same {α : Type} (f : Nat → α) (k : Nat) : va_up f k (f k) = f := by
  funext x
  by_cases hx : x = k
  · rw [hx, va_up_self]
  · rw [va_up_ne _ _ hx]

set_option maxHeartbeats 4000000 in
set_option maxRecDepth 100000 in
theorem c_M_copy (l : Launch) (G : g_G) (w : xw_W) (mo ra sa : Nat) (rr : Nat → Nat) (op : Bool) (sz : Nat → Nat) (f : Nat → Nat → Int64) (cd : Int32) (a b : Nat) (hba : a < 17) (hbb : b < 17) (hJ : mo_J G w mo ra sa rr op sz f cd) : Met l ny_M_copy nw_M_copy ({ frames := 0, cells := 0, slots := 0, locals := 0 }) (g_Pc G w [.ref mo, .int (nI a), .int (nI b)]) (g_Qv G (fun w' => ∃ h : Nat → Int64, mo_J G w' mo ra sa rr op (va_up sz a (sz b)) (va_up f a h) cd ∧ (∀ z, z < sz b → h z = f b z) ∧ mo_F mo sa rr w w')) 0 0 (xw_A (g_b G)) := by
  refine g_met (by decide) (Nat.le_of_ble_eq_true rfl) rfl ?_
  intro p e s m below meth c ls hx hb hr hts hown hlocks hin hml hl hK hB hw hS
  have hT : ∀ w ∈ nw_T, w.before _ s = true := fun w h => hts w (List.mem_cons_of_mem _ h)
  have hown : s.vm.findClass "RadixShelfModel" = some m.cls := hown
  have hl : lv_has ls 4 [(0, .ref mo), (1, .int (nI a)), (2, .int (nI b))] := hl
  have hb3 : sz b ≤ 3000 := (hJ.2.2.2.1 b hbb).1
  refine lv_iconst (v := 0) hx hb nd_M_copy_0 (by decide) ?_
  refine lv_istore_n hx hb nd_M_copy_1 rfl hl (by decide) (lv' := [(3, .int 0), (0, .ref mo), (1, .int (nI a)), (2, .int (nI b))]) rfl (fun ls hl => ?_)
  have loop : ∀ (m9 i : Nat) (h : Nat → Int64) (wl : xw_W) (ls : Array Slot) (H : Heap) (locs : List Loc), m9 + i = sz b → mo_J G wl mo ra sa rr op sz (va_up f a h) cd → mo_F mo sa rr w wl → (∀ z, z < i → h z = f b z) → (a = b → ∀ z, h z = f b z) → lv_has ls 4 [(3, .int (nI i)), (0, .ref mo), (1, .int (nI a)), (2, .int (nI b))] → g_P G wl H → g_S G s.heap H locs → W p l e ({ frames := 0, cells := 0, slots := 0, locals := 0 }) s m [.ref mo, .int (nI a), .int (nI b)].toArray below meth c H locs (0) (0) (MQ below (g_Qv G (fun w' => ∃ h : Nat → Int64, mo_J G w' mo ra sa rr op (va_up sz a (sz b)) (va_up f a h) cd ∧ (∀ z, z < sz b → h z = f b z) ∧ mo_F mo sa rr w w')) [.ref mo, .int (nI a), .int (nI b)].toArray s 0 0 (xw_A (g_b G))) (F0 m 2 ls []) := by
    intro m9
    induction m9 with
    | zero =>
      intro i h wl ls H locs hmi hJ hF hh1 hh2 hl hw hS
      obtain ⟨hm, ⟨g, hra, hg⟩, ⟨fs, hsa, hfs⟩, hrow, hinj⟩ := id hJ
      refine lv_iload_n hx hb nd_M_copy_2 rfl (lv_at hl 0 rfl) ?_
      refine lv_aload_n hx hb nd_M_copy_3 rfl (lv_at hl 1 rfl) ?_
      refine xw_get (T := nT_M) (N := 4) (ci := 5) hx hb hT nu_M hown hK.1 hw hm rfl 1 (by decide) (hT _ nh_fl_M_14) (fun _ h9 => h9) rfl nd_M_copy_4 ?_
      refine lv_iload_n hx hb nd_M_copy_7 rfl (lv_at hl 3 rfl) ?_
      refine xw_iald hx hb hK.1 hw 4 hsa rfl (vp_in_nI (by omega) (by decide)) nd_M_copy_8 ?_
      refine lv_topi (fun y1 ey2 => ?_)
      obtain rfl : y1 = nI (sz b) := ey2.trans (by rw [nI_clamp (by omega)]; exact hfs _ hbb)
      refine lv_icmp_ge (tgt := 34) hx hb nd_M_copy_9 (by decide) (fun hc => ?_) (fun hc => ?_)
      · refine lv_aload_n hx hb nd_M_copy_34 rfl (lv_at hl 1 rfl) ?_
        refine xw_get (T := nT_M) (N := 4) (ci := 5) hx hb hT nu_M hown hK.1 hw hm rfl 1 (by decide) (hT _ nh_fl_M_14) (fun _ h9 => h9) rfl nd_M_copy_35 ?_
        refine lv_iload_n hx hb nd_M_copy_38 rfl (lv_at hl 2 rfl) ?_
        refine lv_aload_n hx hb nd_M_copy_39 rfl (lv_at hl 1 rfl) ?_
        refine xw_get (T := nT_M) (N := 4) (ci := 5) hx hb hT nu_M hown hK.1 hw hm rfl 1 (by decide) (hT _ nh_fl_M_14) (fun _ h9 => h9) rfl nd_M_copy_40 ?_
        refine lv_iload_n hx hb nd_M_copy_43 rfl (lv_at hl 3 rfl) ?_
        refine xw_iald hx hb hK.1 hw 4 hsa rfl (vp_in_nI (by omega) (by decide)) nd_M_copy_44 ?_
        refine lv_topi (fun y3 ey4 => ?_)
        obtain rfl : y3 = nI (sz b) := ey4.trans (by rw [nI_clamp (by omega)]; exact hfs _ hbb)
        have hsa0 := hsa
        refine xw_iast hx hb hK.1 hB hw hS 4 hsa rfl (vp_in_nI (by omega) (by decide)) nd_M_copy_45 (fun H locs hw hS => ?_)
        rw [nI_clamp (by omega)] at hw
        obtain ⟨w5, ew6⟩ : ∃ z, z = va_up wl sa (some (.inl (G.2.1 4, 17, .inl (upd fs a (nI (sz b)))))) := ⟨_, rfl⟩
        have hw : g_P G w5 H := by rw [ew6]; exact hw
        have hm : w5 mo = some (.inr (5, [.ref ra, .ref sa, .int (mo_b op), .int cd])) := by rw [ew6, va_up_ne _ _ (xw_ne hm hsa (by simp))]; exact hm
        have hsa : w5 sa = some (.inl (G.2.1 4, 17, .inl (upd fs a (nI (sz b))))) := by rw [ew6]; exact va_up_self _ _ _
        obtain ⟨hJ2, hF2⟩ := mo_siz hJ hba hb3 hsa0 ew6
        exact g_vret hx hb hr hlocks hw hS (⟨h, hJ2, fun z hz => hh1 z (by omega), hF.tr hF2⟩) (by exact Nat.le_of_ble_eq_true rfl) (by exact Nat.le_of_ble_eq_true rfl) nd_M_copy_46
      · exact absurd (nI_le (by omega) (by omega)) hc
    | succ m9 ih =>
      intro i h wl ls H locs hmi hJ hF hh1 hh2 hl hw hS
      obtain ⟨hm, ⟨g, hra, hg⟩, ⟨fs, hsa, hfs⟩, hrow, hinj⟩ := id hJ
      refine lv_iload_n hx hb nd_M_copy_2 rfl (lv_at hl 0 rfl) ?_
      refine lv_aload_n hx hb nd_M_copy_3 rfl (lv_at hl 1 rfl) ?_
      refine xw_get (T := nT_M) (N := 4) (ci := 5) hx hb hT nu_M hown hK.1 hw hm rfl 1 (by decide) (hT _ nh_fl_M_14) (fun _ h9 => h9) rfl nd_M_copy_4 ?_
      refine lv_iload_n hx hb nd_M_copy_7 rfl (lv_at hl 3 rfl) ?_
      refine xw_iald hx hb hK.1 hw 4 hsa rfl (vp_in_nI (by omega) (by decide)) nd_M_copy_8 ?_
      refine lv_topi (fun y1 ey2 => ?_)
      obtain rfl : y1 = nI (sz b) := ey2.trans (by rw [nI_clamp (by omega)]; exact hfs _ hbb)
      refine lv_icmp_ge (tgt := 34) hx hb nd_M_copy_9 (by decide) (fun hc => ?_) (fun hc => ?_)
      · exact absurd hc (nI_ge (by omega) (by omega))
      · refine lv_aload_n hx hb nd_M_copy_12 rfl (lv_at hl 1 rfl) ?_
        refine xw_get (T := nT_M) (N := 4) (ci := 5) hx hb hT nu_M hown hK.1 hw hm rfl 0 (by decide) (hT _ nh_fl_M_11) (fun _ h9 => h9) rfl nd_M_copy_13 ?_
        refine lv_iload_n hx hb nd_M_copy_16 rfl (lv_at hl 2 rfl) ?_
        refine xw_aaldA (y := (rr a)) hx hb hK.1 hw 5 hra rfl (vp_in_nI (by omega) (by decide)) (by rw [nI_clamp (by omega)]; exact hg _ hba) nd_M_copy_17 ?_
        have hr_a := (hrow a hba).2
        refine lv_iload_n hx hb nd_M_copy_18 rfl (lv_at hl 0 rfl) ?_
        refine lv_aload_n hx hb nd_M_copy_19 rfl (lv_at hl 1 rfl) ?_
        refine xw_get (T := nT_M) (N := 4) (ci := 5) hx hb hT nu_M hown hK.1 hw hm rfl 0 (by decide) (hT _ nh_fl_M_11) (fun _ h9 => h9) rfl nd_M_copy_20 ?_
        refine lv_iload_n hx hb nd_M_copy_23 rfl (lv_at hl 3 rfl) ?_
        refine xw_aaldA (y := (rr b)) hx hb hK.1 hw 5 hra rfl (vp_in_nI (by omega) (by decide)) (by rw [nI_clamp (by omega)]; exact hg _ hbb) nd_M_copy_24 ?_
        have hr_b := (hrow b hbb).2
        refine lv_iload_n hx hb nd_M_copy_25 rfl (lv_at hl 0 rfl) ?_
        refine xw_lald hx hb hK.1 hw 0 hr_b rfl (vp_in_nI (by omega) (by decide)) nd_M_copy_26 ?_
        have hval : va_up f a h b i = f b i := by
          by_cases e9 : a = b
          · rw [← e9, va_up_self, e9]; exact hh2 e9 i
          · rw [va_up_ne _ _ (Ne.symm e9)]
        refine lv_topl (fun y3 ey4 => ?_)
        obtain rfl : y3 = f b i := ey4.trans (by rw [nI_clamp (by omega)]; exact hval)
        refine xw_last hx hb hK.1 hB hw hS 0 hr_a rfl (vp_in_nI (by omega) (by decide)) nd_M_copy_27 (fun H locs hw hS => ?_)
        rw [nI_clamp (by omega)] at hw
        obtain ⟨w5, ew6⟩ : ∃ z, z = va_up wl (rr a) (some (.inl (G.2.1 0, 3000, .inr (.inl (vp_updL (va_up f a h a) i (f b i)))))) := ⟨_, rfl⟩
        have hw : g_P G w5 H := by rw [ew6]; exact hw
        have hm : w5 mo = some (.inr (5, [.ref ra, .ref sa, .int (mo_b op), .int cd])) := by rw [ew6, va_up_ne _ _ (xw_ne hm hr_a (by simp))]; exact hm
        have hr_a : w5 (rr a) = some (.inl (G.2.1 0, 3000, .inr (.inl (vp_updL (va_up f a h a) i (f b i))))) := by rw [ew6]; exact va_up_self _ _ _
        obtain ⟨hJ2, hF2⟩ := mo_row hJ hba ew6
        rw [bx_uu, va_up_self] at hJ2
        refine lv_iinc (k := 0) hx hb nd_M_copy_28 hl rfl rfl (by decide) (lv' := [(3, .int ((nI i) + 1)), (0, .ref mo), (1, .int (nI a)), (2, .int (nI b))]) rfl (fun ls hl => ?_)
        rw [nI_1] at hl
        refine lv_goto (tgt := 2) hx hb nd_M_copy_31 (by decide) ?_
        refine ih (i + 1) (vp_updL h i (f b i)) w5 ls H locs (by omega) hJ2 (hF.tr hF2) (fun z hz => ?_) (fun e9 z => ?_) hl hw hS
        · by_cases ez : z = i
          · rw [ez]; exact pk_uLs
          · rw [pk_uLn ez]; exact hh1 z (by omega)
        · by_cases ez : z = i
          · rw [ez]; exact pk_uLs
          · rw [pk_uLn ez]; exact hh2 e9 z
  exact loop (sz b) 0 (f a) w ls s.heap [] (by omega) (by rw [va_up_same]; exact hJ) mo_F.rf (fun z hz => absurd hz (by omega)) (fun e9 z => by rw [e9]) hl hw hS
end
section
theorem sp_slh {i : Nat} (h : i < 16) : 0 ≤ nI i ∧ nI i ≤ 15 := ⟨nI_pos' (by omega), nI_le (b := 15) (by omega) (by omega)⟩
theorem nI_m1 (n : Nat) : nI (n + 1) + (-1) = nI n := by rw [← Int32.sub_eq_add_neg, nI_pred]

set_option maxHeartbeats 4000000 in
set_option maxRecDepth 100000 in
theorem c_M_add (l : Launch) (G : g_G) (w : xw_W) (mo ra sa : Nat) (rr : Nat → Nat) (S : sp_S) (cd : Int32) (hI : mo_I G w mo ra sa rr S cd) (a b : Int32) (v : Int64) : Met l ny_M_add nw_M_add ({ frames := 1, cells := 0, slots := 0, locals := 30 }) (g_Pc G w [.ref mo, .int a, .int b, .long v]) (g_Qi G (fun v9 w' => mo_Post G w mo ra sa rr (sp_add S a b v) v9.toInt64 w')) 0 0 (xw_A (g_b G)) := by
  refine g_met (by decide) (Nat.le_of_ble_eq_true rfl) rfl ?_
  intro p e s m below meth c ls hx hb hr hts hown hlocks hin hml hl hK hB hw hS
  have hT : ∀ w ∈ nw_T, w.before _ s = true := fun w h => hts w (List.mem_cons_of_mem _ h)
  have hown : s.vm.findClass "RadixShelfModel" = some m.cls := hown
  have hl : lv_has ls 5 [(0, .ref mo), (1, .int a), (2, .int b), (3, .long v)] := hl
  obtain ⟨op, sz, vs⟩ := S
  obtain ⟨f, hJ9, hv9⟩ := hI
  have hJ : mo_J G w mo ra sa rr op sz f cd := hJ9
  have hv : ∀ k, k < 17 → ∀ z, z < sz k → f k z = vs k z := hv9
  clear hJ9 hv9
  have hF0 : mo_F mo sa rr w w := mo_F.rf
  obtain ⟨hm, ⟨g, hra, hg⟩, ⟨fs, hsa, hfs⟩, hrow, hinj⟩ := id hJ
  by_cases ha : 0 ≤ a ∧ a ≤ 15
  · obtain ⟨i, hi, rfl⟩ := sp_sl_of ha
    by_cases hb9 : 0 ≤ b ∧ b ≤ 15
    · refine lv_aload_n hx hb nd_M_add_0 rfl (lv_at hl 0 rfl) ?_
      refine lv_iload_n hx hb nd_M_add_1 rfl (lv_at hl 1 rfl) ?_
      refine g_calli (va_runS (As := [.int (nI i)]) (rest := [.ref mo]) ⟨hx, hb, hml, hown, hts⟩ (c_M_isSlot1 l G w (nI i) (sp_slh hi)) (cwS 1 hts (nw_of (nw_3 nh_ml_M_22 nh_st_M_isSlot nh_in_M nh_co_M_isSlot)) rfl rfl rfl (by decide +kernel) ⟨Nat.le_of_ble_eq_true rfl, Nat.le_of_ble_eq_true rfl⟩) (g_preS hK hw hS _) rfl rfl hl.1 rfl (lv_room (Nat.le_of_ble_eq_true rfl)) nd_M_add_2 ⟨by exact Nat.le_of_ble_eq_true rfl, by exact Nat.le_of_ble_eq_true rfl⟩) hS (fun v9 w1 H locs hp hw hS => ?_)
      obtain ⟨rfl, hw9⟩ := hp
      rw [hw9] at hw
      refine lv_if_eq (tgt := 19) hx hb nd_M_add_5 (by decide) (fun hc => absurd hc (by decide)) (fun hc => ?_)
      obtain ⟨j, hj, rfl⟩ := sp_sl_of hb9
      refine lv_iload_n hx hb nd_M_add_8 rfl (lv_at hl 2 rfl) ?_
      refine g_calli (va_runS (As := [.int (nI j)]) (rest := [.ref mo]) ⟨hx, hb, hml, hown, hts⟩ (c_M_isSlot1 l G w (nI j) (sp_slh hj)) (cwS 1 hts (nw_of (nw_3 nh_ml_M_22 nh_st_M_isSlot nh_in_M nh_co_M_isSlot)) rfl rfl rfl (by decide +kernel) ⟨Nat.le_of_ble_eq_true rfl, Nat.le_of_ble_eq_true rfl⟩) (g_preS hK hw hS _) rfl rfl hl.1 rfl (lv_room (Nat.le_of_ble_eq_true rfl)) nd_M_add_9 ⟨by exact Nat.le_of_ble_eq_true rfl, by exact Nat.le_of_ble_eq_true rfl⟩) hS (fun v9 w2 H locs hp hw hS => ?_)
      obtain ⟨rfl, hw9⟩ := hp
      rw [hw9] at hw
      refine lv_if_eq (tgt := 19) hx hb nd_M_add_12 (by decide) (fun hc => absurd hc (by decide)) (fun hc => ?_)
      refine lv_iconst (v := 1) hx hb nd_M_add_15 (by decide) ?_
      refine lv_goto (tgt := 20) hx hb nd_M_add_16 (by decide) ?_
      refine lv_iconst (v := 1) hx hb nd_M_add_20 (by decide) ?_
      refine g_calli (va_runV (As := [.int 1, .int 1]) (rest := []) ⟨hx, hb, hml, hown, hts⟩ (c_M_good1 l G w mo ra sa (mo_b op) cd 1 hm) (cwV (C := nR_M) 2 hts (nw_of (nw_4 nh_ml_M_26 nh_im_M_good nh_se_M_good nh_in_M nh_co_M_good)) rfl rfl rfl (by decide +kernel) ⟨Nat.le_of_ble_eq_true rfl, Nat.le_of_ble_eq_true rfl⟩) (g_preV (ci := 5) (q := (nR_M, nT_M, 4)) hK hw hS rfl hm _) rfl rfl hl.1 rfl (lv_room (Nat.le_of_ble_eq_true rfl)) nd_M_add_21 ⟨by exact Nat.le_of_ble_eq_true rfl, by exact Nat.le_of_ble_eq_true rfl⟩) hS (fun v9 w3 H locs hp hw hS => ?_)
      obtain ⟨rfl, e9⟩ := hp
      obtain ⟨hJ, hF9⟩ := mo_cod hJ e9
      have hF0 := hF0.tr hF9
      obtain ⟨hm, ⟨g, hra, hg⟩, ⟨fs, hsa, hfs⟩, hrow, hinj⟩ := id hJ
      refine lv_if_eq (tgt := 52) hx hb nd_M_add_24 (by decide) (fun hc => absurd hc (by decide)) (fun hc => ?_)
      have hj3 : sz j ≤ 3000 := (hrow j (by omega)).1
      refine lv_aload_n hx hb nd_M_add_27 rfl (lv_at hl 0 rfl) ?_
      refine lv_aload_n hx hb nd_M_add_28 rfl (lv_at hl 0 rfl) ?_
      refine xw_get (T := nT_M) (N := 4) (ci := 5) hx hb hT nu_M hown hK.1 hw hm rfl 1 (by decide) (hT _ nh_fl_M_14) (fun _ h9 => h9) rfl nd_M_add_29 ?_
      refine lv_iload_n hx hb nd_M_add_32 rfl (lv_at hl 2 rfl) ?_
      refine xw_iald hx hb hK.1 hw 4 hsa rfl (vp_in_nI (by omega) (by decide)) nd_M_add_33 ?_
      refine lv_topi (fun y4 ey5 => ?_)
      obtain rfl : y4 = nI (sz j) := ey5.trans (by rw [nI_clamp (by omega)]; exact hfs _ (by omega))
      refine lv_sipush (v := 3000) hx hb nd_M_add_34 (by decide) ?_
      refine lv_icmp_ge (tgt := 44) hx hb nd_M_add_37 (by decide) (fun hc => ?_) (fun hc => ?_)
      · have hs : ¬ sz j < 3000 := fun z => absurd (Int32.not_le.mpr (nI_lt (b := 3000) z (by omega))) (fun z2 => z2 hc)
        refine lv_iconst (v := 0) hx hb nd_M_add_44 (by decide) ?_
        refine lv_iconst (v := 2) hx hb nd_M_add_45 (by decide) ?_
        refine g_calli (va_runV (As := [.int 0, .int 2]) (rest := []) ⟨hx, hb, hml, hown, hts⟩ (c_M_good0 l G w3 mo ra sa (mo_b op) 0 2 hm) (cwV (C := nR_M) 2 hts (nw_of (nw_4 nh_ml_M_26 nh_im_M_good nh_se_M_good nh_in_M nh_co_M_good)) rfl rfl rfl (by decide +kernel) ⟨Nat.le_of_ble_eq_true rfl, Nat.le_of_ble_eq_true rfl⟩) (g_preV (ci := 5) (q := (nR_M, nT_M, 4)) hK hw hS rfl hm _) rfl rfl hl.1 rfl (lv_room (Nat.le_of_ble_eq_true rfl)) nd_M_add_46 ⟨by exact Nat.le_of_ble_eq_true rfl, by exact Nat.le_of_ble_eq_true rfl⟩) hS (fun v9 w6 H locs hp hw hS => ?_)
        obtain ⟨rfl, e9⟩ := hp
        obtain ⟨hJ, hF9⟩ := mo_cod hJ e9
        have hF0 := hF0.tr hF9
        obtain ⟨hm, ⟨g, hra, hg⟩, ⟨fs, hsa, hfs⟩, hrow, hinj⟩ := id hJ
        refine lv_if_ne (tgt := 54) hx hb nd_M_add_49 (by decide) (fun hc => absurd rfl hc) (fun hc => ?_)
        refine lv_iconst (v := 0) hx hb nd_M_add_52 (by decide) ?_
        exact g_iret hx hb hr hlocks hw hS (by rw [sp_add_2 hi hj hs]; exact ⟨⟨_, hJ, hv⟩, rfl, hF0⟩) (by exact Nat.le_of_ble_eq_true rfl) (by exact Nat.le_of_ble_eq_true rfl) nd_M_add_53
      · have hs : sz j < 3000 := (nI_ltI (b := 3000) (by omega) (by omega)).mp (Int32.not_le.mp hc)
        refine lv_iconst (v := 1) hx hb nd_M_add_40 (by decide) ?_
        refine lv_goto (tgt := 45) hx hb nd_M_add_41 (by decide) ?_
        refine lv_iconst (v := 2) hx hb nd_M_add_45 (by decide) ?_
        refine g_calli (va_runV (As := [.int 1, .int 2]) (rest := []) ⟨hx, hb, hml, hown, hts⟩ (c_M_good1 l G w3 mo ra sa (mo_b op) 0 2 hm) (cwV (C := nR_M) 2 hts (nw_of (nw_4 nh_ml_M_26 nh_im_M_good nh_se_M_good nh_in_M nh_co_M_good)) rfl rfl rfl (by decide +kernel) ⟨Nat.le_of_ble_eq_true rfl, Nat.le_of_ble_eq_true rfl⟩) (g_preV (ci := 5) (q := (nR_M, nT_M, 4)) hK hw hS rfl hm _) rfl rfl hl.1 rfl (lv_room (Nat.le_of_ble_eq_true rfl)) nd_M_add_46 ⟨by exact Nat.le_of_ble_eq_true rfl, by exact Nat.le_of_ble_eq_true rfl⟩) hS (fun v9 w6 H locs hp hw hS => ?_)
        obtain ⟨rfl, e9⟩ := hp
        obtain ⟨hJ, hF9⟩ := mo_cod hJ e9
        have hF0 := hF0.tr hF9
        obtain ⟨hm, ⟨g, hra, hg⟩, ⟨fs, hsa, hfs⟩, hrow, hinj⟩ := id hJ
        refine lv_if_ne (tgt := 54) hx hb nd_M_add_49 (by decide) (fun hc => ?_) (fun hc => absurd hc (by decide))
        refine lv_aload_n hx hb nd_M_add_54 rfl (lv_at hl 0 rfl) ?_
        refine lv_iload_n hx hb nd_M_add_55 rfl (lv_at hl 1 rfl) ?_
        refine lv_iload_n hx hb nd_M_add_56 rfl (lv_at hl 2 rfl) ?_
        refine g_callv (va_runV (As := [.int (nI i), .int (nI j)]) (rest := []) ⟨hx, hb, hml, hown, hts⟩ (c_M_copy l G w6 mo ra sa rr op sz f 0 i j (by omega) (by omega) hJ) (cwV (C := nR_M) 2 hts (nw_of (nw_4 nh_ml_M_30 nh_im_M_copy nh_se_M_copy nh_in_M nh_co_M_copy)) rfl rfl rfl (by decide +kernel) ⟨Nat.le_of_ble_eq_true rfl, Nat.le_of_ble_eq_true rfl⟩) (g_preV (ci := 5) (q := (nR_M, nT_M, 4)) hK hw hS rfl hm _) rfl rfl hl.1 rfl (lv_room (Nat.le_of_ble_eq_true rfl)) nd_M_add_57 ⟨by exact Nat.le_of_ble_eq_true rfl, by exact Nat.le_of_ble_eq_true rfl⟩) hS (fun w7 H locs hp hw hS => ?_)
        obtain ⟨h, hJ, hh, hF9⟩ := hp
        have hF0 := hF0.tr hF9
        obtain ⟨hm, ⟨g, hra, hg⟩, ⟨fs, hsa, hfs⟩, hrow, hinj⟩ := id hJ
        refine lv_aload_n hx hb nd_M_add_60 rfl (lv_at hl 0 rfl) ?_
        refine xw_get (T := nT_M) (N := 4) (ci := 5) hx hb hT nu_M hown hK.1 hw hm rfl 0 (by decide) (hT _ nh_fl_M_11) (fun _ h9 => h9) rfl nd_M_add_61 ?_
        refine lv_iload_n hx hb nd_M_add_64 rfl (lv_at hl 1 rfl) ?_
        refine xw_aaldA (y := (rr i)) hx hb hK.1 hw 5 hra rfl (vp_in_nI (by omega) (by decide)) (by rw [nI_clamp (by omega)]; exact hg _ (by omega)) nd_M_add_65 ?_
        have hr_i := (hrow i (by omega)).2
        refine lv_aload_n hx hb nd_M_add_66 rfl (lv_at hl 0 rfl) ?_
        refine xw_get (T := nT_M) (N := 4) (ci := 5) hx hb hT nu_M hown hK.1 hw hm rfl 1 (by decide) (hT _ nh_fl_M_14) (fun _ h9 => h9) rfl nd_M_add_67 ?_
        refine lv_iload_n hx hb nd_M_add_70 rfl (lv_at hl 1 rfl) ?_
        refine xw_iald hx hb hK.1 hw 4 hsa rfl (vp_in_nI (by omega) (by decide)) nd_M_add_71 ?_
        refine lv_topi (fun y8 ey9 => ?_)
        obtain rfl : y8 = nI (sz j) := ey9.trans (by rw [nI_clamp (by omega)]; rw [hfs _ (by omega), va_up_self])
        refine lv_lload_n hx hb nd_M_add_72 rfl (lv_at hl 3 rfl) ?_
        refine xw_last hx hb hK.1 hB hw hS 0 hr_i rfl (vp_in_nI (by omega) (by decide)) nd_M_add_73 (fun H locs hw hS => ?_)
        rw [nI_clamp (by omega)] at hw
        obtain ⟨w10, ew11⟩ : ∃ z, z = va_up w7 (rr i) (some (.inl (G.2.1 0, 3000, .inr (.inl (vp_updL (va_up f i h i) (sz j) v))))) := ⟨_, rfl⟩
        have hw : g_P G w10 H := by rw [ew11]; exact hw
        have hm : w10 mo = some (.inr (5, [.ref ra, .ref sa, .int (mo_b op), .int 0])) := by rw [ew11, va_up_ne _ _ (xw_ne hm hr_i (by simp))]; exact hm
        have hr_i : w10 (rr i) = some (.inl (G.2.1 0, 3000, .inr (.inl (vp_updL (va_up f i h i) (sz j) v)))) := by rw [ew11]; exact va_up_self _ _ _
        obtain ⟨hJ, hF9⟩ := mo_row hJ (by omega) ew11
        have hF0 := hF0.tr hF9
        rw [bx_uu, va_up_self] at hJ
        obtain ⟨hm, ⟨g, hra, hg⟩, ⟨fs, hsa, hfs⟩, hrow, hinj⟩ := id hJ
        refine lv_aload_n hx hb nd_M_add_74 rfl (lv_at hl 0 rfl) ?_
        refine xw_get (T := nT_M) (N := 4) (ci := 5) hx hb hT nu_M hown hK.1 hw hm rfl 1 (by decide) (hT _ nh_fl_M_14) (fun _ h9 => h9) rfl nd_M_add_75 ?_
        refine lv_iload_n hx hb nd_M_add_78 rfl (lv_at hl 1 rfl) ?_
        refine lv_dup2_11 hx hb nd_M_add_79 rfl rfl ?_
        refine xw_iald hx hb hK.1 hw 4 hsa rfl (vp_in_nI (by omega) (by decide)) nd_M_add_80 ?_
        refine lv_topi (fun y12 ey13 => ?_)
        obtain rfl : y12 = nI (sz j) := ey13.trans (by rw [nI_clamp (by omega)]; rw [hfs _ (by omega), va_up_self])
        refine lv_iconst (v := 1) hx hb nd_M_add_81 (by decide) ?_
        refine lv_iadd hx hb nd_M_add_82 ?_
        refine lv_topi (fun y14 ey15 => ?_)
        obtain rfl : y14 = nI (sz j + 1) := ey15.trans (nI_1 _)
        have hsa0 := hsa
        refine xw_iast hx hb hK.1 hB hw hS 4 hsa rfl (vp_in_nI (by omega) (by decide)) nd_M_add_83 (fun H locs hw hS => ?_)
        rw [nI_clamp (by omega)] at hw
        obtain ⟨w16, ew17⟩ : ∃ z, z = va_up w10 sa (some (.inl (G.2.1 4, 17, .inl (upd fs i (nI (sz j + 1)))))) := ⟨_, rfl⟩
        have hw : g_P G w16 H := by rw [ew17]; exact hw
        have hm : w16 mo = some (.inr (5, [.ref ra, .ref sa, .int (mo_b op), .int 0])) := by rw [ew17, va_up_ne _ _ (xw_ne hm hsa (by simp))]; exact hm
        have hsa : w16 sa = some (.inl (G.2.1 4, 17, .inl (upd fs i (nI (sz j + 1))))) := by rw [ew17]; exact va_up_self _ _ _
        obtain ⟨hJ, hF9⟩ := mo_siz hJ (by omega) (by omega) hsa0 ew17
        have hF0 := hF0.tr hF9
        rw [bx_uu] at hJ
        obtain ⟨hm, ⟨g, hra, hg⟩, ⟨fs, hsa, hfs⟩, hrow, hinj⟩ := id hJ
        refine lv_aload_n hx hb nd_M_add_84 rfl (lv_at hl 0 rfl) ?_
        refine xw_get (T := nT_M) (N := 4) (ci := 5) hx hb hT nu_M hown hK.1 hw hm rfl 1 (by decide) (hT _ nh_fl_M_14) (fun _ h9 => h9) rfl nd_M_add_85 ?_
        refine lv_iload_n hx hb nd_M_add_88 rfl (lv_at hl 1 rfl) ?_
        refine xw_iald hx hb hK.1 hw 4 hsa rfl (vp_in_nI (by omega) (by decide)) nd_M_add_89 ?_
        refine lv_topi (fun y18 ey19 => ?_)
        obtain rfl : y18 = nI (sz j + 1) := ey19.trans (by rw [nI_clamp (by omega)]; rw [hfs _ (by omega), va_up_self])
        exact g_iret hx hb hr hlocks hw hS (by rw [sp_add_0 hi hj hs]; exact ⟨⟨_, hJ, mo_fin hv (mo_upd (fun z hz hne => (hh z (by omega)).trans (hv j (by omega) z (by omega))))⟩, rfl, hF0⟩) (by exact Nat.le_of_ble_eq_true rfl) (by exact Nat.le_of_ble_eq_true rfl) nd_M_add_90
    · refine lv_aload_n hx hb nd_M_add_0 rfl (lv_at hl 0 rfl) ?_
      refine lv_iload_n hx hb nd_M_add_1 rfl (lv_at hl 1 rfl) ?_
      refine g_calli (va_runS (As := [.int (nI i)]) (rest := [.ref mo]) ⟨hx, hb, hml, hown, hts⟩ (c_M_isSlot1 l G w (nI i) (sp_slh hi)) (cwS 1 hts (nw_of (nw_3 nh_ml_M_22 nh_st_M_isSlot nh_in_M nh_co_M_isSlot)) rfl rfl rfl (by decide +kernel) ⟨Nat.le_of_ble_eq_true rfl, Nat.le_of_ble_eq_true rfl⟩) (g_preS hK hw hS _) rfl rfl hl.1 rfl (lv_room (Nat.le_of_ble_eq_true rfl)) nd_M_add_2 ⟨by exact Nat.le_of_ble_eq_true rfl, by exact Nat.le_of_ble_eq_true rfl⟩) hS (fun v9 w1 H locs hp hw hS => ?_)
      obtain ⟨rfl, hw9⟩ := hp
      rw [hw9] at hw
      refine lv_if_eq (tgt := 19) hx hb nd_M_add_5 (by decide) (fun hc => absurd hc (by decide)) (fun hc => ?_)
      refine lv_iload_n hx hb nd_M_add_8 rfl (lv_at hl 2 rfl) ?_
      refine g_calli (va_runS (As := [.int b]) (rest := [.ref mo]) ⟨hx, hb, hml, hown, hts⟩ (c_M_isSlot0 l G w b hb9) (cwS 1 hts (nw_of (nw_3 nh_ml_M_22 nh_st_M_isSlot nh_in_M nh_co_M_isSlot)) rfl rfl rfl (by decide +kernel) ⟨Nat.le_of_ble_eq_true rfl, Nat.le_of_ble_eq_true rfl⟩) (g_preS hK hw hS _) rfl rfl hl.1 rfl (lv_room (Nat.le_of_ble_eq_true rfl)) nd_M_add_9 ⟨by exact Nat.le_of_ble_eq_true rfl, by exact Nat.le_of_ble_eq_true rfl⟩) hS (fun v9 w2 H locs hp hw hS => ?_)
      obtain ⟨rfl, hw9⟩ := hp
      rw [hw9] at hw
      refine lv_if_eq (tgt := 19) hx hb nd_M_add_12 (by decide) (fun hc => ?_) (fun hc => absurd rfl hc)
      refine lv_iconst (v := 0) hx hb nd_M_add_19 (by decide) ?_
      refine lv_iconst (v := 1) hx hb nd_M_add_20 (by decide) ?_
      refine g_calli (va_runV (As := [.int 0, .int 1]) (rest := []) ⟨hx, hb, hml, hown, hts⟩ (c_M_good0 l G w mo ra sa (mo_b op) cd 1 hm) (cwV (C := nR_M) 2 hts (nw_of (nw_4 nh_ml_M_26 nh_im_M_good nh_se_M_good nh_in_M nh_co_M_good)) rfl rfl rfl (by decide +kernel) ⟨Nat.le_of_ble_eq_true rfl, Nat.le_of_ble_eq_true rfl⟩) (g_preV (ci := 5) (q := (nR_M, nT_M, 4)) hK hw hS rfl hm _) rfl rfl hl.1 rfl (lv_room (Nat.le_of_ble_eq_true rfl)) nd_M_add_21 ⟨by exact Nat.le_of_ble_eq_true rfl, by exact Nat.le_of_ble_eq_true rfl⟩) hS (fun v9 w3 H locs hp hw hS => ?_)
      obtain ⟨rfl, e9⟩ := hp
      obtain ⟨hJ, hF9⟩ := mo_cod hJ e9
      have hF0 := hF0.tr hF9
      obtain ⟨hm, ⟨g, hra, hg⟩, ⟨fs, hsa, hfs⟩, hrow, hinj⟩ := id hJ
      refine lv_if_eq (tgt := 52) hx hb nd_M_add_24 (by decide) (fun hc => ?_) (fun hc => absurd rfl hc)
      refine lv_iconst (v := 0) hx hb nd_M_add_52 (by decide) ?_
      exact g_iret hx hb hr hlocks hw hS (by rw [sp_add_1 (Or.inr hb9)]; exact ⟨⟨_, hJ, hv⟩, rfl, hF0⟩) (by exact Nat.le_of_ble_eq_true rfl) (by exact Nat.le_of_ble_eq_true rfl) nd_M_add_53
  · refine lv_aload_n hx hb nd_M_add_0 rfl (lv_at hl 0 rfl) ?_
    refine lv_iload_n hx hb nd_M_add_1 rfl (lv_at hl 1 rfl) ?_
    refine g_calli (va_runS (As := [.int a]) (rest := [.ref mo]) ⟨hx, hb, hml, hown, hts⟩ (c_M_isSlot0 l G w a ha) (cwS 1 hts (nw_of (nw_3 nh_ml_M_22 nh_st_M_isSlot nh_in_M nh_co_M_isSlot)) rfl rfl rfl (by decide +kernel) ⟨Nat.le_of_ble_eq_true rfl, Nat.le_of_ble_eq_true rfl⟩) (g_preS hK hw hS _) rfl rfl hl.1 rfl (lv_room (Nat.le_of_ble_eq_true rfl)) nd_M_add_2 ⟨by exact Nat.le_of_ble_eq_true rfl, by exact Nat.le_of_ble_eq_true rfl⟩) hS (fun v9 w1 H locs hp hw hS => ?_)
    obtain ⟨rfl, hw9⟩ := hp
    rw [hw9] at hw
    refine lv_if_eq (tgt := 19) hx hb nd_M_add_5 (by decide) (fun hc => ?_) (fun hc => absurd rfl hc)
    refine lv_iconst (v := 0) hx hb nd_M_add_19 (by decide) ?_
    refine lv_iconst (v := 1) hx hb nd_M_add_20 (by decide) ?_
    refine g_calli (va_runV (As := [.int 0, .int 1]) (rest := []) ⟨hx, hb, hml, hown, hts⟩ (c_M_good0 l G w mo ra sa (mo_b op) cd 1 hm) (cwV (C := nR_M) 2 hts (nw_of (nw_4 nh_ml_M_26 nh_im_M_good nh_se_M_good nh_in_M nh_co_M_good)) rfl rfl rfl (by decide +kernel) ⟨Nat.le_of_ble_eq_true rfl, Nat.le_of_ble_eq_true rfl⟩) (g_preV (ci := 5) (q := (nR_M, nT_M, 4)) hK hw hS rfl hm _) rfl rfl hl.1 rfl (lv_room (Nat.le_of_ble_eq_true rfl)) nd_M_add_21 ⟨by exact Nat.le_of_ble_eq_true rfl, by exact Nat.le_of_ble_eq_true rfl⟩) hS (fun v9 w2 H locs hp hw hS => ?_)
    obtain ⟨rfl, e9⟩ := hp
    obtain ⟨hJ, hF9⟩ := mo_cod hJ e9
    have hF0 := hF0.tr hF9
    obtain ⟨hm, ⟨g, hra, hg⟩, ⟨fs, hsa, hfs⟩, hrow, hinj⟩ := id hJ
    refine lv_if_eq (tgt := 52) hx hb nd_M_add_24 (by decide) (fun hc => ?_) (fun hc => absurd rfl hc)
    refine lv_iconst (v := 0) hx hb nd_M_add_52 (by decide) ?_
    exact g_iret hx hb hr hlocks hw hS (by rw [sp_add_1 (Or.inl ha)]; exact ⟨⟨_, hJ, hv⟩, rfl, hF0⟩) (by exact Nat.le_of_ble_eq_true rfl) (by exact Nat.le_of_ble_eq_true rfl) nd_M_add_53

set_option maxHeartbeats 4000000 in
set_option maxRecDepth 100000 in
theorem c_M_push (l : Launch) (G : g_G) (w : xw_W) (mo ra sa : Nat) (rr : Nat → Nat) (S : sp_S) (cd : Int32) (hI : mo_I G w mo ra sa rr S cd) (a b : Int32) (v : Int64) : Met l ny_M_push nw_M_push ({ frames := 1, cells := 0, slots := 0, locals := 30 }) (g_Pc G w [.ref mo, .int a, .int b, .long v]) (g_Qi G (fun v9 w' => mo_Post G w mo ra sa rr (sp_push S a b v) v9.toInt64 w')) 0 0 (xw_A (g_b G)) := by
  refine g_met (by decide) (Nat.le_of_ble_eq_true rfl) rfl ?_
  intro p e s m below meth c ls hx hb hr hts hown hlocks hin hml hl hK hB hw hS
  have hT : ∀ w ∈ nw_T, w.before _ s = true := fun w h => hts w (List.mem_cons_of_mem _ h)
  have hown : s.vm.findClass "RadixShelfModel" = some m.cls := hown
  have hl : lv_has ls 6 [(0, .ref mo), (1, .int a), (2, .int b), (3, .long v)] := hl
  obtain ⟨op, sz, vs⟩ := S
  obtain ⟨f, hJ9, hv9⟩ := hI
  have hJ : mo_J G w mo ra sa rr op sz f cd := hJ9
  have hv : ∀ k, k < 17 → ∀ z, z < sz k → f k z = vs k z := hv9
  clear hJ9 hv9
  have hF0 : mo_F mo sa rr w w := mo_F.rf
  obtain ⟨hm, ⟨g, hra, hg⟩, ⟨fs, hsa, hfs⟩, hrow, hinj⟩ := id hJ
  by_cases ha : 0 ≤ a ∧ a ≤ 15
  · obtain ⟨i, hi, rfl⟩ := sp_sl_of ha
    by_cases hb9 : 0 ≤ b ∧ b ≤ 15
    · refine lv_aload_n hx hb nd_M_push_0 rfl (lv_at hl 0 rfl) ?_
      refine lv_iload_n hx hb nd_M_push_1 rfl (lv_at hl 1 rfl) ?_
      refine g_calli (va_runS (As := [.int (nI i)]) (rest := [.ref mo]) ⟨hx, hb, hml, hown, hts⟩ (c_M_isSlot1 l G w (nI i) (sp_slh hi)) (cwS 1 hts (nw_of (nw_3 nh_ml_M_22 nh_st_M_isSlot nh_in_M nh_co_M_isSlot)) rfl rfl rfl (by decide +kernel) ⟨Nat.le_of_ble_eq_true rfl, Nat.le_of_ble_eq_true rfl⟩) (g_preS hK hw hS _) rfl rfl hl.1 rfl (lv_room (Nat.le_of_ble_eq_true rfl)) nd_M_push_2 ⟨by exact Nat.le_of_ble_eq_true rfl, by exact Nat.le_of_ble_eq_true rfl⟩) hS (fun v9 w1 H locs hp hw hS => ?_)
      obtain ⟨rfl, hw9⟩ := hp
      rw [hw9] at hw
      refine lv_if_eq (tgt := 19) hx hb nd_M_push_5 (by decide) (fun hc => absurd hc (by decide)) (fun hc => ?_)
      obtain ⟨j, hj, rfl⟩ := sp_sl_of hb9
      refine lv_iload_n hx hb nd_M_push_8 rfl (lv_at hl 2 rfl) ?_
      refine g_calli (va_runS (As := [.int (nI j)]) (rest := [.ref mo]) ⟨hx, hb, hml, hown, hts⟩ (c_M_isSlot1 l G w (nI j) (sp_slh hj)) (cwS 1 hts (nw_of (nw_3 nh_ml_M_22 nh_st_M_isSlot nh_in_M nh_co_M_isSlot)) rfl rfl rfl (by decide +kernel) ⟨Nat.le_of_ble_eq_true rfl, Nat.le_of_ble_eq_true rfl⟩) (g_preS hK hw hS _) rfl rfl hl.1 rfl (lv_room (Nat.le_of_ble_eq_true rfl)) nd_M_push_9 ⟨by exact Nat.le_of_ble_eq_true rfl, by exact Nat.le_of_ble_eq_true rfl⟩) hS (fun v9 w2 H locs hp hw hS => ?_)
      obtain ⟨rfl, hw9⟩ := hp
      rw [hw9] at hw
      refine lv_if_eq (tgt := 19) hx hb nd_M_push_12 (by decide) (fun hc => absurd hc (by decide)) (fun hc => ?_)
      refine lv_iconst (v := 1) hx hb nd_M_push_15 (by decide) ?_
      refine lv_goto (tgt := 20) hx hb nd_M_push_16 (by decide) ?_
      refine lv_iconst (v := 1) hx hb nd_M_push_20 (by decide) ?_
      refine g_calli (va_runV (As := [.int 1, .int 1]) (rest := []) ⟨hx, hb, hml, hown, hts⟩ (c_M_good1 l G w mo ra sa (mo_b op) cd 1 hm) (cwV (C := nR_M) 2 hts (nw_of (nw_4 nh_ml_M_26 nh_im_M_good nh_se_M_good nh_in_M nh_co_M_good)) rfl rfl rfl (by decide +kernel) ⟨Nat.le_of_ble_eq_true rfl, Nat.le_of_ble_eq_true rfl⟩) (g_preV (ci := 5) (q := (nR_M, nT_M, 4)) hK hw hS rfl hm _) rfl rfl hl.1 rfl (lv_room (Nat.le_of_ble_eq_true rfl)) nd_M_push_21 ⟨by exact Nat.le_of_ble_eq_true rfl, by exact Nat.le_of_ble_eq_true rfl⟩) hS (fun v9 w3 H locs hp hw hS => ?_)
      obtain ⟨rfl, e9⟩ := hp
      obtain ⟨hJ, hF9⟩ := mo_cod hJ e9
      have hF0 := hF0.tr hF9
      obtain ⟨hm, ⟨g, hra, hg⟩, ⟨fs, hsa, hfs⟩, hrow, hinj⟩ := id hJ
      refine lv_if_eq (tgt := 52) hx hb nd_M_push_24 (by decide) (fun hc => absurd hc (by decide)) (fun hc => ?_)
      have hj3 : sz j ≤ 3000 := (hrow j (by omega)).1
      refine lv_aload_n hx hb nd_M_push_27 rfl (lv_at hl 0 rfl) ?_
      refine lv_aload_n hx hb nd_M_push_28 rfl (lv_at hl 0 rfl) ?_
      refine xw_get (T := nT_M) (N := 4) (ci := 5) hx hb hT nu_M hown hK.1 hw hm rfl 1 (by decide) (hT _ nh_fl_M_14) (fun _ h9 => h9) rfl nd_M_push_29 ?_
      refine lv_iload_n hx hb nd_M_push_32 rfl (lv_at hl 2 rfl) ?_
      refine xw_iald hx hb hK.1 hw 4 hsa rfl (vp_in_nI (by omega) (by decide)) nd_M_push_33 ?_
      refine lv_topi (fun y4 ey5 => ?_)
      obtain rfl : y4 = nI (sz j) := ey5.trans (by rw [nI_clamp (by omega)]; exact hfs _ (by omega))
      refine lv_sipush (v := 3000) hx hb nd_M_push_34 (by decide) ?_
      refine lv_icmp_ge (tgt := 44) hx hb nd_M_push_37 (by decide) (fun hc => ?_) (fun hc => ?_)
      · have hs : ¬ sz j < 3000 := fun z => absurd (Int32.not_le.mpr (nI_lt (b := 3000) z (by omega))) (fun z2 => z2 hc)
        refine lv_iconst (v := 0) hx hb nd_M_push_44 (by decide) ?_
        refine lv_iconst (v := 2) hx hb nd_M_push_45 (by decide) ?_
        refine g_calli (va_runV (As := [.int 0, .int 2]) (rest := []) ⟨hx, hb, hml, hown, hts⟩ (c_M_good0 l G w3 mo ra sa (mo_b op) 0 2 hm) (cwV (C := nR_M) 2 hts (nw_of (nw_4 nh_ml_M_26 nh_im_M_good nh_se_M_good nh_in_M nh_co_M_good)) rfl rfl rfl (by decide +kernel) ⟨Nat.le_of_ble_eq_true rfl, Nat.le_of_ble_eq_true rfl⟩) (g_preV (ci := 5) (q := (nR_M, nT_M, 4)) hK hw hS rfl hm _) rfl rfl hl.1 rfl (lv_room (Nat.le_of_ble_eq_true rfl)) nd_M_push_46 ⟨by exact Nat.le_of_ble_eq_true rfl, by exact Nat.le_of_ble_eq_true rfl⟩) hS (fun v9 w6 H locs hp hw hS => ?_)
        obtain ⟨rfl, e9⟩ := hp
        obtain ⟨hJ, hF9⟩ := mo_cod hJ e9
        have hF0 := hF0.tr hF9
        obtain ⟨hm, ⟨g, hra, hg⟩, ⟨fs, hsa, hfs⟩, hrow, hinj⟩ := id hJ
        refine lv_if_ne (tgt := 54) hx hb nd_M_push_49 (by decide) (fun hc => absurd rfl hc) (fun hc => ?_)
        refine lv_iconst (v := 0) hx hb nd_M_push_52 (by decide) ?_
        exact g_iret hx hb hr hlocks hw hS (by rw [sp_push_2 hi hj hs]; exact ⟨⟨_, hJ, hv⟩, rfl, hF0⟩) (by exact Nat.le_of_ble_eq_true rfl) (by exact Nat.le_of_ble_eq_true rfl) nd_M_push_53
      · have hs : sz j < 3000 := (nI_ltI (b := 3000) (by omega) (by omega)).mp (Int32.not_le.mp hc)
        refine lv_iconst (v := 1) hx hb nd_M_push_40 (by decide) ?_
        refine lv_goto (tgt := 45) hx hb nd_M_push_41 (by decide) ?_
        refine lv_iconst (v := 2) hx hb nd_M_push_45 (by decide) ?_
        refine g_calli (va_runV (As := [.int 1, .int 2]) (rest := []) ⟨hx, hb, hml, hown, hts⟩ (c_M_good1 l G w3 mo ra sa (mo_b op) 0 2 hm) (cwV (C := nR_M) 2 hts (nw_of (nw_4 nh_ml_M_26 nh_im_M_good nh_se_M_good nh_in_M nh_co_M_good)) rfl rfl rfl (by decide +kernel) ⟨Nat.le_of_ble_eq_true rfl, Nat.le_of_ble_eq_true rfl⟩) (g_preV (ci := 5) (q := (nR_M, nT_M, 4)) hK hw hS rfl hm _) rfl rfl hl.1 rfl (lv_room (Nat.le_of_ble_eq_true rfl)) nd_M_push_46 ⟨by exact Nat.le_of_ble_eq_true rfl, by exact Nat.le_of_ble_eq_true rfl⟩) hS (fun v9 w6 H locs hp hw hS => ?_)
        obtain ⟨rfl, e9⟩ := hp
        obtain ⟨hJ, hF9⟩ := mo_cod hJ e9
        have hF0 := hF0.tr hF9
        obtain ⟨hm, ⟨g, hra, hg⟩, ⟨fs, hsa, hfs⟩, hrow, hinj⟩ := id hJ
        refine lv_if_ne (tgt := 54) hx hb nd_M_push_49 (by decide) (fun hc => ?_) (fun hc => absurd hc (by decide))
        refine lv_aload_n hx hb nd_M_push_54 rfl (lv_at hl 0 rfl) ?_
        refine lv_iload_n hx hb nd_M_push_55 rfl (lv_at hl 1 rfl) ?_
        refine lv_iload_n hx hb nd_M_push_56 rfl (lv_at hl 2 rfl) ?_
        refine g_callv (va_runV (As := [.int (nI i), .int (nI j)]) (rest := []) ⟨hx, hb, hml, hown, hts⟩ (c_M_copy l G w6 mo ra sa rr op sz f 0 i j (by omega) (by omega) hJ) (cwV (C := nR_M) 2 hts (nw_of (nw_4 nh_ml_M_30 nh_im_M_copy nh_se_M_copy nh_in_M nh_co_M_copy)) rfl rfl rfl (by decide +kernel) ⟨Nat.le_of_ble_eq_true rfl, Nat.le_of_ble_eq_true rfl⟩) (g_preV (ci := 5) (q := (nR_M, nT_M, 4)) hK hw hS rfl hm _) rfl rfl hl.1 rfl (lv_room (Nat.le_of_ble_eq_true rfl)) nd_M_push_57 ⟨by exact Nat.le_of_ble_eq_true rfl, by exact Nat.le_of_ble_eq_true rfl⟩) hS (fun w7 H locs hp hw hS => ?_)
        obtain ⟨h, hJ, hh, hF9⟩ := hp
        have hF0 := hF0.tr hF9
        obtain ⟨hm, ⟨g, hra, hg⟩, ⟨fs, hsa, hfs⟩, hrow, hinj⟩ := id hJ
        refine lv_aload_n hx hb nd_M_push_60 rfl (lv_at hl 0 rfl) ?_
        refine xw_get (T := nT_M) (N := 4) (ci := 5) hx hb hT nu_M hown hK.1 hw hm rfl 1 (by decide) (hT _ nh_fl_M_14) (fun _ h9 => h9) rfl nd_M_push_61 ?_
        refine lv_iload_n hx hb nd_M_push_64 rfl (lv_at hl 1 rfl) ?_
        refine xw_iald hx hb hK.1 hw 4 hsa rfl (vp_in_nI (by omega) (by decide)) nd_M_push_65 ?_
        refine lv_topi (fun y8 ey9 => ?_)
        obtain rfl : y8 = nI (sz j) := ey9.trans (by rw [nI_clamp (by omega)]; rw [hfs _ (by omega), va_up_self])
        refine lv_istore hx hb nd_M_push_66 hl (by decide) (lv' := [(5, .int (nI (sz j))), (0, .ref mo), (1, .int (nI i)), (2, .int (nI j)), (3, .long v)]) rfl (fun ls hl => ?_)
        have loop : ∀ (y : Nat) (c1 : Nat → Int64) (wl : xw_W) (ls : Array Slot) (H : Heap) (locs : List Loc), y ≤ sz j → mo_J G wl mo ra sa rr op (va_up sz i (sz j)) (va_up f i c1) 0 → mo_F mo sa rr w wl → (∀ z, y < z → z ≤ sz j → c1 z = h (z - 1)) → (∀ z, z ≤ y → z < sz j → c1 z = h z) → lv_has ls 6 [(5, .int (nI y)), (0, .ref mo), (1, .int (nI i)), (2, .int (nI j)), (3, .long v)] → g_P G wl H → g_S G s.heap H locs → W p l e ({ frames := 1, cells := 0, slots := 0, locals := 30 }) s m [.ref mo, .int (nI i), .int (nI j), .long v].toArray below meth c H locs (0) (0) (MQ below (g_Qi G (fun v9 w' => mo_Post G w mo ra sa rr (sp_push (op, sz, vs) (nI i) (nI j) v) v9.toInt64 w')) [.ref mo, .int (nI i), .int (nI j), .long v].toArray s 0 0 (xw_A (g_b G))) (F0 m 68 ls []) := by
          intro y
          induction y with
          | zero =>
            intro c1 wl ls H locs hy hJ hF0 hc1 hc2 hl hw hS
            obtain ⟨hm, ⟨g, hra, hg⟩, ⟨fs, hsa, hfs⟩, hrow, hinj⟩ := id hJ
            refine lv_iload hx hb nd_M_push_68 (lv_at hl 0 rfl) ?_
            refine lv_if_le (tgt := 99) hx hb nd_M_push_70 (by decide) (fun hc => ?_) (fun hc => absurd (by rw [nI_0]; decide) hc)
            refine lv_aload_n hx hb nd_M_push_99 rfl (lv_at hl 1 rfl) ?_
            refine xw_get (T := nT_M) (N := 4) (ci := 5) hx hb hT nu_M hown hK.1 hw hm rfl 0 (by decide) (hT _ nh_fl_M_11) (fun _ h9 => h9) rfl nd_M_push_100 ?_
            refine lv_iload_n hx hb nd_M_push_103 rfl (lv_at hl 2 rfl) ?_
            refine xw_aaldA (y := (rr i)) hx hb hK.1 hw 5 hra rfl (vp_in_nI (by omega) (by decide)) (by rw [nI_clamp (by omega)]; exact hg _ (by omega)) nd_M_push_104 ?_
            have hr_i := (hrow i (by omega)).2
            refine lv_iconst (v := 0) hx hb nd_M_push_105 (by decide) ?_
            refine lv_topi (fun y10 ey11 => ?_)
            obtain rfl : y10 = nI 0 := ey11.trans (rfl)
            refine lv_lload_n hx hb nd_M_push_106 rfl (lv_at hl 4 rfl) ?_
            refine xw_last hx hb hK.1 hB hw hS 0 hr_i rfl (vp_in_nI (by omega) (by decide)) nd_M_push_107 (fun H locs hw hS => ?_)
            rw [nI_clamp (by omega)] at hw
            obtain ⟨w12, ew13⟩ : ∃ z, z = va_up wl (rr i) (some (.inl (G.2.1 0, 3000, .inr (.inl (vp_updL (va_up f i c1 i) 0 v))))) := ⟨_, rfl⟩
            have hw : g_P G w12 H := by rw [ew13]; exact hw
            have hm : w12 mo = some (.inr (5, [.ref ra, .ref sa, .int (mo_b op), .int 0])) := by rw [ew13, va_up_ne _ _ (xw_ne hm hr_i (by simp))]; exact hm
            have hr_i : w12 (rr i) = some (.inl (G.2.1 0, 3000, .inr (.inl (vp_updL (va_up f i c1 i) 0 v)))) := by rw [ew13]; exact va_up_self _ _ _
            obtain ⟨hJ, hF9⟩ := mo_row hJ (by omega) ew13
            have hF0 := hF0.tr hF9
            rw [bx_uu, va_up_self] at hJ
            obtain ⟨hm, ⟨g, hra, hg⟩, ⟨fs, hsa, hfs⟩, hrow, hinj⟩ := id hJ
            refine lv_aload_n hx hb nd_M_push_108 rfl (lv_at hl 1 rfl) ?_
            refine xw_get (T := nT_M) (N := 4) (ci := 5) hx hb hT nu_M hown hK.1 hw hm rfl 1 (by decide) (hT _ nh_fl_M_14) (fun _ h9 => h9) rfl nd_M_push_109 ?_
            refine lv_iload_n hx hb nd_M_push_112 rfl (lv_at hl 2 rfl) ?_
            refine lv_dup2_11 hx hb nd_M_push_113 rfl rfl ?_
            refine xw_iald hx hb hK.1 hw 4 hsa rfl (vp_in_nI (by omega) (by decide)) nd_M_push_114 ?_
            refine lv_topi (fun y14 ey15 => ?_)
            obtain rfl : y14 = nI (sz j) := ey15.trans (by rw [nI_clamp (by omega)]; rw [hfs _ (by omega), va_up_self])
            refine lv_iconst (v := 1) hx hb nd_M_push_115 (by decide) ?_
            refine lv_iadd hx hb nd_M_push_116 ?_
            refine lv_topi (fun y16 ey17 => ?_)
            obtain rfl : y16 = nI (sz j + 1) := ey17.trans (nI_1 _)
            have hsa0 := hsa
            refine xw_iast hx hb hK.1 hB hw hS 4 hsa rfl (vp_in_nI (by omega) (by decide)) nd_M_push_117 (fun H locs hw hS => ?_)
            rw [nI_clamp (by omega)] at hw
            obtain ⟨w18, ew19⟩ : ∃ z, z = va_up w12 sa (some (.inl (G.2.1 4, 17, .inl (upd fs i (nI (sz j + 1)))))) := ⟨_, rfl⟩
            have hw : g_P G w18 H := by rw [ew19]; exact hw
            have hm : w18 mo = some (.inr (5, [.ref ra, .ref sa, .int (mo_b op), .int 0])) := by rw [ew19, va_up_ne _ _ (xw_ne hm hsa (by simp))]; exact hm
            have hsa : w18 sa = some (.inl (G.2.1 4, 17, .inl (upd fs i (nI (sz j + 1))))) := by rw [ew19]; exact va_up_self _ _ _
            obtain ⟨hJ, hF9⟩ := mo_siz hJ (by omega) (by omega) hsa0 ew19
            have hF0 := hF0.tr hF9
            rw [bx_uu] at hJ
            obtain ⟨hm, ⟨g, hra, hg⟩, ⟨fs, hsa, hfs⟩, hrow, hinj⟩ := id hJ
            refine lv_aload_n hx hb nd_M_push_118 rfl (lv_at hl 1 rfl) ?_
            refine xw_get (T := nT_M) (N := 4) (ci := 5) hx hb hT nu_M hown hK.1 hw hm rfl 1 (by decide) (hT _ nh_fl_M_14) (fun _ h9 => h9) rfl nd_M_push_119 ?_
            refine lv_iload_n hx hb nd_M_push_122 rfl (lv_at hl 2 rfl) ?_
            refine xw_iald hx hb hK.1 hw 4 hsa rfl (vp_in_nI (by omega) (by decide)) nd_M_push_123 ?_
            refine lv_topi (fun y20 ey21 => ?_)
            obtain rfl : y20 = nI (sz j + 1) := ey21.trans (by rw [nI_clamp (by omega)]; rw [hfs _ (by omega), va_up_self])
            have hfin : ∀ z, z < sz j + 1 → vp_updL c1 0 v z = sp_ps (vs j) v z := by
              intro z hz
              unfold sp_ps
              by_cases ez : z = 0
              · rw [if_pos ez, ez]; exact pk_uLs
              · rw [if_neg ez, pk_uLn ez, hc1 z (by omega) (by omega), hh (z - 1) (by omega)]; exact hv j (by omega) _ (by omega)
            exact g_iret hx hb hr hlocks hw hS (by rw [sp_push_0 hi hj hs]; exact ⟨⟨_, hJ, mo_fin hv hfin⟩, rfl, hF0⟩) (by exact Nat.le_of_ble_eq_true rfl) (by exact Nat.le_of_ble_eq_true rfl) nd_M_push_124
          | succ y ih =>
            intro c1 wl ls H locs hy hJ hF0 hc1 hc2 hl hw hS
            obtain ⟨hm, ⟨g, hra, hg⟩, ⟨fs, hsa, hfs⟩, hrow, hinj⟩ := id hJ
            refine lv_iload hx hb nd_M_push_68 (lv_at hl 0 rfl) ?_
            refine lv_if_le (tgt := 99) hx hb nd_M_push_70 (by decide) (fun hc => absurd hc (nI_nle (by omega) (by omega))) (fun hc => ?_)
            refine lv_aload_n hx hb nd_M_push_73 rfl (lv_at hl 1 rfl) ?_
            refine xw_get (T := nT_M) (N := 4) (ci := 5) hx hb hT nu_M hown hK.1 hw hm rfl 0 (by decide) (hT _ nh_fl_M_11) (fun _ h9 => h9) rfl nd_M_push_74 ?_
            refine lv_iload_n hx hb nd_M_push_77 rfl (lv_at hl 2 rfl) ?_
            refine xw_aaldA (y := (rr i)) hx hb hK.1 hw 5 hra rfl (vp_in_nI (by omega) (by decide)) (by rw [nI_clamp (by omega)]; exact hg _ (by omega)) nd_M_push_78 ?_
            have hr_i := (hrow i (by omega)).2
            refine lv_iload hx hb nd_M_push_79 (lv_at hl 0 rfl) ?_
            refine lv_aload_n hx hb nd_M_push_81 rfl (lv_at hl 1 rfl) ?_
            refine xw_get (T := nT_M) (N := 4) (ci := 5) hx hb hT nu_M hown hK.1 hw hm rfl 0 (by decide) (hT _ nh_fl_M_11) (fun _ h9 => h9) rfl nd_M_push_82 ?_
            refine lv_iload_n hx hb nd_M_push_85 rfl (lv_at hl 2 rfl) ?_
            refine xw_aaldA (y := (rr i)) hx hb hK.1 hw 5 hra rfl (vp_in_nI (by omega) (by decide)) (by rw [nI_clamp (by omega)]; exact hg _ (by omega)) nd_M_push_86 ?_
            have hr_i := (hrow i (by omega)).2
            refine lv_iload hx hb nd_M_push_87 (lv_at hl 0 rfl) ?_
            refine lv_iconst (v := 1) hx hb nd_M_push_89 (by decide) ?_
            refine lv_isub hx hb nd_M_push_90 ?_
            refine lv_topi (fun y10 ey11 => ?_)
            obtain rfl : y10 = nI y := ey11.trans (nI_pred y)
            refine xw_lald hx hb hK.1 hw 0 hr_i rfl (vp_in_nI (by omega) (by decide)) nd_M_push_91 ?_
            refine lv_topl (fun y12 ey13 => ?_)
            obtain rfl : y12 = c1 y := ey13.trans (by rw [nI_clamp (by omega), va_up_self])
            refine xw_last hx hb hK.1 hB hw hS 0 hr_i rfl (vp_in_nI (by omega) (by decide)) nd_M_push_92 (fun H locs hw hS => ?_)
            rw [nI_clamp (by omega)] at hw
            obtain ⟨w14, ew15⟩ : ∃ z, z = va_up wl (rr i) (some (.inl (G.2.1 0, 3000, .inr (.inl (vp_updL (va_up f i c1 i) (y + 1) (c1 y)))))) := ⟨_, rfl⟩
            have hw : g_P G w14 H := by rw [ew15]; exact hw
            have hm : w14 mo = some (.inr (5, [.ref ra, .ref sa, .int (mo_b op), .int 0])) := by rw [ew15, va_up_ne _ _ (xw_ne hm hr_i (by simp))]; exact hm
            have hr_i : w14 (rr i) = some (.inl (G.2.1 0, 3000, .inr (.inl (vp_updL (va_up f i c1 i) (y + 1) (c1 y))))) := by rw [ew15]; exact va_up_self _ _ _
            obtain ⟨hJ, hF9⟩ := mo_row hJ (by omega) ew15
            have hF0 := hF0.tr hF9
            rw [bx_uu, va_up_self] at hJ
            obtain ⟨hm, ⟨g, hra, hg⟩, ⟨fs, hsa, hfs⟩, hrow, hinj⟩ := id hJ
            refine lv_iinc (k := 0) hx hb nd_M_push_93 hl rfl rfl (by decide) (lv' := [(5, .int ((nI (y + 1)) + (-1))), (0, .ref mo), (1, .int (nI i)), (2, .int (nI j)), (3, .long v)]) rfl (fun ls hl => ?_)
            rw [nI_m1] at hl
            refine lv_goto (tgt := 68) hx hb nd_M_push_96 (by decide) ?_
            refine ih (vp_updL c1 (y + 1) (c1 y)) w14 ls H locs (by omega) hJ hF0 (fun z hz hz2 => ?_) (fun z hz hz2 => ?_) hl hw hS
            · by_cases ez : z = y + 1
              · rw [ez, pk_uLs]; exact hc2 y (by omega) (by omega)
              · rw [pk_uLn ez]; exact hc1 z (by omega) hz2
            · rw [pk_uLn (by omega)]; exact hc2 z (by omega) hz2
        exact loop (sz j) h w7 ls H locs (Nat.le_refl _) hJ hF0 (fun z h1 h2 => absurd h1 (by omega)) (fun z _ _ => rfl) hl hw hS
    · refine lv_aload_n hx hb nd_M_push_0 rfl (lv_at hl 0 rfl) ?_
      refine lv_iload_n hx hb nd_M_push_1 rfl (lv_at hl 1 rfl) ?_
      refine g_calli (va_runS (As := [.int (nI i)]) (rest := [.ref mo]) ⟨hx, hb, hml, hown, hts⟩ (c_M_isSlot1 l G w (nI i) (sp_slh hi)) (cwS 1 hts (nw_of (nw_3 nh_ml_M_22 nh_st_M_isSlot nh_in_M nh_co_M_isSlot)) rfl rfl rfl (by decide +kernel) ⟨Nat.le_of_ble_eq_true rfl, Nat.le_of_ble_eq_true rfl⟩) (g_preS hK hw hS _) rfl rfl hl.1 rfl (lv_room (Nat.le_of_ble_eq_true rfl)) nd_M_push_2 ⟨by exact Nat.le_of_ble_eq_true rfl, by exact Nat.le_of_ble_eq_true rfl⟩) hS (fun v9 w1 H locs hp hw hS => ?_)
      obtain ⟨rfl, hw9⟩ := hp
      rw [hw9] at hw
      refine lv_if_eq (tgt := 19) hx hb nd_M_push_5 (by decide) (fun hc => absurd hc (by decide)) (fun hc => ?_)
      refine lv_iload_n hx hb nd_M_push_8 rfl (lv_at hl 2 rfl) ?_
      refine g_calli (va_runS (As := [.int b]) (rest := [.ref mo]) ⟨hx, hb, hml, hown, hts⟩ (c_M_isSlot0 l G w b hb9) (cwS 1 hts (nw_of (nw_3 nh_ml_M_22 nh_st_M_isSlot nh_in_M nh_co_M_isSlot)) rfl rfl rfl (by decide +kernel) ⟨Nat.le_of_ble_eq_true rfl, Nat.le_of_ble_eq_true rfl⟩) (g_preS hK hw hS _) rfl rfl hl.1 rfl (lv_room (Nat.le_of_ble_eq_true rfl)) nd_M_push_9 ⟨by exact Nat.le_of_ble_eq_true rfl, by exact Nat.le_of_ble_eq_true rfl⟩) hS (fun v9 w2 H locs hp hw hS => ?_)
      obtain ⟨rfl, hw9⟩ := hp
      rw [hw9] at hw
      refine lv_if_eq (tgt := 19) hx hb nd_M_push_12 (by decide) (fun hc => ?_) (fun hc => absurd rfl hc)
      refine lv_iconst (v := 0) hx hb nd_M_push_19 (by decide) ?_
      refine lv_iconst (v := 1) hx hb nd_M_push_20 (by decide) ?_
      refine g_calli (va_runV (As := [.int 0, .int 1]) (rest := []) ⟨hx, hb, hml, hown, hts⟩ (c_M_good0 l G w mo ra sa (mo_b op) cd 1 hm) (cwV (C := nR_M) 2 hts (nw_of (nw_4 nh_ml_M_26 nh_im_M_good nh_se_M_good nh_in_M nh_co_M_good)) rfl rfl rfl (by decide +kernel) ⟨Nat.le_of_ble_eq_true rfl, Nat.le_of_ble_eq_true rfl⟩) (g_preV (ci := 5) (q := (nR_M, nT_M, 4)) hK hw hS rfl hm _) rfl rfl hl.1 rfl (lv_room (Nat.le_of_ble_eq_true rfl)) nd_M_push_21 ⟨by exact Nat.le_of_ble_eq_true rfl, by exact Nat.le_of_ble_eq_true rfl⟩) hS (fun v9 w3 H locs hp hw hS => ?_)
      obtain ⟨rfl, e9⟩ := hp
      obtain ⟨hJ, hF9⟩ := mo_cod hJ e9
      have hF0 := hF0.tr hF9
      obtain ⟨hm, ⟨g, hra, hg⟩, ⟨fs, hsa, hfs⟩, hrow, hinj⟩ := id hJ
      refine lv_if_eq (tgt := 52) hx hb nd_M_push_24 (by decide) (fun hc => ?_) (fun hc => absurd rfl hc)
      refine lv_iconst (v := 0) hx hb nd_M_push_52 (by decide) ?_
      exact g_iret hx hb hr hlocks hw hS (by rw [sp_push_1 (Or.inr hb9)]; exact ⟨⟨_, hJ, hv⟩, rfl, hF0⟩) (by exact Nat.le_of_ble_eq_true rfl) (by exact Nat.le_of_ble_eq_true rfl) nd_M_push_53
  · refine lv_aload_n hx hb nd_M_push_0 rfl (lv_at hl 0 rfl) ?_
    refine lv_iload_n hx hb nd_M_push_1 rfl (lv_at hl 1 rfl) ?_
    refine g_calli (va_runS (As := [.int a]) (rest := [.ref mo]) ⟨hx, hb, hml, hown, hts⟩ (c_M_isSlot0 l G w a ha) (cwS 1 hts (nw_of (nw_3 nh_ml_M_22 nh_st_M_isSlot nh_in_M nh_co_M_isSlot)) rfl rfl rfl (by decide +kernel) ⟨Nat.le_of_ble_eq_true rfl, Nat.le_of_ble_eq_true rfl⟩) (g_preS hK hw hS _) rfl rfl hl.1 rfl (lv_room (Nat.le_of_ble_eq_true rfl)) nd_M_push_2 ⟨by exact Nat.le_of_ble_eq_true rfl, by exact Nat.le_of_ble_eq_true rfl⟩) hS (fun v9 w1 H locs hp hw hS => ?_)
    obtain ⟨rfl, hw9⟩ := hp
    rw [hw9] at hw
    refine lv_if_eq (tgt := 19) hx hb nd_M_push_5 (by decide) (fun hc => ?_) (fun hc => absurd rfl hc)
    refine lv_iconst (v := 0) hx hb nd_M_push_19 (by decide) ?_
    refine lv_iconst (v := 1) hx hb nd_M_push_20 (by decide) ?_
    refine g_calli (va_runV (As := [.int 0, .int 1]) (rest := []) ⟨hx, hb, hml, hown, hts⟩ (c_M_good0 l G w mo ra sa (mo_b op) cd 1 hm) (cwV (C := nR_M) 2 hts (nw_of (nw_4 nh_ml_M_26 nh_im_M_good nh_se_M_good nh_in_M nh_co_M_good)) rfl rfl rfl (by decide +kernel) ⟨Nat.le_of_ble_eq_true rfl, Nat.le_of_ble_eq_true rfl⟩) (g_preV (ci := 5) (q := (nR_M, nT_M, 4)) hK hw hS rfl hm _) rfl rfl hl.1 rfl (lv_room (Nat.le_of_ble_eq_true rfl)) nd_M_push_21 ⟨by exact Nat.le_of_ble_eq_true rfl, by exact Nat.le_of_ble_eq_true rfl⟩) hS (fun v9 w2 H locs hp hw hS => ?_)
    obtain ⟨rfl, e9⟩ := hp
    obtain ⟨hJ, hF9⟩ := mo_cod hJ e9
    have hF0 := hF0.tr hF9
    obtain ⟨hm, ⟨g, hra, hg⟩, ⟨fs, hsa, hfs⟩, hrow, hinj⟩ := id hJ
    refine lv_if_eq (tgt := 52) hx hb nd_M_push_24 (by decide) (fun hc => ?_) (fun hc => absurd rfl hc)
    refine lv_iconst (v := 0) hx hb nd_M_push_52 (by decide) ?_
    exact g_iret hx hb hr hlocks hw hS (by rw [sp_push_1 (Or.inl ha)]; exact ⟨⟨_, hJ, hv⟩, rfl, hF0⟩) (by exact Nat.le_of_ble_eq_true rfl) (by exact Nat.le_of_ble_eq_true rfl) nd_M_push_53

set_option maxHeartbeats 4000000 in
set_option maxRecDepth 100000 in
theorem c_M_set (l : Launch) (G : g_G) (w : xw_W) (mo ra sa : Nat) (rr : Nat → Nat) (S : sp_S) (cd : Int32) (hI : mo_I G w mo ra sa rr S cd) (a b k : Int32) (v : Int64) : Met l ny_M_set nw_M_set ({ frames := 1, cells := 0, slots := 0, locals := 30 }) (g_Pc G w [.ref mo, .int a, .int b, .int k, .long v]) (g_Ql G (fun v9 w' => mo_Post G w mo ra sa rr (sp_set S a b k v) v9 w')) 0 0 (xw_A (g_b G)) := by
  refine g_met (by decide) (Nat.le_of_ble_eq_true rfl) rfl ?_
  intro p e s m below meth c ls hx hb hr hts hown hlocks hin hml hl hK hB hw hS
  have hT : ∀ w ∈ nw_T, w.before _ s = true := fun w h => hts w (List.mem_cons_of_mem _ h)
  have hown : s.vm.findClass "RadixShelfModel" = some m.cls := hown
  have hl : lv_has ls 8 [(0, .ref mo), (1, .int a), (2, .int b), (3, .int k), (4, .long v)] := hl
  obtain ⟨op, sz, vs⟩ := S
  obtain ⟨f, hJ9, hv9⟩ := hI
  have hJ : mo_J G w mo ra sa rr op sz f cd := hJ9
  have hv : ∀ k, k < 17 → ∀ z, z < sz k → f k z = vs k z := hv9
  clear hJ9 hv9
  have hF0 : mo_F mo sa rr w w := mo_F.rf
  obtain ⟨hm, ⟨g, hra, hg⟩, ⟨fs, hsa, hfs⟩, hrow, hinj⟩ := id hJ
  by_cases ha : 0 ≤ a ∧ a ≤ 15
  · obtain ⟨i, hi, rfl⟩ := sp_sl_of ha
    by_cases hb9 : 0 ≤ b ∧ b ≤ 15
    · refine lv_aload_n hx hb nd_M_set_0 rfl (lv_at hl 0 rfl) ?_
      refine lv_iload_n hx hb nd_M_set_1 rfl (lv_at hl 1 rfl) ?_
      refine g_calli (va_runS (As := [.int (nI i)]) (rest := [.ref mo]) ⟨hx, hb, hml, hown, hts⟩ (c_M_isSlot1 l G w (nI i) (sp_slh hi)) (cwS 1 hts (nw_of (nw_3 nh_ml_M_22 nh_st_M_isSlot nh_in_M nh_co_M_isSlot)) rfl rfl rfl (by decide +kernel) ⟨Nat.le_of_ble_eq_true rfl, Nat.le_of_ble_eq_true rfl⟩) (g_preS hK hw hS _) rfl rfl hl.1 rfl (lv_room (Nat.le_of_ble_eq_true rfl)) nd_M_set_2 ⟨by exact Nat.le_of_ble_eq_true rfl, by exact Nat.le_of_ble_eq_true rfl⟩) hS (fun v9 w1 H locs hp hw hS => ?_)
      obtain ⟨rfl, hw9⟩ := hp
      rw [hw9] at hw
      refine lv_if_eq (tgt := 19) hx hb nd_M_set_5 (by decide) (fun hc => absurd hc (by decide)) (fun hc => ?_)
      obtain ⟨j, hj, rfl⟩ := sp_sl_of hb9
      refine lv_iload_n hx hb nd_M_set_8 rfl (lv_at hl 2 rfl) ?_
      refine g_calli (va_runS (As := [.int (nI j)]) (rest := [.ref mo]) ⟨hx, hb, hml, hown, hts⟩ (c_M_isSlot1 l G w (nI j) (sp_slh hj)) (cwS 1 hts (nw_of (nw_3 nh_ml_M_22 nh_st_M_isSlot nh_in_M nh_co_M_isSlot)) rfl rfl rfl (by decide +kernel) ⟨Nat.le_of_ble_eq_true rfl, Nat.le_of_ble_eq_true rfl⟩) (g_preS hK hw hS _) rfl rfl hl.1 rfl (lv_room (Nat.le_of_ble_eq_true rfl)) nd_M_set_9 ⟨by exact Nat.le_of_ble_eq_true rfl, by exact Nat.le_of_ble_eq_true rfl⟩) hS (fun v9 w2 H locs hp hw hS => ?_)
      obtain ⟨rfl, hw9⟩ := hp
      rw [hw9] at hw
      refine lv_if_eq (tgt := 19) hx hb nd_M_set_12 (by decide) (fun hc => absurd hc (by decide)) (fun hc => ?_)
      refine lv_iconst (v := 1) hx hb nd_M_set_15 (by decide) ?_
      refine lv_goto (tgt := 20) hx hb nd_M_set_16 (by decide) ?_
      refine lv_iconst (v := 1) hx hb nd_M_set_20 (by decide) ?_
      refine g_calli (va_runV (As := [.int 1, .int 1]) (rest := []) ⟨hx, hb, hml, hown, hts⟩ (c_M_good1 l G w mo ra sa (mo_b op) cd 1 hm) (cwV (C := nR_M) 2 hts (nw_of (nw_4 nh_ml_M_26 nh_im_M_good nh_se_M_good nh_in_M nh_co_M_good)) rfl rfl rfl (by decide +kernel) ⟨Nat.le_of_ble_eq_true rfl, Nat.le_of_ble_eq_true rfl⟩) (g_preV (ci := 5) (q := (nR_M, nT_M, 4)) hK hw hS rfl hm _) rfl rfl hl.1 rfl (lv_room (Nat.le_of_ble_eq_true rfl)) nd_M_set_21 ⟨by exact Nat.le_of_ble_eq_true rfl, by exact Nat.le_of_ble_eq_true rfl⟩) hS (fun v9 w3 H locs hp hw hS => ?_)
      obtain ⟨rfl, e9⟩ := hp
      obtain ⟨hJ, hF9⟩ := mo_cod hJ e9
      have hF0 := hF0.tr hF9
      obtain ⟨hm, ⟨g, hra, hg⟩, ⟨fs, hsa, hfs⟩, hrow, hinj⟩ := id hJ
      refine lv_if_eq (tgt := 54) hx hb nd_M_set_24 (by decide) (fun hc => absurd hc (by decide)) (fun hc => ?_)
      have hj3 : sz j ≤ 3000 := (hrow j (by omega)).1
      by_cases hk : 0 ≤ k ∧ k < nI (sz j)
      · obtain ⟨x, hx1, rfl⟩ := sp_elo hj3 hk
        refine lv_aload_n hx hb nd_M_set_27 rfl (lv_at hl 0 rfl) ?_
        refine lv_iload_n hx hb nd_M_set_28 rfl (lv_at hl 3 rfl) ?_
        refine lv_if_lt (tgt := 46) hx hb nd_M_set_29 (by decide) (fun hc => absurd hc (nI_pos (by omega))) (fun hc => ?_)
        refine lv_iload_n hx hb nd_M_set_32 rfl (lv_at hl 3 rfl) ?_
        refine lv_aload_n hx hb nd_M_set_33 rfl (lv_at hl 0 rfl) ?_
        refine xw_get (T := nT_M) (N := 4) (ci := 5) hx hb hT nu_M hown hK.1 hw hm rfl 1 (by decide) (hT _ nh_fl_M_14) (fun _ h9 => h9) rfl nd_M_set_34 ?_
        refine lv_iload_n hx hb nd_M_set_37 rfl (lv_at hl 2 rfl) ?_
        refine xw_iald hx hb hK.1 hw 4 hsa rfl (vp_in_nI (by omega) (by decide)) nd_M_set_38 ?_
        refine lv_topi (fun y4 ey5 => ?_)
        obtain rfl : y4 = nI (sz j) := ey5.trans (by rw [nI_clamp (by omega)]; exact hfs _ (by omega))
        refine lv_icmp_ge (tgt := 46) hx hb nd_M_set_39 (by decide) (fun hc => absurd hc (nI_ge hx1 (by omega))) (fun hc => ?_)
        refine lv_iconst (v := 1) hx hb nd_M_set_42 (by decide) ?_
        refine lv_goto (tgt := 47) hx hb nd_M_set_43 (by decide) ?_
        refine lv_iconst (v := 2) hx hb nd_M_set_47 (by decide) ?_
        refine g_calli (va_runV (As := [.int 1, .int 2]) (rest := []) ⟨hx, hb, hml, hown, hts⟩ (c_M_good1 l G w3 mo ra sa (mo_b op) 0 2 hm) (cwV (C := nR_M) 2 hts (nw_of (nw_4 nh_ml_M_26 nh_im_M_good nh_se_M_good nh_in_M nh_co_M_good)) rfl rfl rfl (by decide +kernel) ⟨Nat.le_of_ble_eq_true rfl, Nat.le_of_ble_eq_true rfl⟩) (g_preV (ci := 5) (q := (nR_M, nT_M, 4)) hK hw hS rfl hm _) rfl rfl hl.1 rfl (lv_room (Nat.le_of_ble_eq_true rfl)) nd_M_set_48 ⟨by exact Nat.le_of_ble_eq_true rfl, by exact Nat.le_of_ble_eq_true rfl⟩) hS (fun v9 w6 H locs hp hw hS => ?_)
        obtain ⟨rfl, e9⟩ := hp
        obtain ⟨hJ, hF9⟩ := mo_cod hJ e9
        have hF0 := hF0.tr hF9
        obtain ⟨hm, ⟨g, hra, hg⟩, ⟨fs, hsa, hfs⟩, hrow, hinj⟩ := id hJ
        refine lv_if_ne (tgt := 56) hx hb nd_M_set_51 (by decide) (fun hc => ?_) (fun hc => absurd hc (by decide))
        refine lv_aload_n hx hb nd_M_set_56 rfl (lv_at hl 0 rfl) ?_
        refine lv_iload_n hx hb nd_M_set_57 rfl (lv_at hl 1 rfl) ?_
        refine lv_iload_n hx hb nd_M_set_58 rfl (lv_at hl 2 rfl) ?_
        refine g_callv (va_runV (As := [.int (nI i), .int (nI j)]) (rest := []) ⟨hx, hb, hml, hown, hts⟩ (c_M_copy l G w6 mo ra sa rr op sz f 0 i j (by omega) (by omega) hJ) (cwV (C := nR_M) 2 hts (nw_of (nw_4 nh_ml_M_30 nh_im_M_copy nh_se_M_copy nh_in_M nh_co_M_copy)) rfl rfl rfl (by decide +kernel) ⟨Nat.le_of_ble_eq_true rfl, Nat.le_of_ble_eq_true rfl⟩) (g_preV (ci := 5) (q := (nR_M, nT_M, 4)) hK hw hS rfl hm _) rfl rfl hl.1 rfl (lv_room (Nat.le_of_ble_eq_true rfl)) nd_M_set_59 ⟨by exact Nat.le_of_ble_eq_true rfl, by exact Nat.le_of_ble_eq_true rfl⟩) hS (fun w7 H locs hp hw hS => ?_)
        obtain ⟨h, hJ, hh, hF9⟩ := hp
        have hF0 := hF0.tr hF9
        obtain ⟨hm, ⟨g, hra, hg⟩, ⟨fs, hsa, hfs⟩, hrow, hinj⟩ := id hJ
        refine lv_aload_n hx hb nd_M_set_62 rfl (lv_at hl 0 rfl) ?_
        refine xw_get (T := nT_M) (N := 4) (ci := 5) hx hb hT nu_M hown hK.1 hw hm rfl 0 (by decide) (hT _ nh_fl_M_11) (fun _ h9 => h9) rfl nd_M_set_63 ?_
        refine lv_iload_n hx hb nd_M_set_66 rfl (lv_at hl 1 rfl) ?_
        refine xw_aaldA (y := (rr i)) hx hb hK.1 hw 5 hra rfl (vp_in_nI (by omega) (by decide)) (by rw [nI_clamp (by omega)]; exact hg _ (by omega)) nd_M_set_67 ?_
        have hr_i := (hrow i (by omega)).2
        refine lv_iload_n hx hb nd_M_set_68 rfl (lv_at hl 3 rfl) ?_
        refine xw_lald hx hb hK.1 hw 0 hr_i rfl (vp_in_nI (by omega) (by decide)) nd_M_set_69 ?_
        refine lv_topl (fun y8 ey9 => ?_)
        obtain rfl : y8 = vs j x := ey9.trans (by rw [nI_clamp (by omega), va_up_self, hh x hx1]; exact hv j (by omega) x hx1)
        refine lv_lstore hx hb nd_M_set_70 hl (by decide) (lv' := [(6, .long (vs j x)), (0, .ref mo), (1, .int (nI i)), (2, .int (nI j)), (3, .int (nI x)), (4, .long v)]) rfl (fun ls hl => ?_)
        refine lv_aload_n hx hb nd_M_set_72 rfl (lv_at hl 1 rfl) ?_
        refine xw_get (T := nT_M) (N := 4) (ci := 5) hx hb hT nu_M hown hK.1 hw hm rfl 0 (by decide) (hT _ nh_fl_M_11) (fun _ h9 => h9) rfl nd_M_set_73 ?_
        refine lv_iload_n hx hb nd_M_set_76 rfl (lv_at hl 2 rfl) ?_
        refine xw_aaldA (y := (rr i)) hx hb hK.1 hw 5 hra rfl (vp_in_nI (by omega) (by decide)) (by rw [nI_clamp (by omega)]; exact hg _ (by omega)) nd_M_set_77 ?_
        have hr_i := (hrow i (by omega)).2
        refine lv_iload_n hx hb nd_M_set_78 rfl (lv_at hl 4 rfl) ?_
        refine lv_lload hx hb nd_M_set_79 (lv_at hl 5 rfl) ?_
        refine xw_last hx hb hK.1 hB hw hS 0 hr_i rfl (vp_in_nI (by omega) (by decide)) nd_M_set_81 (fun H locs hw hS => ?_)
        rw [nI_clamp (by omega)] at hw
        obtain ⟨w10, ew11⟩ : ∃ z, z = va_up w7 (rr i) (some (.inl (G.2.1 0, 3000, .inr (.inl (vp_updL (va_up f i h i) x v))))) := ⟨_, rfl⟩
        have hw : g_P G w10 H := by rw [ew11]; exact hw
        have hm : w10 mo = some (.inr (5, [.ref ra, .ref sa, .int (mo_b op), .int 0])) := by rw [ew11, va_up_ne _ _ (xw_ne hm hr_i (by simp))]; exact hm
        have hr_i : w10 (rr i) = some (.inl (G.2.1 0, 3000, .inr (.inl (vp_updL (va_up f i h i) x v)))) := by rw [ew11]; exact va_up_self _ _ _
        obtain ⟨hJ, hF9⟩ := mo_row hJ (by omega) ew11
        have hF0 := hF0.tr hF9
        rw [bx_uu, va_up_self] at hJ
        obtain ⟨hm, ⟨g, hra, hg⟩, ⟨fs, hsa, hfs⟩, hrow, hinj⟩ := id hJ
        refine lv_lload hx hb nd_M_set_82 (lv_at hl 0 rfl) ?_
        exact g_lret hx hb hr hlocks hw hS (by rw [sp_set_0 hi hj hj3 hx1]; exact ⟨⟨_, hJ, mo_fin hv (mo_upd (fun z hz hne => (hh z hz).trans (hv j (by omega) z hz)))⟩, rfl, hF0⟩) (by exact Nat.le_of_ble_eq_true rfl) (by exact Nat.le_of_ble_eq_true rfl) nd_M_set_84
      · refine lv_aload_n hx hb nd_M_set_27 rfl (lv_at hl 0 rfl) ?_
        refine lv_iload_n hx hb nd_M_set_28 rfl (lv_at hl 3 rfl) ?_
        refine lv_if_lt (tgt := 46) hx hb nd_M_set_29 (by decide) (fun hc => ?_) (fun hc => ?_)
        · refine lv_iconst (v := 0) hx hb nd_M_set_46 (by decide) ?_
          refine lv_iconst (v := 2) hx hb nd_M_set_47 (by decide) ?_
          refine g_calli (va_runV (As := [.int 0, .int 2]) (rest := []) ⟨hx, hb, hml, hown, hts⟩ (c_M_good0 l G w3 mo ra sa (mo_b op) 0 2 hm) (cwV (C := nR_M) 2 hts (nw_of (nw_4 nh_ml_M_26 nh_im_M_good nh_se_M_good nh_in_M nh_co_M_good)) rfl rfl rfl (by decide +kernel) ⟨Nat.le_of_ble_eq_true rfl, Nat.le_of_ble_eq_true rfl⟩) (g_preV (ci := 5) (q := (nR_M, nT_M, 4)) hK hw hS rfl hm _) rfl rfl hl.1 rfl (lv_room (Nat.le_of_ble_eq_true rfl)) nd_M_set_48 ⟨by exact Nat.le_of_ble_eq_true rfl, by exact Nat.le_of_ble_eq_true rfl⟩) hS (fun v9 w4 H locs hp hw hS => ?_)
          obtain ⟨rfl, e9⟩ := hp
          obtain ⟨hJ, hF9⟩ := mo_cod hJ e9
          have hF0 := hF0.tr hF9
          obtain ⟨hm, ⟨g, hra, hg⟩, ⟨fs, hsa, hfs⟩, hrow, hinj⟩ := id hJ
          refine lv_if_ne (tgt := 56) hx hb nd_M_set_51 (by decide) (fun hc => absurd rfl hc) (fun hc => ?_)
          refine lv_lconst (v := 0) hx hb nd_M_set_54 (by decide) ?_
          exact g_lret hx hb hr hlocks hw hS (by rw [sp_set_2 hi hj hk]; exact ⟨⟨_, hJ, hv⟩, rfl, hF0⟩) (by exact Nat.le_of_ble_eq_true rfl) (by exact Nat.le_of_ble_eq_true rfl) nd_M_set_55
        · have hc0 := hc
          refine lv_iload_n hx hb nd_M_set_32 rfl (lv_at hl 3 rfl) ?_
          refine lv_aload_n hx hb nd_M_set_33 rfl (lv_at hl 0 rfl) ?_
          refine xw_get (T := nT_M) (N := 4) (ci := 5) hx hb hT nu_M hown hK.1 hw hm rfl 1 (by decide) (hT _ nh_fl_M_14) (fun _ h9 => h9) rfl nd_M_set_34 ?_
          refine lv_iload_n hx hb nd_M_set_37 rfl (lv_at hl 2 rfl) ?_
          refine xw_iald hx hb hK.1 hw 4 hsa rfl (vp_in_nI (by omega) (by decide)) nd_M_set_38 ?_
          refine lv_topi (fun y4 ey5 => ?_)
          obtain rfl : y4 = nI (sz j) := ey5.trans (by rw [nI_clamp (by omega)]; exact hfs _ (by omega))
          refine lv_icmp_ge (tgt := 46) hx hb nd_M_set_39 (by decide) (fun hc => ?_) (fun hc => absurd ⟨Int32.not_lt.mp hc0, Int32.not_le.mp hc⟩ hk)
          refine lv_iconst (v := 0) hx hb nd_M_set_46 (by decide) ?_
          refine lv_iconst (v := 2) hx hb nd_M_set_47 (by decide) ?_
          refine g_calli (va_runV (As := [.int 0, .int 2]) (rest := []) ⟨hx, hb, hml, hown, hts⟩ (c_M_good0 l G w3 mo ra sa (mo_b op) 0 2 hm) (cwV (C := nR_M) 2 hts (nw_of (nw_4 nh_ml_M_26 nh_im_M_good nh_se_M_good nh_in_M nh_co_M_good)) rfl rfl rfl (by decide +kernel) ⟨Nat.le_of_ble_eq_true rfl, Nat.le_of_ble_eq_true rfl⟩) (g_preV (ci := 5) (q := (nR_M, nT_M, 4)) hK hw hS rfl hm _) rfl rfl hl.1 rfl (lv_room (Nat.le_of_ble_eq_true rfl)) nd_M_set_48 ⟨by exact Nat.le_of_ble_eq_true rfl, by exact Nat.le_of_ble_eq_true rfl⟩) hS (fun v9 w6 H locs hp hw hS => ?_)
          obtain ⟨rfl, e9⟩ := hp
          obtain ⟨hJ, hF9⟩ := mo_cod hJ e9
          have hF0 := hF0.tr hF9
          obtain ⟨hm, ⟨g, hra, hg⟩, ⟨fs, hsa, hfs⟩, hrow, hinj⟩ := id hJ
          refine lv_if_ne (tgt := 56) hx hb nd_M_set_51 (by decide) (fun hc => absurd rfl hc) (fun hc => ?_)
          refine lv_lconst (v := 0) hx hb nd_M_set_54 (by decide) ?_
          exact g_lret hx hb hr hlocks hw hS (by rw [sp_set_2 hi hj hk]; exact ⟨⟨_, hJ, hv⟩, rfl, hF0⟩) (by exact Nat.le_of_ble_eq_true rfl) (by exact Nat.le_of_ble_eq_true rfl) nd_M_set_55
    · refine lv_aload_n hx hb nd_M_set_0 rfl (lv_at hl 0 rfl) ?_
      refine lv_iload_n hx hb nd_M_set_1 rfl (lv_at hl 1 rfl) ?_
      refine g_calli (va_runS (As := [.int (nI i)]) (rest := [.ref mo]) ⟨hx, hb, hml, hown, hts⟩ (c_M_isSlot1 l G w (nI i) (sp_slh hi)) (cwS 1 hts (nw_of (nw_3 nh_ml_M_22 nh_st_M_isSlot nh_in_M nh_co_M_isSlot)) rfl rfl rfl (by decide +kernel) ⟨Nat.le_of_ble_eq_true rfl, Nat.le_of_ble_eq_true rfl⟩) (g_preS hK hw hS _) rfl rfl hl.1 rfl (lv_room (Nat.le_of_ble_eq_true rfl)) nd_M_set_2 ⟨by exact Nat.le_of_ble_eq_true rfl, by exact Nat.le_of_ble_eq_true rfl⟩) hS (fun v9 w1 H locs hp hw hS => ?_)
      obtain ⟨rfl, hw9⟩ := hp
      rw [hw9] at hw
      refine lv_if_eq (tgt := 19) hx hb nd_M_set_5 (by decide) (fun hc => absurd hc (by decide)) (fun hc => ?_)
      refine lv_iload_n hx hb nd_M_set_8 rfl (lv_at hl 2 rfl) ?_
      refine g_calli (va_runS (As := [.int b]) (rest := [.ref mo]) ⟨hx, hb, hml, hown, hts⟩ (c_M_isSlot0 l G w b hb9) (cwS 1 hts (nw_of (nw_3 nh_ml_M_22 nh_st_M_isSlot nh_in_M nh_co_M_isSlot)) rfl rfl rfl (by decide +kernel) ⟨Nat.le_of_ble_eq_true rfl, Nat.le_of_ble_eq_true rfl⟩) (g_preS hK hw hS _) rfl rfl hl.1 rfl (lv_room (Nat.le_of_ble_eq_true rfl)) nd_M_set_9 ⟨by exact Nat.le_of_ble_eq_true rfl, by exact Nat.le_of_ble_eq_true rfl⟩) hS (fun v9 w2 H locs hp hw hS => ?_)
      obtain ⟨rfl, hw9⟩ := hp
      rw [hw9] at hw
      refine lv_if_eq (tgt := 19) hx hb nd_M_set_12 (by decide) (fun hc => ?_) (fun hc => absurd rfl hc)
      refine lv_iconst (v := 0) hx hb nd_M_set_19 (by decide) ?_
      refine lv_iconst (v := 1) hx hb nd_M_set_20 (by decide) ?_
      refine g_calli (va_runV (As := [.int 0, .int 1]) (rest := []) ⟨hx, hb, hml, hown, hts⟩ (c_M_good0 l G w mo ra sa (mo_b op) cd 1 hm) (cwV (C := nR_M) 2 hts (nw_of (nw_4 nh_ml_M_26 nh_im_M_good nh_se_M_good nh_in_M nh_co_M_good)) rfl rfl rfl (by decide +kernel) ⟨Nat.le_of_ble_eq_true rfl, Nat.le_of_ble_eq_true rfl⟩) (g_preV (ci := 5) (q := (nR_M, nT_M, 4)) hK hw hS rfl hm _) rfl rfl hl.1 rfl (lv_room (Nat.le_of_ble_eq_true rfl)) nd_M_set_21 ⟨by exact Nat.le_of_ble_eq_true rfl, by exact Nat.le_of_ble_eq_true rfl⟩) hS (fun v9 w3 H locs hp hw hS => ?_)
      obtain ⟨rfl, e9⟩ := hp
      obtain ⟨hJ, hF9⟩ := mo_cod hJ e9
      have hF0 := hF0.tr hF9
      obtain ⟨hm, ⟨g, hra, hg⟩, ⟨fs, hsa, hfs⟩, hrow, hinj⟩ := id hJ
      refine lv_if_eq (tgt := 54) hx hb nd_M_set_24 (by decide) (fun hc => ?_) (fun hc => absurd rfl hc)
      refine lv_lconst (v := 0) hx hb nd_M_set_54 (by decide) ?_
      exact g_lret hx hb hr hlocks hw hS (by rw [sp_set_1 (Or.inr hb9)]; exact ⟨⟨_, hJ, hv⟩, rfl, hF0⟩) (by exact Nat.le_of_ble_eq_true rfl) (by exact Nat.le_of_ble_eq_true rfl) nd_M_set_55
  · refine lv_aload_n hx hb nd_M_set_0 rfl (lv_at hl 0 rfl) ?_
    refine lv_iload_n hx hb nd_M_set_1 rfl (lv_at hl 1 rfl) ?_
    refine g_calli (va_runS (As := [.int a]) (rest := [.ref mo]) ⟨hx, hb, hml, hown, hts⟩ (c_M_isSlot0 l G w a ha) (cwS 1 hts (nw_of (nw_3 nh_ml_M_22 nh_st_M_isSlot nh_in_M nh_co_M_isSlot)) rfl rfl rfl (by decide +kernel) ⟨Nat.le_of_ble_eq_true rfl, Nat.le_of_ble_eq_true rfl⟩) (g_preS hK hw hS _) rfl rfl hl.1 rfl (lv_room (Nat.le_of_ble_eq_true rfl)) nd_M_set_2 ⟨by exact Nat.le_of_ble_eq_true rfl, by exact Nat.le_of_ble_eq_true rfl⟩) hS (fun v9 w1 H locs hp hw hS => ?_)
    obtain ⟨rfl, hw9⟩ := hp
    rw [hw9] at hw
    refine lv_if_eq (tgt := 19) hx hb nd_M_set_5 (by decide) (fun hc => ?_) (fun hc => absurd rfl hc)
    refine lv_iconst (v := 0) hx hb nd_M_set_19 (by decide) ?_
    refine lv_iconst (v := 1) hx hb nd_M_set_20 (by decide) ?_
    refine g_calli (va_runV (As := [.int 0, .int 1]) (rest := []) ⟨hx, hb, hml, hown, hts⟩ (c_M_good0 l G w mo ra sa (mo_b op) cd 1 hm) (cwV (C := nR_M) 2 hts (nw_of (nw_4 nh_ml_M_26 nh_im_M_good nh_se_M_good nh_in_M nh_co_M_good)) rfl rfl rfl (by decide +kernel) ⟨Nat.le_of_ble_eq_true rfl, Nat.le_of_ble_eq_true rfl⟩) (g_preV (ci := 5) (q := (nR_M, nT_M, 4)) hK hw hS rfl hm _) rfl rfl hl.1 rfl (lv_room (Nat.le_of_ble_eq_true rfl)) nd_M_set_21 ⟨by exact Nat.le_of_ble_eq_true rfl, by exact Nat.le_of_ble_eq_true rfl⟩) hS (fun v9 w2 H locs hp hw hS => ?_)
    obtain ⟨rfl, e9⟩ := hp
    obtain ⟨hJ, hF9⟩ := mo_cod hJ e9
    have hF0 := hF0.tr hF9
    obtain ⟨hm, ⟨g, hra, hg⟩, ⟨fs, hsa, hfs⟩, hrow, hinj⟩ := id hJ
    refine lv_if_eq (tgt := 54) hx hb nd_M_set_24 (by decide) (fun hc => ?_) (fun hc => absurd rfl hc)
    refine lv_lconst (v := 0) hx hb nd_M_set_54 (by decide) ?_
    exact g_lret hx hb hr hlocks hw hS (by rw [sp_set_1 (Or.inl ha)]; exact ⟨⟨_, hJ, hv⟩, rfl, hF0⟩) (by exact Nat.le_of_ble_eq_true rfl) (by exact Nat.le_of_ble_eq_true rfl) nd_M_set_55

set_option maxHeartbeats 4000000 in
set_option maxRecDepth 100000 in
theorem c_M_at (l : Launch) (G : g_G) (w : xw_W) (mo ra sa : Nat) (rr : Nat → Nat) (S : sp_S) (cd : Int32) (hI : mo_I G w mo ra sa rr S cd) (a k : Int32) : Met l ny_M_at nw_M_at ({ frames := 1, cells := 0, slots := 0, locals := 30 }) (g_Pc G w [.ref mo, .int a, .int k]) (g_Ql G (fun v9 w' => mo_Post G w mo ra sa rr (sp_at S a k) v9 w')) 0 0 (xw_A (g_b G)) := by
  refine g_met (by decide) (Nat.le_of_ble_eq_true rfl) rfl ?_
  intro p e s m below meth c ls hx hb hr hts hown hlocks hin hml hl hK hB hw hS
  have hT : ∀ w ∈ nw_T, w.before _ s = true := fun w h => hts w (List.mem_cons_of_mem _ h)
  have hown : s.vm.findClass "RadixShelfModel" = some m.cls := hown
  have hl : lv_has ls 3 [(0, .ref mo), (1, .int a), (2, .int k)] := hl
  obtain ⟨op, sz, vs⟩ := S
  obtain ⟨f, hJ9, hv9⟩ := hI
  have hJ : mo_J G w mo ra sa rr op sz f cd := hJ9
  have hv : ∀ k, k < 17 → ∀ z, z < sz k → f k z = vs k z := hv9
  clear hJ9 hv9
  have hF0 : mo_F mo sa rr w w := mo_F.rf
  obtain ⟨hm, ⟨g, hra, hg⟩, ⟨fs, hsa, hfs⟩, hrow, hinj⟩ := id hJ
  by_cases ha : 0 ≤ a ∧ a ≤ 15
  · obtain ⟨j, hj, rfl⟩ := sp_sl_of ha
    refine lv_aload_n hx hb nd_M_at_0 rfl (lv_at hl 0 rfl) ?_
    refine lv_iload_n hx hb nd_M_at_1 rfl (lv_at hl 1 rfl) ?_
    refine g_calli (va_runS (As := [.int (nI j)]) (rest := [.ref mo]) ⟨hx, hb, hml, hown, hts⟩ (c_M_isSlot1 l G w (nI j) (sp_slh hj)) (cwS 1 hts (nw_of (nw_3 nh_ml_M_22 nh_st_M_isSlot nh_in_M nh_co_M_isSlot)) rfl rfl rfl (by decide +kernel) ⟨Nat.le_of_ble_eq_true rfl, Nat.le_of_ble_eq_true rfl⟩) (g_preS hK hw hS _) rfl rfl hl.1 rfl (lv_room (Nat.le_of_ble_eq_true rfl)) nd_M_at_2 ⟨by exact Nat.le_of_ble_eq_true rfl, by exact Nat.le_of_ble_eq_true rfl⟩) hS (fun v9 w1 H locs hp hw hS => ?_)
    obtain ⟨rfl, hw9⟩ := hp
    rw [hw9] at hw
    refine lv_iconst (v := 1) hx hb nd_M_at_5 (by decide) ?_
    refine g_calli (va_runV (As := [.int 1, .int 1]) (rest := []) ⟨hx, hb, hml, hown, hts⟩ (c_M_good1 l G w mo ra sa (mo_b op) cd 1 hm) (cwV (C := nR_M) 2 hts (nw_of (nw_4 nh_ml_M_26 nh_im_M_good nh_se_M_good nh_in_M nh_co_M_good)) rfl rfl rfl (by decide +kernel) ⟨Nat.le_of_ble_eq_true rfl, Nat.le_of_ble_eq_true rfl⟩) (g_preV (ci := 5) (q := (nR_M, nT_M, 4)) hK hw hS rfl hm _) rfl rfl hl.1 rfl (lv_room (Nat.le_of_ble_eq_true rfl)) nd_M_at_6 ⟨by exact Nat.le_of_ble_eq_true rfl, by exact Nat.le_of_ble_eq_true rfl⟩) hS (fun v9 w2 H locs hp hw hS => ?_)
    obtain ⟨rfl, e9⟩ := hp
    obtain ⟨hJ, hF9⟩ := mo_cod hJ e9
    have hF0 := hF0.tr hF9
    obtain ⟨hm, ⟨g, hra, hg⟩, ⟨fs, hsa, hfs⟩, hrow, hinj⟩ := id hJ
    refine lv_if_eq (tgt := 39) hx hb nd_M_at_9 (by decide) (fun hc => absurd hc (by decide)) (fun hc => ?_)
    have hj3 : sz j ≤ 3000 := (hrow j (by omega)).1
    by_cases hk : 0 ≤ k ∧ k < nI (sz j)
    · obtain ⟨x, hx1, rfl⟩ := sp_elo hj3 hk
      refine lv_aload_n hx hb nd_M_at_12 rfl (lv_at hl 0 rfl) ?_
      refine lv_iload_n hx hb nd_M_at_13 rfl (lv_at hl 2 rfl) ?_
      refine lv_if_lt (tgt := 31) hx hb nd_M_at_14 (by decide) (fun hc => absurd hc (nI_pos (by omega))) (fun hc => ?_)
      refine lv_iload_n hx hb nd_M_at_17 rfl (lv_at hl 2 rfl) ?_
      refine lv_aload_n hx hb nd_M_at_18 rfl (lv_at hl 0 rfl) ?_
      refine xw_get (T := nT_M) (N := 4) (ci := 5) hx hb hT nu_M hown hK.1 hw hm rfl 1 (by decide) (hT _ nh_fl_M_14) (fun _ h9 => h9) rfl nd_M_at_19 ?_
      refine lv_iload_n hx hb nd_M_at_22 rfl (lv_at hl 1 rfl) ?_
      refine xw_iald hx hb hK.1 hw 4 hsa rfl (vp_in_nI (by omega) (by decide)) nd_M_at_23 ?_
      refine lv_topi (fun y3 ey4 => ?_)
      obtain rfl : y3 = nI (sz j) := ey4.trans (by rw [nI_clamp (by omega)]; exact hfs _ (by omega))
      refine lv_icmp_ge (tgt := 31) hx hb nd_M_at_24 (by decide) (fun hc => absurd hc (nI_ge hx1 (by omega))) (fun hc => ?_)
      refine lv_iconst (v := 1) hx hb nd_M_at_27 (by decide) ?_
      refine lv_goto (tgt := 32) hx hb nd_M_at_28 (by decide) ?_
      refine lv_iconst (v := 2) hx hb nd_M_at_32 (by decide) ?_
      refine g_calli (va_runV (As := [.int 1, .int 2]) (rest := []) ⟨hx, hb, hml, hown, hts⟩ (c_M_good1 l G w2 mo ra sa (mo_b op) 0 2 hm) (cwV (C := nR_M) 2 hts (nw_of (nw_4 nh_ml_M_26 nh_im_M_good nh_se_M_good nh_in_M nh_co_M_good)) rfl rfl rfl (by decide +kernel) ⟨Nat.le_of_ble_eq_true rfl, Nat.le_of_ble_eq_true rfl⟩) (g_preV (ci := 5) (q := (nR_M, nT_M, 4)) hK hw hS rfl hm _) rfl rfl hl.1 rfl (lv_room (Nat.le_of_ble_eq_true rfl)) nd_M_at_33 ⟨by exact Nat.le_of_ble_eq_true rfl, by exact Nat.le_of_ble_eq_true rfl⟩) hS (fun v9 w5 H locs hp hw hS => ?_)
      obtain ⟨rfl, e9⟩ := hp
      obtain ⟨hJ, hF9⟩ := mo_cod hJ e9
      have hF0 := hF0.tr hF9
      obtain ⟨hm, ⟨g, hra, hg⟩, ⟨fs, hsa, hfs⟩, hrow, hinj⟩ := id hJ
      refine lv_if_ne (tgt := 41) hx hb nd_M_at_36 (by decide) (fun hc => ?_) (fun hc => absurd hc (by decide))
      refine lv_aload_n hx hb nd_M_at_41 rfl (lv_at hl 0 rfl) ?_
      refine xw_get (T := nT_M) (N := 4) (ci := 5) hx hb hT nu_M hown hK.1 hw hm rfl 0 (by decide) (hT _ nh_fl_M_11) (fun _ h9 => h9) rfl nd_M_at_42 ?_
      refine lv_iload_n hx hb nd_M_at_45 rfl (lv_at hl 1 rfl) ?_
      refine xw_aaldA (y := (rr j)) hx hb hK.1 hw 5 hra rfl (vp_in_nI (by omega) (by decide)) (by rw [nI_clamp (by omega)]; exact hg _ (by omega)) nd_M_at_46 ?_
      have hr_j := (hrow j (by omega)).2
      refine lv_iload_n hx hb nd_M_at_47 rfl (lv_at hl 2 rfl) ?_
      refine xw_lald hx hb hK.1 hw 0 hr_j rfl (vp_in_nI (by omega) (by decide)) nd_M_at_48 ?_
      refine lv_topl (fun y6 ey7 => ?_)
      obtain rfl : y6 = vs j x := ey7.trans (by rw [nI_clamp (by omega)]; exact hv j (by omega) x hx1)
      exact g_lret hx hb hr hlocks hw hS (by rw [sp_at_0 hj hj3 hx1]; exact ⟨⟨_, hJ, hv⟩, rfl, hF0⟩) (by exact Nat.le_of_ble_eq_true rfl) (by exact Nat.le_of_ble_eq_true rfl) nd_M_at_49
    · refine lv_aload_n hx hb nd_M_at_12 rfl (lv_at hl 0 rfl) ?_
      refine lv_iload_n hx hb nd_M_at_13 rfl (lv_at hl 2 rfl) ?_
      refine lv_if_lt (tgt := 31) hx hb nd_M_at_14 (by decide) (fun hc => ?_) (fun hc => ?_)
      · refine lv_iconst (v := 0) hx hb nd_M_at_31 (by decide) ?_
        refine lv_iconst (v := 2) hx hb nd_M_at_32 (by decide) ?_
        refine g_calli (va_runV (As := [.int 0, .int 2]) (rest := []) ⟨hx, hb, hml, hown, hts⟩ (c_M_good0 l G w2 mo ra sa (mo_b op) 0 2 hm) (cwV (C := nR_M) 2 hts (nw_of (nw_4 nh_ml_M_26 nh_im_M_good nh_se_M_good nh_in_M nh_co_M_good)) rfl rfl rfl (by decide +kernel) ⟨Nat.le_of_ble_eq_true rfl, Nat.le_of_ble_eq_true rfl⟩) (g_preV (ci := 5) (q := (nR_M, nT_M, 4)) hK hw hS rfl hm _) rfl rfl hl.1 rfl (lv_room (Nat.le_of_ble_eq_true rfl)) nd_M_at_33 ⟨by exact Nat.le_of_ble_eq_true rfl, by exact Nat.le_of_ble_eq_true rfl⟩) hS (fun v9 w3 H locs hp hw hS => ?_)
        obtain ⟨rfl, e9⟩ := hp
        obtain ⟨hJ, hF9⟩ := mo_cod hJ e9
        have hF0 := hF0.tr hF9
        obtain ⟨hm, ⟨g, hra, hg⟩, ⟨fs, hsa, hfs⟩, hrow, hinj⟩ := id hJ
        refine lv_if_ne (tgt := 41) hx hb nd_M_at_36 (by decide) (fun hc => absurd rfl hc) (fun hc => ?_)
        refine lv_lconst (v := 0) hx hb nd_M_at_39 (by decide) ?_
        exact g_lret hx hb hr hlocks hw hS (by rw [sp_at_2 hj hk]; exact ⟨⟨_, hJ, hv⟩, rfl, hF0⟩) (by exact Nat.le_of_ble_eq_true rfl) (by exact Nat.le_of_ble_eq_true rfl) nd_M_at_40
      · have hc0 := hc
        refine lv_iload_n hx hb nd_M_at_17 rfl (lv_at hl 2 rfl) ?_
        refine lv_aload_n hx hb nd_M_at_18 rfl (lv_at hl 0 rfl) ?_
        refine xw_get (T := nT_M) (N := 4) (ci := 5) hx hb hT nu_M hown hK.1 hw hm rfl 1 (by decide) (hT _ nh_fl_M_14) (fun _ h9 => h9) rfl nd_M_at_19 ?_
        refine lv_iload_n hx hb nd_M_at_22 rfl (lv_at hl 1 rfl) ?_
        refine xw_iald hx hb hK.1 hw 4 hsa rfl (vp_in_nI (by omega) (by decide)) nd_M_at_23 ?_
        refine lv_topi (fun y3 ey4 => ?_)
        obtain rfl : y3 = nI (sz j) := ey4.trans (by rw [nI_clamp (by omega)]; exact hfs _ (by omega))
        refine lv_icmp_ge (tgt := 31) hx hb nd_M_at_24 (by decide) (fun hc => ?_) (fun hc => absurd ⟨Int32.not_lt.mp hc0, Int32.not_le.mp hc⟩ hk)
        refine lv_iconst (v := 0) hx hb nd_M_at_31 (by decide) ?_
        refine lv_iconst (v := 2) hx hb nd_M_at_32 (by decide) ?_
        refine g_calli (va_runV (As := [.int 0, .int 2]) (rest := []) ⟨hx, hb, hml, hown, hts⟩ (c_M_good0 l G w2 mo ra sa (mo_b op) 0 2 hm) (cwV (C := nR_M) 2 hts (nw_of (nw_4 nh_ml_M_26 nh_im_M_good nh_se_M_good nh_in_M nh_co_M_good)) rfl rfl rfl (by decide +kernel) ⟨Nat.le_of_ble_eq_true rfl, Nat.le_of_ble_eq_true rfl⟩) (g_preV (ci := 5) (q := (nR_M, nT_M, 4)) hK hw hS rfl hm _) rfl rfl hl.1 rfl (lv_room (Nat.le_of_ble_eq_true rfl)) nd_M_at_33 ⟨by exact Nat.le_of_ble_eq_true rfl, by exact Nat.le_of_ble_eq_true rfl⟩) hS (fun v9 w5 H locs hp hw hS => ?_)
        obtain ⟨rfl, e9⟩ := hp
        obtain ⟨hJ, hF9⟩ := mo_cod hJ e9
        have hF0 := hF0.tr hF9
        obtain ⟨hm, ⟨g, hra, hg⟩, ⟨fs, hsa, hfs⟩, hrow, hinj⟩ := id hJ
        refine lv_if_ne (tgt := 41) hx hb nd_M_at_36 (by decide) (fun hc => absurd rfl hc) (fun hc => ?_)
        refine lv_lconst (v := 0) hx hb nd_M_at_39 (by decide) ?_
        exact g_lret hx hb hr hlocks hw hS (by rw [sp_at_2 hj hk]; exact ⟨⟨_, hJ, hv⟩, rfl, hF0⟩) (by exact Nat.le_of_ble_eq_true rfl) (by exact Nat.le_of_ble_eq_true rfl) nd_M_at_40
  · refine lv_aload_n hx hb nd_M_at_0 rfl (lv_at hl 0 rfl) ?_
    refine lv_iload_n hx hb nd_M_at_1 rfl (lv_at hl 1 rfl) ?_
    refine g_calli (va_runS (As := [.int a]) (rest := [.ref mo]) ⟨hx, hb, hml, hown, hts⟩ (c_M_isSlot0 l G w a ha) (cwS 1 hts (nw_of (nw_3 nh_ml_M_22 nh_st_M_isSlot nh_in_M nh_co_M_isSlot)) rfl rfl rfl (by decide +kernel) ⟨Nat.le_of_ble_eq_true rfl, Nat.le_of_ble_eq_true rfl⟩) (g_preS hK hw hS _) rfl rfl hl.1 rfl (lv_room (Nat.le_of_ble_eq_true rfl)) nd_M_at_2 ⟨by exact Nat.le_of_ble_eq_true rfl, by exact Nat.le_of_ble_eq_true rfl⟩) hS (fun v9 w1 H locs hp hw hS => ?_)
    obtain ⟨rfl, hw9⟩ := hp
    rw [hw9] at hw
    refine lv_iconst (v := 1) hx hb nd_M_at_5 (by decide) ?_
    refine g_calli (va_runV (As := [.int 0, .int 1]) (rest := []) ⟨hx, hb, hml, hown, hts⟩ (c_M_good0 l G w mo ra sa (mo_b op) cd 1 hm) (cwV (C := nR_M) 2 hts (nw_of (nw_4 nh_ml_M_26 nh_im_M_good nh_se_M_good nh_in_M nh_co_M_good)) rfl rfl rfl (by decide +kernel) ⟨Nat.le_of_ble_eq_true rfl, Nat.le_of_ble_eq_true rfl⟩) (g_preV (ci := 5) (q := (nR_M, nT_M, 4)) hK hw hS rfl hm _) rfl rfl hl.1 rfl (lv_room (Nat.le_of_ble_eq_true rfl)) nd_M_at_6 ⟨by exact Nat.le_of_ble_eq_true rfl, by exact Nat.le_of_ble_eq_true rfl⟩) hS (fun v9 w2 H locs hp hw hS => ?_)
    obtain ⟨rfl, e9⟩ := hp
    obtain ⟨hJ, hF9⟩ := mo_cod hJ e9
    have hF0 := hF0.tr hF9
    obtain ⟨hm, ⟨g, hra, hg⟩, ⟨fs, hsa, hfs⟩, hrow, hinj⟩ := id hJ
    refine lv_if_eq (tgt := 39) hx hb nd_M_at_9 (by decide) (fun hc => ?_) (fun hc => absurd rfl hc)
    refine lv_lconst (v := 0) hx hb nd_M_at_39 (by decide) ?_
    exact g_lret hx hb hr hlocks hw hS (by rw [sp_at_1 ha]; exact ⟨⟨_, hJ, hv⟩, rfl, hF0⟩) (by exact Nat.le_of_ble_eq_true rfl) (by exact Nat.le_of_ble_eq_true rfl) nd_M_at_40

set_option maxHeartbeats 4000000 in
set_option maxRecDepth 100000 in
theorem c_M_size (l : Launch) (G : g_G) (w : xw_W) (mo ra sa : Nat) (rr : Nat → Nat) (S : sp_S) (cd : Int32) (hI : mo_I G w mo ra sa rr S cd) (a : Int32) : Met l ny_M_size nw_M_size ({ frames := 1, cells := 0, slots := 0, locals := 30 }) (g_Pc G w [.ref mo, .int a]) (g_Qi G (fun v9 w' => mo_Post G w mo ra sa rr (sp_size S a) v9.toInt64 w')) 0 0 (xw_A (g_b G)) := by
  refine g_met (by decide) (Nat.le_of_ble_eq_true rfl) rfl ?_
  intro p e s m below meth c ls hx hb hr hts hown hlocks hin hml hl hK hB hw hS
  have hT : ∀ w ∈ nw_T, w.before _ s = true := fun w h => hts w (List.mem_cons_of_mem _ h)
  have hown : s.vm.findClass "RadixShelfModel" = some m.cls := hown
  have hl : lv_has ls 2 [(0, .ref mo), (1, .int a)] := hl
  obtain ⟨op, sz, vs⟩ := S
  obtain ⟨f, hJ9, hv9⟩ := hI
  have hJ : mo_J G w mo ra sa rr op sz f cd := hJ9
  have hv : ∀ k, k < 17 → ∀ z, z < sz k → f k z = vs k z := hv9
  clear hJ9 hv9
  have hF0 : mo_F mo sa rr w w := mo_F.rf
  obtain ⟨hm, ⟨g, hra, hg⟩, ⟨fs, hsa, hfs⟩, hrow, hinj⟩ := id hJ
  by_cases ha : 0 ≤ a ∧ a ≤ 15
  · obtain ⟨j, hj, rfl⟩ := sp_sl_of ha
    refine lv_aload_n hx hb nd_M_size_0 rfl (lv_at hl 0 rfl) ?_
    refine lv_iload_n hx hb nd_M_size_1 rfl (lv_at hl 1 rfl) ?_
    refine g_calli (va_runS (As := [.int (nI j)]) (rest := [.ref mo]) ⟨hx, hb, hml, hown, hts⟩ (c_M_isSlot1 l G w (nI j) (sp_slh hj)) (cwS 1 hts (nw_of (nw_3 nh_ml_M_22 nh_st_M_isSlot nh_in_M nh_co_M_isSlot)) rfl rfl rfl (by decide +kernel) ⟨Nat.le_of_ble_eq_true rfl, Nat.le_of_ble_eq_true rfl⟩) (g_preS hK hw hS _) rfl rfl hl.1 rfl (lv_room (Nat.le_of_ble_eq_true rfl)) nd_M_size_2 ⟨by exact Nat.le_of_ble_eq_true rfl, by exact Nat.le_of_ble_eq_true rfl⟩) hS (fun v9 w1 H locs hp hw hS => ?_)
    obtain ⟨rfl, hw9⟩ := hp
    rw [hw9] at hw
    refine lv_iconst (v := 1) hx hb nd_M_size_5 (by decide) ?_
    refine g_calli (va_runV (As := [.int 1, .int 1]) (rest := []) ⟨hx, hb, hml, hown, hts⟩ (c_M_good1 l G w mo ra sa (mo_b op) cd 1 hm) (cwV (C := nR_M) 2 hts (nw_of (nw_4 nh_ml_M_26 nh_im_M_good nh_se_M_good nh_in_M nh_co_M_good)) rfl rfl rfl (by decide +kernel) ⟨Nat.le_of_ble_eq_true rfl, Nat.le_of_ble_eq_true rfl⟩) (g_preV (ci := 5) (q := (nR_M, nT_M, 4)) hK hw hS rfl hm _) rfl rfl hl.1 rfl (lv_room (Nat.le_of_ble_eq_true rfl)) nd_M_size_6 ⟨by exact Nat.le_of_ble_eq_true rfl, by exact Nat.le_of_ble_eq_true rfl⟩) hS (fun v9 w2 H locs hp hw hS => ?_)
    obtain ⟨rfl, e9⟩ := hp
    obtain ⟨hJ, hF9⟩ := mo_cod hJ e9
    have hF0 := hF0.tr hF9
    obtain ⟨hm, ⟨g, hra, hg⟩, ⟨fs, hsa, hfs⟩, hrow, hinj⟩ := id hJ
    refine lv_if_eq (tgt := 21) hx hb nd_M_size_9 (by decide) (fun hc => absurd hc (by decide)) (fun hc => ?_)
    refine lv_aload_n hx hb nd_M_size_12 rfl (lv_at hl 0 rfl) ?_
    refine xw_get (T := nT_M) (N := 4) (ci := 5) hx hb hT nu_M hown hK.1 hw hm rfl 1 (by decide) (hT _ nh_fl_M_14) (fun _ h9 => h9) rfl nd_M_size_13 ?_
    refine lv_iload_n hx hb nd_M_size_16 rfl (lv_at hl 1 rfl) ?_
    refine xw_iald hx hb hK.1 hw 4 hsa rfl (vp_in_nI (by omega) (by decide)) nd_M_size_17 ?_
    refine lv_topi (fun y3 ey4 => ?_)
    obtain rfl : y3 = nI (sz j) := ey4.trans (by rw [nI_clamp (by omega)]; exact hfs _ (by omega))
    refine lv_goto (tgt := 22) hx hb nd_M_size_18 (by decide) ?_
    exact g_iret hx hb hr hlocks hw hS (by rw [sp_size_0 hj]; exact ⟨⟨_, hJ, hv⟩, rfl, hF0⟩) (by exact Nat.le_of_ble_eq_true rfl) (by exact Nat.le_of_ble_eq_true rfl) nd_M_size_22
  · refine lv_aload_n hx hb nd_M_size_0 rfl (lv_at hl 0 rfl) ?_
    refine lv_iload_n hx hb nd_M_size_1 rfl (lv_at hl 1 rfl) ?_
    refine g_calli (va_runS (As := [.int a]) (rest := [.ref mo]) ⟨hx, hb, hml, hown, hts⟩ (c_M_isSlot0 l G w a ha) (cwS 1 hts (nw_of (nw_3 nh_ml_M_22 nh_st_M_isSlot nh_in_M nh_co_M_isSlot)) rfl rfl rfl (by decide +kernel) ⟨Nat.le_of_ble_eq_true rfl, Nat.le_of_ble_eq_true rfl⟩) (g_preS hK hw hS _) rfl rfl hl.1 rfl (lv_room (Nat.le_of_ble_eq_true rfl)) nd_M_size_2 ⟨by exact Nat.le_of_ble_eq_true rfl, by exact Nat.le_of_ble_eq_true rfl⟩) hS (fun v9 w1 H locs hp hw hS => ?_)
    obtain ⟨rfl, hw9⟩ := hp
    rw [hw9] at hw
    refine lv_iconst (v := 1) hx hb nd_M_size_5 (by decide) ?_
    refine g_calli (va_runV (As := [.int 0, .int 1]) (rest := []) ⟨hx, hb, hml, hown, hts⟩ (c_M_good0 l G w mo ra sa (mo_b op) cd 1 hm) (cwV (C := nR_M) 2 hts (nw_of (nw_4 nh_ml_M_26 nh_im_M_good nh_se_M_good nh_in_M nh_co_M_good)) rfl rfl rfl (by decide +kernel) ⟨Nat.le_of_ble_eq_true rfl, Nat.le_of_ble_eq_true rfl⟩) (g_preV (ci := 5) (q := (nR_M, nT_M, 4)) hK hw hS rfl hm _) rfl rfl hl.1 rfl (lv_room (Nat.le_of_ble_eq_true rfl)) nd_M_size_6 ⟨by exact Nat.le_of_ble_eq_true rfl, by exact Nat.le_of_ble_eq_true rfl⟩) hS (fun v9 w2 H locs hp hw hS => ?_)
    obtain ⟨rfl, e9⟩ := hp
    obtain ⟨hJ, hF9⟩ := mo_cod hJ e9
    have hF0 := hF0.tr hF9
    obtain ⟨hm, ⟨g, hra, hg⟩, ⟨fs, hsa, hfs⟩, hrow, hinj⟩ := id hJ
    refine lv_if_eq (tgt := 21) hx hb nd_M_size_9 (by decide) (fun hc => ?_) (fun hc => absurd rfl hc)
    refine lv_iconst (v := 0) hx hb nd_M_size_21 (by decide) ?_
    exact g_iret hx hb hr hlocks hw hS (by rw [sp_size_1 ha]; exact ⟨⟨_, hJ, hv⟩, rfl, hF0⟩) (by exact Nat.le_of_ble_eq_true rfl) (by exact Nat.le_of_ble_eq_true rfl) nd_M_size_22
end
section
set_option maxHeartbeats 4000000 in
set_option maxRecDepth 100000 in
theorem c_M_cut (l : Launch) (G : g_G) (w : xw_W) (mo ra sa : Nat) (rr : Nat → Nat) (S : sp_S) (cd : Int32) (hI : mo_I G w mo ra sa rr S cd) (a b p0 p1 : Int32) : Met l ny_M_cut nw_M_cut ({ frames := 1, cells := 0, slots := 0, locals := 30 }) (g_Pc G w [.ref mo, .int a, .int b, .int p0, .int p1]) (g_Qi G (fun v9 w' => mo_Post G w mo ra sa rr (sp_cut S a b p0 p1) v9.toInt64 w')) 0 0 (xw_A (g_b G)) := by
  refine g_met (by decide) (Nat.le_of_ble_eq_true rfl) rfl ?_
  intro p e s m below meth c ls hx hb hr hts hown hlocks hin hml hl hK hB hw hS
  have hT : ∀ w ∈ nw_T, w.before _ s = true := fun w h => hts w (List.mem_cons_of_mem _ h)
  have hown : s.vm.findClass "RadixShelfModel" = some m.cls := hown
  have hl : lv_has ls 7 [(0, .ref mo), (1, .int a), (2, .int b), (3, .int p0), (4, .int p1)] := hl
  obtain ⟨op, sz, vs⟩ := S
  obtain ⟨f, hJ9, hv9⟩ := hI
  have hJ : mo_J G w mo ra sa rr op sz f cd := hJ9
  have hv : ∀ k, k < 17 → ∀ z, z < sz k → f k z = vs k z := hv9
  clear hJ9 hv9
  have hF0 : mo_F mo sa rr w w := mo_F.rf
  obtain ⟨hm, ⟨g, hra, hg⟩, ⟨fs, hsa, hfs⟩, hrow, hinj⟩ := id hJ
  by_cases ha : 0 ≤ a ∧ a ≤ 15
  · obtain ⟨i, hi, rfl⟩ := sp_sl_of ha
    by_cases hb9 : 0 ≤ b ∧ b ≤ 15
    · refine lv_aload_n hx hb nd_M_cut_0 rfl (lv_at hl 0 rfl) ?_
      refine lv_iload_n hx hb nd_M_cut_1 rfl (lv_at hl 1 rfl) ?_
      refine g_calli (va_runS (As := [.int (nI i)]) (rest := [.ref mo]) ⟨hx, hb, hml, hown, hts⟩ (c_M_isSlot1 l G w (nI i) (sp_slh hi)) (cwS 1 hts (nw_of (nw_3 nh_ml_M_22 nh_st_M_isSlot nh_in_M nh_co_M_isSlot)) rfl rfl rfl (by decide +kernel) ⟨Nat.le_of_ble_eq_true rfl, Nat.le_of_ble_eq_true rfl⟩) (g_preS hK hw hS _) rfl rfl hl.1 rfl (lv_room (Nat.le_of_ble_eq_true rfl)) nd_M_cut_2 ⟨by exact Nat.le_of_ble_eq_true rfl, by exact Nat.le_of_ble_eq_true rfl⟩) hS (fun v9 w1 H locs hp hw hS => ?_)
      obtain ⟨rfl, hw9⟩ := hp
      rw [hw9] at hw
      refine lv_if_eq (tgt := 28) hx hb nd_M_cut_5 (by decide) (fun hc => absurd hc (by decide)) (fun hc => ?_)
      obtain ⟨j, hj, rfl⟩ := sp_sl_of hb9
      refine lv_iload_n hx hb nd_M_cut_8 rfl (lv_at hl 2 rfl) ?_
      refine g_calli (va_runS (As := [.int (nI j)]) (rest := [.ref mo]) ⟨hx, hb, hml, hown, hts⟩ (c_M_isSlot1 l G w (nI j) (sp_slh hj)) (cwS 1 hts (nw_of (nw_3 nh_ml_M_22 nh_st_M_isSlot nh_in_M nh_co_M_isSlot)) rfl rfl rfl (by decide +kernel) ⟨Nat.le_of_ble_eq_true rfl, Nat.le_of_ble_eq_true rfl⟩) (g_preS hK hw hS _) rfl rfl hl.1 rfl (lv_room (Nat.le_of_ble_eq_true rfl)) nd_M_cut_9 ⟨by exact Nat.le_of_ble_eq_true rfl, by exact Nat.le_of_ble_eq_true rfl⟩) hS (fun v9 w2 H locs hp hw hS => ?_)
      obtain ⟨rfl, hw9⟩ := hp
      rw [hw9] at hw
      refine lv_if_eq (tgt := 28) hx hb nd_M_cut_12 (by decide) (fun hc => absurd hc (by decide)) (fun hc => ?_)
      refine lv_iload_n hx hb nd_M_cut_15 rfl (lv_at hl 3 rfl) ?_
      refine lv_if_lt (tgt := 28) hx hb nd_M_cut_16 (by decide) (fun hp0 => ?_) (fun hp0 => ?_)
      · refine lv_iconst (v := 0) hx hb nd_M_cut_28 (by decide) ?_
        refine lv_iconst (v := 1) hx hb nd_M_cut_29 (by decide) ?_
        refine g_calli (va_runV (As := [.int 0, .int 1]) (rest := []) ⟨hx, hb, hml, hown, hts⟩ (c_M_good0 l G w mo ra sa (mo_b op) cd 1 hm) (cwV (C := nR_M) 2 hts (nw_of (nw_4 nh_ml_M_26 nh_im_M_good nh_se_M_good nh_in_M nh_co_M_good)) rfl rfl rfl (by decide +kernel) ⟨Nat.le_of_ble_eq_true rfl, Nat.le_of_ble_eq_true rfl⟩) (g_preV (ci := 5) (q := (nR_M, nT_M, 4)) hK hw hS rfl hm _) rfl rfl hl.1 rfl (lv_room (Nat.le_of_ble_eq_true rfl)) nd_M_cut_30 ⟨by exact Nat.le_of_ble_eq_true rfl, by exact Nat.le_of_ble_eq_true rfl⟩) hS (fun v9 w3 H locs hp hw hS => ?_)
        obtain ⟨rfl, e9⟩ := hp
        obtain ⟨hJ, hF9⟩ := mo_cod hJ e9
        have hF0 := hF0.tr hF9
        obtain ⟨hm, ⟨g, hra, hg⟩, ⟨fs, hsa, hfs⟩, hrow, hinj⟩ := id hJ
        refine lv_if_eq (tgt := 66) hx hb nd_M_cut_33 (by decide) (fun hc => ?_) (fun hc => absurd rfl hc)
        refine lv_iconst (v := 0) hx hb nd_M_cut_66 (by decide) ?_
        exact g_iret hx hb hr hlocks hw hS (by rw [sp_cut_1 (Or.inr (Or.inr (Or.inl (Int32.not_le.mpr hp0))))]; exact ⟨⟨_, hJ, hv⟩, rfl, hF0⟩) (by exact Nat.le_of_ble_eq_true rfl) (by exact Nat.le_of_ble_eq_true rfl) nd_M_cut_67
      · refine lv_iload hx hb nd_M_cut_19 (lv_at hl 4 rfl) ?_
        refine lv_if_lt (tgt := 28) hx hb nd_M_cut_21 (by decide) (fun hp1 => ?_) (fun hp1 => ?_)
        · refine lv_iconst (v := 0) hx hb nd_M_cut_28 (by decide) ?_
          refine lv_iconst (v := 1) hx hb nd_M_cut_29 (by decide) ?_
          refine g_calli (va_runV (As := [.int 0, .int 1]) (rest := []) ⟨hx, hb, hml, hown, hts⟩ (c_M_good0 l G w mo ra sa (mo_b op) cd 1 hm) (cwV (C := nR_M) 2 hts (nw_of (nw_4 nh_ml_M_26 nh_im_M_good nh_se_M_good nh_in_M nh_co_M_good)) rfl rfl rfl (by decide +kernel) ⟨Nat.le_of_ble_eq_true rfl, Nat.le_of_ble_eq_true rfl⟩) (g_preV (ci := 5) (q := (nR_M, nT_M, 4)) hK hw hS rfl hm _) rfl rfl hl.1 rfl (lv_room (Nat.le_of_ble_eq_true rfl)) nd_M_cut_30 ⟨by exact Nat.le_of_ble_eq_true rfl, by exact Nat.le_of_ble_eq_true rfl⟩) hS (fun v9 w3 H locs hp hw hS => ?_)
          obtain ⟨rfl, e9⟩ := hp
          obtain ⟨hJ, hF9⟩ := mo_cod hJ e9
          have hF0 := hF0.tr hF9
          obtain ⟨hm, ⟨g, hra, hg⟩, ⟨fs, hsa, hfs⟩, hrow, hinj⟩ := id hJ
          refine lv_if_eq (tgt := 66) hx hb nd_M_cut_33 (by decide) (fun hc => ?_) (fun hc => absurd rfl hc)
          refine lv_iconst (v := 0) hx hb nd_M_cut_66 (by decide) ?_
          exact g_iret hx hb hr hlocks hw hS (by rw [sp_cut_1 (Or.inr (Or.inr (Or.inr (Int32.not_le.mpr hp1))))]; exact ⟨⟨_, hJ, hv⟩, rfl, hF0⟩) (by exact Nat.le_of_ble_eq_true rfl) (by exact Nat.le_of_ble_eq_true rfl) nd_M_cut_67
        · obtain ⟨x, hx1, rfl⟩ := nI_of hp0
          obtain ⟨y0, hy1, rfl⟩ := nI_of hp1
          refine lv_iconst (v := 1) hx hb nd_M_cut_24 (by decide) ?_
          refine lv_goto (tgt := 29) hx hb nd_M_cut_25 (by decide) ?_
          refine lv_iconst (v := 1) hx hb nd_M_cut_29 (by decide) ?_
          refine g_calli (va_runV (As := [.int 1, .int 1]) (rest := []) ⟨hx, hb, hml, hown, hts⟩ (c_M_good1 l G w mo ra sa (mo_b op) cd 1 hm) (cwV (C := nR_M) 2 hts (nw_of (nw_4 nh_ml_M_26 nh_im_M_good nh_se_M_good nh_in_M nh_co_M_good)) rfl rfl rfl (by decide +kernel) ⟨Nat.le_of_ble_eq_true rfl, Nat.le_of_ble_eq_true rfl⟩) (g_preV (ci := 5) (q := (nR_M, nT_M, 4)) hK hw hS rfl hm _) rfl rfl hl.1 rfl (lv_room (Nat.le_of_ble_eq_true rfl)) nd_M_cut_30 ⟨by exact Nat.le_of_ble_eq_true rfl, by exact Nat.le_of_ble_eq_true rfl⟩) hS (fun v9 w3 H locs hp hw hS => ?_)
          obtain ⟨rfl, e9⟩ := hp
          obtain ⟨hJ, hF9⟩ := mo_cod hJ e9
          have hF0 := hF0.tr hF9
          obtain ⟨hm, ⟨g, hra, hg⟩, ⟨fs, hsa, hfs⟩, hrow, hinj⟩ := id hJ
          refine lv_if_eq (tgt := 66) hx hb nd_M_cut_33 (by decide) (fun hc => absurd hc (by decide)) (fun hc => ?_)
          have hj3 : sz j ≤ 3000 := (hrow j (by omega)).1
          refine lv_aload_n hx hb nd_M_cut_36 rfl (lv_at hl 0 rfl) ?_
          refine lv_iload_n hx hb nd_M_cut_37 rfl (lv_at hl 3 rfl) ?_
          refine lv_i2l hx hb nd_M_cut_38 rfl ?_
          refine lv_iload hx hb nd_M_cut_39 (lv_at hl 4 rfl) ?_
          refine lv_i2l hx hb nd_M_cut_41 rfl ?_
          refine lv_ladd hx hb nd_M_cut_42 ?_
          refine lv_topl (fun y4 ey5 => ?_)
          obtain rfl : y4 = lN (x + y0) := ey5.trans (by rw [nI_l hx1, nI_l hy1, lN_add])
          refine lv_aload_n hx hb nd_M_cut_43 rfl (lv_at hl 0 rfl) ?_
          refine xw_get (T := nT_M) (N := 4) (ci := 5) hx hb hT nu_M hown hK.1 hw hm rfl 1 (by decide) (hT _ nh_fl_M_14) (fun _ h9 => h9) rfl nd_M_cut_44 ?_
          refine lv_iload_n hx hb nd_M_cut_47 rfl (lv_at hl 2 rfl) ?_
          refine xw_iald hx hb hK.1 hw 4 hsa rfl (vp_in_nI (by omega) (by decide)) nd_M_cut_48 ?_
          refine lv_topi (fun y6 ey7 => ?_)
          obtain rfl : y6 = nI (sz j) := ey7.trans (by rw [nI_clamp (by omega)]; exact hfs _ (by omega))
          refine lv_i2l hx hb nd_M_cut_49 rfl ?_
          refine lv_topl (fun y8 ey9 => ?_)
          obtain rfl : y8 = lN (sz j) := ey9.trans (nI_l (by omega))
          refine W.lcmp hx hb nd_M_cut_50 ?_
          refine lv_if_gt (tgt := 58) hx hb nd_M_cut_51 (by decide) (fun hc => ?_) (fun hc => ?_)
          · have hs : ¬ x + y0 ≤ sz j := fun z => absurd ((sp_cmp (by omega) (by omega)).mpr z) (Int32.not_le.mpr hc)
            refine lv_iconst (v := 0) hx hb nd_M_cut_58 (by decide) ?_
            refine lv_iconst (v := 2) hx hb nd_M_cut_59 (by decide) ?_
            refine g_calli (va_runV (As := [.int 0, .int 2]) (rest := []) ⟨hx, hb, hml, hown, hts⟩ (c_M_good0 l G w3 mo ra sa (mo_b op) 0 2 hm) (cwV (C := nR_M) 2 hts (nw_of (nw_4 nh_ml_M_26 nh_im_M_good nh_se_M_good nh_in_M nh_co_M_good)) rfl rfl rfl (by decide +kernel) ⟨Nat.le_of_ble_eq_true rfl, Nat.le_of_ble_eq_true rfl⟩) (g_preV (ci := 5) (q := (nR_M, nT_M, 4)) hK hw hS rfl hm _) rfl rfl hl.1 rfl (lv_room (Nat.le_of_ble_eq_true rfl)) nd_M_cut_60 ⟨by exact Nat.le_of_ble_eq_true rfl, by exact Nat.le_of_ble_eq_true rfl⟩) hS (fun v9 w10 H locs hp hw hS => ?_)
            obtain ⟨rfl, e9⟩ := hp
            obtain ⟨hJ, hF9⟩ := mo_cod hJ e9
            have hF0 := hF0.tr hF9
            obtain ⟨hm, ⟨g, hra, hg⟩, ⟨fs, hsa, hfs⟩, hrow, hinj⟩ := id hJ
            refine lv_if_ne (tgt := 68) hx hb nd_M_cut_63 (by decide) (fun hc => absurd rfl hc) (fun hc => ?_)
            refine lv_iconst (v := 0) hx hb nd_M_cut_66 (by decide) ?_
            exact g_iret hx hb hr hlocks hw hS (by rw [sp_cut_2 hi hj hx1 hy1 hs]; exact ⟨⟨_, hJ, hv⟩, rfl, hF0⟩) (by exact Nat.le_of_ble_eq_true rfl) (by exact Nat.le_of_ble_eq_true rfl) nd_M_cut_67
          · have hs : x + y0 ≤ sz j := (sp_cmp (by omega) (by omega)).mp (Int32.not_lt.mp hc)
            refine lv_iconst (v := 1) hx hb nd_M_cut_54 (by decide) ?_
            refine lv_goto (tgt := 59) hx hb nd_M_cut_55 (by decide) ?_
            refine lv_iconst (v := 2) hx hb nd_M_cut_59 (by decide) ?_
            refine g_calli (va_runV (As := [.int 1, .int 2]) (rest := []) ⟨hx, hb, hml, hown, hts⟩ (c_M_good1 l G w3 mo ra sa (mo_b op) 0 2 hm) (cwV (C := nR_M) 2 hts (nw_of (nw_4 nh_ml_M_26 nh_im_M_good nh_se_M_good nh_in_M nh_co_M_good)) rfl rfl rfl (by decide +kernel) ⟨Nat.le_of_ble_eq_true rfl, Nat.le_of_ble_eq_true rfl⟩) (g_preV (ci := 5) (q := (nR_M, nT_M, 4)) hK hw hS rfl hm _) rfl rfl hl.1 rfl (lv_room (Nat.le_of_ble_eq_true rfl)) nd_M_cut_60 ⟨by exact Nat.le_of_ble_eq_true rfl, by exact Nat.le_of_ble_eq_true rfl⟩) hS (fun v9 w10 H locs hp hw hS => ?_)
            obtain ⟨rfl, e9⟩ := hp
            obtain ⟨hJ, hF9⟩ := mo_cod hJ e9
            have hF0 := hF0.tr hF9
            obtain ⟨hm, ⟨g, hra, hg⟩, ⟨fs, hsa, hfs⟩, hrow, hinj⟩ := id hJ
            refine lv_if_ne (tgt := 68) hx hb nd_M_cut_63 (by decide) (fun hc => ?_) (fun hc => absurd hc (by decide))
            refine lv_aload_n hx hb nd_M_cut_68 rfl (lv_at hl 0 rfl) ?_
            refine xw_get (T := nT_M) (N := 4) (ci := 5) hx hb hT nu_M hown hK.1 hw hm rfl 1 (by decide) (hT _ nh_fl_M_14) (fun _ h9 => h9) rfl nd_M_cut_69 ?_
            refine lv_iload_n hx hb nd_M_cut_72 rfl (lv_at hl 2 rfl) ?_
            refine xw_iald hx hb hK.1 hw 4 hsa rfl (vp_in_nI (by omega) (by decide)) nd_M_cut_73 ?_
            refine lv_topi (fun y11 ey12 => ?_)
            obtain rfl : y11 = nI (sz j) := ey12.trans (by rw [nI_clamp (by omega)]; exact hfs _ (by omega))
            refine lv_iload_n hx hb nd_M_cut_74 rfl (lv_at hl 3 rfl) ?_
            refine lv_isub hx hb nd_M_cut_75 ?_
            refine lv_topi (fun y13 ey14 => ?_)
            obtain rfl : y13 = nI (sz j - x) := ey14.trans (pk_sub (by omega))
            refine lv_iload hx hb nd_M_cut_76 (lv_at hl 4 rfl) ?_
            refine lv_isub hx hb nd_M_cut_78 ?_
            refine lv_topi (fun y15 ey16 => ?_)
            obtain rfl : y15 = nI (sz j - (x + y0)) := ey16.trans ((pk_sub (by omega)).trans (congrArg nI (by omega)))
            refine lv_istore hx hb nd_M_cut_79 hl (by decide) (lv' := [(5, .int (nI (sz j - (x + y0)))), (0, .ref mo), (1, .int (nI i)), (2, .int (nI j)), (3, .int (nI x)), (4, .int (nI y0))]) rfl (fun ls hl => ?_)
            refine lv_iconst (v := 0) hx hb nd_M_cut_81 (by decide) ?_
            refine lv_istore hx hb nd_M_cut_82 hl (by decide) (lv' := [(6, .int 0), (5, .int (nI (sz j - (x + y0)))), (0, .ref mo), (1, .int (nI i)), (2, .int (nI j)), (3, .int (nI x)), (4, .int (nI y0))]) rfl (fun ls hl => ?_)
            have loop : ∀ (m9 y : Nat) (c1 : Nat → Int64) (wl : xw_W) (ls : Array Slot) (H : Heap) (locs : List Loc), m9 + y = sz j - (x + y0) → mo_J G wl mo ra sa rr op sz (va_up f i c1) 0 → mo_F mo sa rr w wl → (∀ z, z < y → c1 z = f j (x + z)) → (i = j → ∀ z, y ≤ z → c1 z = f j z) → lv_has ls 7 [(6, .int (nI y)), (5, .int (nI (sz j - (x + y0)))), (0, .ref mo), (1, .int (nI i)), (2, .int (nI j)), (3, .int (nI x)), (4, .int (nI y0))] → g_P G wl H → g_S G s.heap H locs → W p l e ({ frames := 1, cells := 0, slots := 0, locals := 30 }) s m [.ref mo, .int (nI i), .int (nI j), .int (nI x), .int (nI y0)].toArray below meth c H locs (0) (0) (MQ below (g_Qi G (fun v9 w' => mo_Post G w mo ra sa rr (sp_cut (op, sz, vs) (nI i) (nI j) (nI x) (nI y0)) v9.toInt64 w')) [.ref mo, .int (nI i), .int (nI j), .int (nI x), .int (nI y0)].toArray s 0 0 (xw_A (g_b G))) (F0 m 84 ls []) := by
              intro m9
              induction m9 with
              | zero =>
                intro y c1 wl ls H locs hmi hJ hF0 hc1 hc2 hl hw hS
                obtain ⟨hm, ⟨g, hra, hg⟩, ⟨fs, hsa, hfs⟩, hrow, hinj⟩ := id hJ
                refine lv_iload hx hb nd_M_cut_84 (lv_at hl 0 rfl) ?_
                refine lv_iload hx hb nd_M_cut_86 (lv_at hl 1 rfl) ?_
                have hyy : y = sz j - (x + y0) := by omega
                refine lv_icmp_ge (tgt := 117) hx hb nd_M_cut_88 (by decide) (fun hc => ?_) (fun hc => absurd (nI_le (by omega) (by omega)) hc)
                refine lv_aload_n hx hb nd_M_cut_117 rfl (lv_at hl 2 rfl) ?_
                refine xw_get (T := nT_M) (N := 4) (ci := 5) hx hb hT nu_M hown hK.1 hw hm rfl 1 (by decide) (hT _ nh_fl_M_14) (fun _ h9 => h9) rfl nd_M_cut_118 ?_
                refine lv_iload_n hx hb nd_M_cut_121 rfl (lv_at hl 3 rfl) ?_
                refine lv_iload hx hb nd_M_cut_122 (lv_at hl 1 rfl) ?_
                have hsa0 := hsa
                refine xw_iast hx hb hK.1 hB hw hS 4 hsa rfl (vp_in_nI (by omega) (by decide)) nd_M_cut_124 (fun H locs hw hS => ?_)
                rw [nI_clamp (by omega)] at hw
                obtain ⟨w17, ew18⟩ : ∃ z, z = va_up wl sa (some (.inl (G.2.1 4, 17, .inl (upd fs i (nI (sz j - (x + y0))))))) := ⟨_, rfl⟩
                have hw : g_P G w17 H := by rw [ew18]; exact hw
                have hm : w17 mo = some (.inr (5, [.ref ra, .ref sa, .int (mo_b op), .int 0])) := by rw [ew18, va_up_ne _ _ (xw_ne hm hsa (by simp))]; exact hm
                have hsa : w17 sa = some (.inl (G.2.1 4, 17, .inl (upd fs i (nI (sz j - (x + y0)))))) := by rw [ew18]; exact va_up_self _ _ _
                obtain ⟨hJ, hF9⟩ := mo_siz hJ (by omega) (by omega) hsa0 ew18
                have hF0 := hF0.tr hF9
                obtain ⟨hm, ⟨g, hra, hg⟩, ⟨fs, hsa, hfs⟩, hrow, hinj⟩ := id hJ
                refine lv_iload hx hb nd_M_cut_125 (lv_at hl 1 rfl) ?_
                exact g_iret hx hb hr hlocks hw hS (by rw [sp_cut_0 hi hj hx1 hy1 hs]; exact ⟨⟨_, hJ, mo_fin hv (fun z hz => (hc1 z (by omega)).trans (hv j (by omega) (x + z) (by omega)))⟩, rfl, hF0⟩) (by exact Nat.le_of_ble_eq_true rfl) (by exact Nat.le_of_ble_eq_true rfl) nd_M_cut_127
              | succ m9 ih =>
                intro y c1 wl ls H locs hmi hJ hF0 hc1 hc2 hl hw hS
                obtain ⟨hm, ⟨g, hra, hg⟩, ⟨fs, hsa, hfs⟩, hrow, hinj⟩ := id hJ
                refine lv_iload hx hb nd_M_cut_84 (lv_at hl 0 rfl) ?_
                refine lv_iload hx hb nd_M_cut_86 (lv_at hl 1 rfl) ?_
                refine lv_icmp_ge (tgt := 117) hx hb nd_M_cut_88 (by decide) (fun hc => absurd hc (nI_ge (by omega) (by omega))) (fun hc => ?_)
                refine lv_aload_n hx hb nd_M_cut_91 rfl (lv_at hl 2 rfl) ?_
                refine xw_get (T := nT_M) (N := 4) (ci := 5) hx hb hT nu_M hown hK.1 hw hm rfl 0 (by decide) (hT _ nh_fl_M_11) (fun _ h9 => h9) rfl nd_M_cut_92 ?_
                refine lv_iload_n hx hb nd_M_cut_95 rfl (lv_at hl 3 rfl) ?_
                refine xw_aaldA (y := (rr i)) hx hb hK.1 hw 5 hra rfl (vp_in_nI (by omega) (by decide)) (by rw [nI_clamp (by omega)]; exact hg _ (by omega)) nd_M_cut_96 ?_
                have hr_i := (hrow i (by omega)).2
                refine lv_iload hx hb nd_M_cut_97 (lv_at hl 0 rfl) ?_
                refine lv_aload_n hx hb nd_M_cut_99 rfl (lv_at hl 2 rfl) ?_
                refine xw_get (T := nT_M) (N := 4) (ci := 5) hx hb hT nu_M hown hK.1 hw hm rfl 0 (by decide) (hT _ nh_fl_M_11) (fun _ h9 => h9) rfl nd_M_cut_100 ?_
                refine lv_iload_n hx hb nd_M_cut_103 rfl (lv_at hl 4 rfl) ?_
                refine xw_aaldA (y := (rr j)) hx hb hK.1 hw 5 hra rfl (vp_in_nI (by omega) (by decide)) (by rw [nI_clamp (by omega)]; exact hg _ (by omega)) nd_M_cut_104 ?_
                have hr_j := (hrow j (by omega)).2
                have hval : va_up f i c1 j (x + y) = f j (x + y) := by
                  by_cases e9 : i = j
                  · rw [← e9, va_up_self, e9]; exact hc2 e9 _ (by omega)
                  · rw [va_up_ne _ _ (Ne.symm e9)]
                refine lv_iload hx hb nd_M_cut_105 (lv_at hl 0 rfl) ?_
                refine lv_iload_n hx hb nd_M_cut_107 rfl (lv_at hl 5 rfl) ?_
                refine lv_iadd hx hb nd_M_cut_108 ?_
                refine lv_topi (fun y17 ey18 => ?_)
                obtain rfl : y17 = nI (x + y) := ey18.trans ((nI_add y x).trans (congrArg nI (by omega)))
                refine xw_lald hx hb hK.1 hw 0 hr_j rfl (vp_in_nI (by omega) (by decide)) nd_M_cut_109 ?_
                refine lv_topl (fun y19 ey20 => ?_)
                obtain rfl : y19 = f j (x + y) := ey20.trans (by rw [nI_clamp (by omega)]; exact hval)
                refine xw_last hx hb hK.1 hB hw hS 0 hr_i rfl (vp_in_nI (by omega) (by decide)) nd_M_cut_110 (fun H locs hw hS => ?_)
                rw [nI_clamp (by omega)] at hw
                obtain ⟨w21, ew22⟩ : ∃ z, z = va_up wl (rr i) (some (.inl (G.2.1 0, 3000, .inr (.inl (vp_updL (va_up f i c1 i) y (f j (x + y))))))) := ⟨_, rfl⟩
                have hw : g_P G w21 H := by rw [ew22]; exact hw
                have hm : w21 mo = some (.inr (5, [.ref ra, .ref sa, .int (mo_b op), .int 0])) := by rw [ew22, va_up_ne _ _ (xw_ne hm hr_i (by simp))]; exact hm
                have hr_i : w21 (rr i) = some (.inl (G.2.1 0, 3000, .inr (.inl (vp_updL (va_up f i c1 i) y (f j (x + y)))))) := by rw [ew22]; exact va_up_self _ _ _
                obtain ⟨hJ, hF9⟩ := mo_row hJ (by omega) ew22
                have hF0 := hF0.tr hF9
                rw [bx_uu, va_up_self] at hJ
                obtain ⟨hm, ⟨g, hra, hg⟩, ⟨fs, hsa, hfs⟩, hrow, hinj⟩ := id hJ
                refine lv_iinc (k := 0) hx hb nd_M_cut_111 hl rfl rfl (by decide) (lv' := [(6, .int ((nI y) + 1)), (5, .int (nI (sz j - (x + y0)))), (0, .ref mo), (1, .int (nI i)), (2, .int (nI j)), (3, .int (nI x)), (4, .int (nI y0))]) rfl (fun ls hl => ?_)
                rw [nI_1] at hl
                refine lv_goto (tgt := 84) hx hb nd_M_cut_114 (by decide) ?_
                refine ih (y + 1) (vp_updL c1 y (f j (x + y))) w21 ls H locs (by omega) hJ hF0 (fun z hz => ?_) (fun e9 z hz => ?_) hl hw hS
                · by_cases ez : z = y
                  · rw [ez, pk_uLs]
                  · rw [pk_uLn ez]; exact hc1 z (by omega)
                · rw [pk_uLn (by omega)]; exact hc2 e9 z (by omega)
            exact loop (sz j - (x + y0)) 0 (f i) w10 ls H locs (by omega) (by rw [va_up_same]; exact hJ) hF0 (fun z hz => absurd hz (by omega)) (fun e9 z _ => by rw [e9]) hl hw hS
    · refine lv_aload_n hx hb nd_M_cut_0 rfl (lv_at hl 0 rfl) ?_
      refine lv_iload_n hx hb nd_M_cut_1 rfl (lv_at hl 1 rfl) ?_
      refine g_calli (va_runS (As := [.int (nI i)]) (rest := [.ref mo]) ⟨hx, hb, hml, hown, hts⟩ (c_M_isSlot1 l G w (nI i) (sp_slh hi)) (cwS 1 hts (nw_of (nw_3 nh_ml_M_22 nh_st_M_isSlot nh_in_M nh_co_M_isSlot)) rfl rfl rfl (by decide +kernel) ⟨Nat.le_of_ble_eq_true rfl, Nat.le_of_ble_eq_true rfl⟩) (g_preS hK hw hS _) rfl rfl hl.1 rfl (lv_room (Nat.le_of_ble_eq_true rfl)) nd_M_cut_2 ⟨by exact Nat.le_of_ble_eq_true rfl, by exact Nat.le_of_ble_eq_true rfl⟩) hS (fun v9 w1 H locs hp hw hS => ?_)
      obtain ⟨rfl, hw9⟩ := hp
      rw [hw9] at hw
      refine lv_if_eq (tgt := 28) hx hb nd_M_cut_5 (by decide) (fun hc => absurd hc (by decide)) (fun hc => ?_)
      refine lv_iload_n hx hb nd_M_cut_8 rfl (lv_at hl 2 rfl) ?_
      refine g_calli (va_runS (As := [.int b]) (rest := [.ref mo]) ⟨hx, hb, hml, hown, hts⟩ (c_M_isSlot0 l G w b hb9) (cwS 1 hts (nw_of (nw_3 nh_ml_M_22 nh_st_M_isSlot nh_in_M nh_co_M_isSlot)) rfl rfl rfl (by decide +kernel) ⟨Nat.le_of_ble_eq_true rfl, Nat.le_of_ble_eq_true rfl⟩) (g_preS hK hw hS _) rfl rfl hl.1 rfl (lv_room (Nat.le_of_ble_eq_true rfl)) nd_M_cut_9 ⟨by exact Nat.le_of_ble_eq_true rfl, by exact Nat.le_of_ble_eq_true rfl⟩) hS (fun v9 w2 H locs hp hw hS => ?_)
      obtain ⟨rfl, hw9⟩ := hp
      rw [hw9] at hw
      refine lv_if_eq (tgt := 28) hx hb nd_M_cut_12 (by decide) (fun hc => ?_) (fun hc => absurd rfl hc)
      refine lv_iconst (v := 0) hx hb nd_M_cut_28 (by decide) ?_
      refine lv_iconst (v := 1) hx hb nd_M_cut_29 (by decide) ?_
      refine g_calli (va_runV (As := [.int 0, .int 1]) (rest := []) ⟨hx, hb, hml, hown, hts⟩ (c_M_good0 l G w mo ra sa (mo_b op) cd 1 hm) (cwV (C := nR_M) 2 hts (nw_of (nw_4 nh_ml_M_26 nh_im_M_good nh_se_M_good nh_in_M nh_co_M_good)) rfl rfl rfl (by decide +kernel) ⟨Nat.le_of_ble_eq_true rfl, Nat.le_of_ble_eq_true rfl⟩) (g_preV (ci := 5) (q := (nR_M, nT_M, 4)) hK hw hS rfl hm _) rfl rfl hl.1 rfl (lv_room (Nat.le_of_ble_eq_true rfl)) nd_M_cut_30 ⟨by exact Nat.le_of_ble_eq_true rfl, by exact Nat.le_of_ble_eq_true rfl⟩) hS (fun v9 w3 H locs hp hw hS => ?_)
      obtain ⟨rfl, e9⟩ := hp
      obtain ⟨hJ, hF9⟩ := mo_cod hJ e9
      have hF0 := hF0.tr hF9
      obtain ⟨hm, ⟨g, hra, hg⟩, ⟨fs, hsa, hfs⟩, hrow, hinj⟩ := id hJ
      refine lv_if_eq (tgt := 66) hx hb nd_M_cut_33 (by decide) (fun hc => ?_) (fun hc => absurd rfl hc)
      refine lv_iconst (v := 0) hx hb nd_M_cut_66 (by decide) ?_
      exact g_iret hx hb hr hlocks hw hS (by rw [sp_cut_1 (Or.inr (Or.inl hb9))]; exact ⟨⟨_, hJ, hv⟩, rfl, hF0⟩) (by exact Nat.le_of_ble_eq_true rfl) (by exact Nat.le_of_ble_eq_true rfl) nd_M_cut_67
  · refine lv_aload_n hx hb nd_M_cut_0 rfl (lv_at hl 0 rfl) ?_
    refine lv_iload_n hx hb nd_M_cut_1 rfl (lv_at hl 1 rfl) ?_
    refine g_calli (va_runS (As := [.int a]) (rest := [.ref mo]) ⟨hx, hb, hml, hown, hts⟩ (c_M_isSlot0 l G w a ha) (cwS 1 hts (nw_of (nw_3 nh_ml_M_22 nh_st_M_isSlot nh_in_M nh_co_M_isSlot)) rfl rfl rfl (by decide +kernel) ⟨Nat.le_of_ble_eq_true rfl, Nat.le_of_ble_eq_true rfl⟩) (g_preS hK hw hS _) rfl rfl hl.1 rfl (lv_room (Nat.le_of_ble_eq_true rfl)) nd_M_cut_2 ⟨by exact Nat.le_of_ble_eq_true rfl, by exact Nat.le_of_ble_eq_true rfl⟩) hS (fun v9 w1 H locs hp hw hS => ?_)
    obtain ⟨rfl, hw9⟩ := hp
    rw [hw9] at hw
    refine lv_if_eq (tgt := 28) hx hb nd_M_cut_5 (by decide) (fun hc => ?_) (fun hc => absurd rfl hc)
    refine lv_iconst (v := 0) hx hb nd_M_cut_28 (by decide) ?_
    refine lv_iconst (v := 1) hx hb nd_M_cut_29 (by decide) ?_
    refine g_calli (va_runV (As := [.int 0, .int 1]) (rest := []) ⟨hx, hb, hml, hown, hts⟩ (c_M_good0 l G w mo ra sa (mo_b op) cd 1 hm) (cwV (C := nR_M) 2 hts (nw_of (nw_4 nh_ml_M_26 nh_im_M_good nh_se_M_good nh_in_M nh_co_M_good)) rfl rfl rfl (by decide +kernel) ⟨Nat.le_of_ble_eq_true rfl, Nat.le_of_ble_eq_true rfl⟩) (g_preV (ci := 5) (q := (nR_M, nT_M, 4)) hK hw hS rfl hm _) rfl rfl hl.1 rfl (lv_room (Nat.le_of_ble_eq_true rfl)) nd_M_cut_30 ⟨by exact Nat.le_of_ble_eq_true rfl, by exact Nat.le_of_ble_eq_true rfl⟩) hS (fun v9 w2 H locs hp hw hS => ?_)
    obtain ⟨rfl, e9⟩ := hp
    obtain ⟨hJ, hF9⟩ := mo_cod hJ e9
    have hF0 := hF0.tr hF9
    obtain ⟨hm, ⟨g, hra, hg⟩, ⟨fs, hsa, hfs⟩, hrow, hinj⟩ := id hJ
    refine lv_if_eq (tgt := 66) hx hb nd_M_cut_33 (by decide) (fun hc => ?_) (fun hc => absurd rfl hc)
    refine lv_iconst (v := 0) hx hb nd_M_cut_66 (by decide) ?_
    exact g_iret hx hb hr hlocks hw hS (by rw [sp_cut_1 (Or.inl ha)]; exact ⟨⟨_, hJ, hv⟩, rfl, hF0⟩) (by exact Nat.le_of_ble_eq_true rfl) (by exact Nat.le_of_ble_eq_true rfl) nd_M_cut_67

set_option maxHeartbeats 4000000 in
set_option maxRecDepth 100000 in
theorem c_M_fill (l : Launch) (G : g_G) (w : xw_W) (mo ra sa : Nat) (rr : Nat → Nat) (S : sp_S) (cd : Int32) (hI : mo_I G w mo ra sa rr S cd) (a : Int32) (x0 st : Int64) (n : Int32) : Met l ny_M_fill nw_M_fill ({ frames := 1, cells := 0, slots := 0, locals := 30 }) (g_Pc G w [.ref mo, .int a, .long x0, .long st, .int n]) (g_Qi G (fun v9 w' => mo_Post G w mo ra sa rr (sp_fill S a x0 st n) v9.toInt64 w')) 0 0 (xw_A (g_b G)) := by
  refine g_met (by decide) (Nat.le_of_ble_eq_true rfl) rfl ?_
  intro p e s m below meth c ls hx hb hr hts hown hlocks hin hml hl hK hB hw hS
  have hT : ∀ w ∈ nw_T, w.before _ s = true := fun w h => hts w (List.mem_cons_of_mem _ h)
  have hown : s.vm.findClass "RadixShelfModel" = some m.cls := hown
  have hl : lv_has ls 8 [(0, .ref mo), (1, .int a), (2, .long x0), (4, .long st), (6, .int n)] := hl
  obtain ⟨op, sz, vs⟩ := S
  obtain ⟨f, hJ9, hv9⟩ := hI
  have hJ : mo_J G w mo ra sa rr op sz f cd := hJ9
  have hv : ∀ k, k < 17 → ∀ z, z < sz k → f k z = vs k z := hv9
  clear hJ9 hv9
  have hF0 : mo_F mo sa rr w w := mo_F.rf
  obtain ⟨hm, ⟨g, hra, hg⟩, ⟨fs, hsa, hfs⟩, hrow, hinj⟩ := id hJ
  by_cases ha : 0 ≤ a ∧ a ≤ 15
  · obtain ⟨i, hi, rfl⟩ := sp_sl_of ha
    refine lv_aload_n hx hb nd_M_fill_0 rfl (lv_at hl 0 rfl) ?_
    refine lv_iload_n hx hb nd_M_fill_1 rfl (lv_at hl 1 rfl) ?_
    refine g_calli (va_runS (As := [.int (nI i)]) (rest := [.ref mo]) ⟨hx, hb, hml, hown, hts⟩ (c_M_isSlot1 l G w (nI i) (sp_slh hi)) (cwS 1 hts (nw_of (nw_3 nh_ml_M_22 nh_st_M_isSlot nh_in_M nh_co_M_isSlot)) rfl rfl rfl (by decide +kernel) ⟨Nat.le_of_ble_eq_true rfl, Nat.le_of_ble_eq_true rfl⟩) (g_preS hK hw hS _) rfl rfl hl.1 rfl (lv_room (Nat.le_of_ble_eq_true rfl)) nd_M_fill_2 ⟨by exact Nat.le_of_ble_eq_true rfl, by exact Nat.le_of_ble_eq_true rfl⟩) hS (fun v9 w1 H locs hp hw hS => ?_)
    obtain ⟨rfl, hw9⟩ := hp
    rw [hw9] at hw
    refine lv_if_eq (tgt := 25) hx hb nd_M_fill_5 (by decide) (fun hc => absurd hc (by decide)) (fun hc => ?_)
    refine lv_iload hx hb nd_M_fill_8 (lv_at hl 4 rfl) ?_
    refine lv_if_lt (tgt := 25) hx hb nd_M_fill_10 (by decide) (fun hp0 => ?_) (fun hp0 => ?_)
    · refine lv_iconst (v := 0) hx hb nd_M_fill_25 (by decide) ?_
      refine lv_iconst (v := 1) hx hb nd_M_fill_26 (by decide) ?_
      refine g_calli (va_runV (As := [.int 0, .int 1]) (rest := []) ⟨hx, hb, hml, hown, hts⟩ (c_M_good0 l G w mo ra sa (mo_b op) cd 1 hm) (cwV (C := nR_M) 2 hts (nw_of (nw_4 nh_ml_M_26 nh_im_M_good nh_se_M_good nh_in_M nh_co_M_good)) rfl rfl rfl (by decide +kernel) ⟨Nat.le_of_ble_eq_true rfl, Nat.le_of_ble_eq_true rfl⟩) (g_preV (ci := 5) (q := (nR_M, nT_M, 4)) hK hw hS rfl hm _) rfl rfl hl.1 rfl (lv_room (Nat.le_of_ble_eq_true rfl)) nd_M_fill_27 ⟨by exact Nat.le_of_ble_eq_true rfl, by exact Nat.le_of_ble_eq_true rfl⟩) hS (fun v9 w2 H locs hp hw hS => ?_)
      obtain ⟨rfl, e9⟩ := hp
      obtain ⟨hJ, hF9⟩ := mo_cod hJ e9
      have hF0 := hF0.tr hF9
      obtain ⟨hm, ⟨g, hra, hg⟩, ⟨fs, hsa, hfs⟩, hrow, hinj⟩ := id hJ
      refine lv_if_ne (tgt := 35) hx hb nd_M_fill_30 (by decide) (fun hc => absurd rfl hc) (fun hc => ?_)
      refine lv_iconst (v := 0) hx hb nd_M_fill_33 (by decide) ?_
      exact g_iret hx hb hr hlocks hw hS (by rw [sp_fill_1 (Or.inr (fun z => absurd z.1 (Int32.not_le.mpr hp0)))]; exact ⟨⟨_, hJ, hv⟩, rfl, hF0⟩) (by exact Nat.le_of_ble_eq_true rfl) (by exact Nat.le_of_ble_eq_true rfl) nd_M_fill_34
    · refine lv_iload hx hb nd_M_fill_13 (lv_at hl 4 rfl) ?_
      refine lv_sipush (v := 2000) hx hb nd_M_fill_15 (by decide) ?_
      refine lv_icmp_gt (tgt := 25) hx hb nd_M_fill_18 (by decide) (fun hp1 => ?_) (fun hp1 => ?_)
      · refine lv_iconst (v := 0) hx hb nd_M_fill_25 (by decide) ?_
        refine lv_iconst (v := 1) hx hb nd_M_fill_26 (by decide) ?_
        refine g_calli (va_runV (As := [.int 0, .int 1]) (rest := []) ⟨hx, hb, hml, hown, hts⟩ (c_M_good0 l G w mo ra sa (mo_b op) cd 1 hm) (cwV (C := nR_M) 2 hts (nw_of (nw_4 nh_ml_M_26 nh_im_M_good nh_se_M_good nh_in_M nh_co_M_good)) rfl rfl rfl (by decide +kernel) ⟨Nat.le_of_ble_eq_true rfl, Nat.le_of_ble_eq_true rfl⟩) (g_preV (ci := 5) (q := (nR_M, nT_M, 4)) hK hw hS rfl hm _) rfl rfl hl.1 rfl (lv_room (Nat.le_of_ble_eq_true rfl)) nd_M_fill_27 ⟨by exact Nat.le_of_ble_eq_true rfl, by exact Nat.le_of_ble_eq_true rfl⟩) hS (fun v9 w2 H locs hp hw hS => ?_)
        obtain ⟨rfl, e9⟩ := hp
        obtain ⟨hJ, hF9⟩ := mo_cod hJ e9
        have hF0 := hF0.tr hF9
        obtain ⟨hm, ⟨g, hra, hg⟩, ⟨fs, hsa, hfs⟩, hrow, hinj⟩ := id hJ
        refine lv_if_ne (tgt := 35) hx hb nd_M_fill_30 (by decide) (fun hc => absurd rfl hc) (fun hc => ?_)
        refine lv_iconst (v := 0) hx hb nd_M_fill_33 (by decide) ?_
        exact g_iret hx hb hr hlocks hw hS (by rw [sp_fill_1 (Or.inr (fun z => absurd z.2 (Int32.not_le.mpr hp1)))]; exact ⟨⟨_, hJ, hv⟩, rfl, hF0⟩) (by exact Nat.le_of_ble_eq_true rfl) (by exact Nat.le_of_ble_eq_true rfl) nd_M_fill_34
      · obtain ⟨x, hx1, rfl⟩ := nI_of2 (n := 2000) (by decide) hp0 (Int32.not_lt.mp hp1)
        refine lv_iconst (v := 1) hx hb nd_M_fill_21 (by decide) ?_
        refine lv_goto (tgt := 26) hx hb nd_M_fill_22 (by decide) ?_
        refine lv_iconst (v := 1) hx hb nd_M_fill_26 (by decide) ?_
        refine g_calli (va_runV (As := [.int 1, .int 1]) (rest := []) ⟨hx, hb, hml, hown, hts⟩ (c_M_good1 l G w mo ra sa (mo_b op) cd 1 hm) (cwV (C := nR_M) 2 hts (nw_of (nw_4 nh_ml_M_26 nh_im_M_good nh_se_M_good nh_in_M nh_co_M_good)) rfl rfl rfl (by decide +kernel) ⟨Nat.le_of_ble_eq_true rfl, Nat.le_of_ble_eq_true rfl⟩) (g_preV (ci := 5) (q := (nR_M, nT_M, 4)) hK hw hS rfl hm _) rfl rfl hl.1 rfl (lv_room (Nat.le_of_ble_eq_true rfl)) nd_M_fill_27 ⟨by exact Nat.le_of_ble_eq_true rfl, by exact Nat.le_of_ble_eq_true rfl⟩) hS (fun v9 w2 H locs hp hw hS => ?_)
        obtain ⟨rfl, e9⟩ := hp
        obtain ⟨hJ, hF9⟩ := mo_cod hJ e9
        have hF0 := hF0.tr hF9
        obtain ⟨hm, ⟨g, hra, hg⟩, ⟨fs, hsa, hfs⟩, hrow, hinj⟩ := id hJ
        refine lv_if_ne (tgt := 35) hx hb nd_M_fill_30 (by decide) (fun hc => ?_) (fun hc => absurd hc (by decide))
        refine lv_iconst (v := 0) hx hb nd_M_fill_35 (by decide) ?_
        refine lv_istore hx hb nd_M_fill_36 hl (by decide) (lv' := [(7, .int 0), (0, .ref mo), (1, .int (nI i)), (2, .long x0), (4, .long st), (6, .int (nI x))]) rfl (fun ls hl => ?_)
        have loop : ∀ (m9 y : Nat) (c1 : Nat → Int64) (wl : xw_W) (ls : Array Slot) (H : Heap) (locs : List Loc), m9 + y = x → mo_J G wl mo ra sa rr op sz (va_up f i c1) 0 → mo_F mo sa rr w wl → (∀ z, z < y → c1 z = x0 + lN z * st) → lv_has ls 8 [(7, .int (nI y)), (0, .ref mo), (1, .int (nI i)), (2, .long x0), (4, .long st), (6, .int (nI x))] → g_P G wl H → g_S G s.heap H locs → W p l e ({ frames := 1, cells := 0, slots := 0, locals := 30 }) s m [.ref mo, .int (nI i), .long x0, .long st, .int (nI x)].toArray below meth c H locs (0) (0) (MQ below (g_Qi G (fun v9 w' => mo_Post G w mo ra sa rr (sp_fill (op, sz, vs) (nI i) x0 st (nI x)) v9.toInt64 w')) [.ref mo, .int (nI i), .long x0, .long st, .int (nI x)].toArray s 0 0 (xw_A (g_b G))) (F0 m 38 ls []) := by
          intro m9
          induction m9 with
          | zero =>
            intro y c1 wl ls H locs hmi hJ hF0 hc1 hl hw hS
            obtain ⟨hm, ⟨g, hra, hg⟩, ⟨fs, hsa, hfs⟩, hrow, hinj⟩ := id hJ
            refine lv_iload hx hb nd_M_fill_38 (lv_at hl 0 rfl) ?_
            refine lv_iload hx hb nd_M_fill_40 (lv_at hl 5 rfl) ?_
            have hyy : y = x := by omega
            refine lv_icmp_ge (tgt := 68) hx hb nd_M_fill_42 (by decide) (fun hc => ?_) (fun hc => absurd (nI_le (by omega) (by omega)) hc)
            refine lv_aload_n hx hb nd_M_fill_68 rfl (lv_at hl 1 rfl) ?_
            refine xw_get (T := nT_M) (N := 4) (ci := 5) hx hb hT nu_M hown hK.1 hw hm rfl 1 (by decide) (hT _ nh_fl_M_14) (fun _ h9 => h9) rfl nd_M_fill_69 ?_
            refine lv_iload_n hx hb nd_M_fill_72 rfl (lv_at hl 2 rfl) ?_
            refine lv_iload hx hb nd_M_fill_73 (lv_at hl 5 rfl) ?_
            have hsa0 := hsa
            refine xw_iast hx hb hK.1 hB hw hS 4 hsa rfl (vp_in_nI (by omega) (by decide)) nd_M_fill_75 (fun H locs hw hS => ?_)
            rw [nI_clamp (by omega)] at hw
            obtain ⟨w3, ew4⟩ : ∃ z, z = va_up wl sa (some (.inl (G.2.1 4, 17, .inl (upd fs i (nI x))))) := ⟨_, rfl⟩
            have hw : g_P G w3 H := by rw [ew4]; exact hw
            have hm : w3 mo = some (.inr (5, [.ref ra, .ref sa, .int (mo_b op), .int 0])) := by rw [ew4, va_up_ne _ _ (xw_ne hm hsa (by simp))]; exact hm
            have hsa : w3 sa = some (.inl (G.2.1 4, 17, .inl (upd fs i (nI x)))) := by rw [ew4]; exact va_up_self _ _ _
            obtain ⟨hJ, hF9⟩ := mo_siz hJ (by omega) (by omega) hsa0 ew4
            have hF0 := hF0.tr hF9
            obtain ⟨hm, ⟨g, hra, hg⟩, ⟨fs, hsa, hfs⟩, hrow, hinj⟩ := id hJ
            refine lv_iload hx hb nd_M_fill_76 (lv_at hl 5 rfl) ?_
            exact g_iret hx hb hr hlocks hw hS (by rw [sp_fill_0 hi hx1]; exact ⟨⟨_, hJ, mo_fin hv (fun z hz => hc1 z (by omega))⟩, rfl, hF0⟩) (by exact Nat.le_of_ble_eq_true rfl) (by exact Nat.le_of_ble_eq_true rfl) nd_M_fill_78
          | succ m9 ih =>
            intro y c1 wl ls H locs hmi hJ hF0 hc1 hl hw hS
            obtain ⟨hm, ⟨g, hra, hg⟩, ⟨fs, hsa, hfs⟩, hrow, hinj⟩ := id hJ
            refine lv_iload hx hb nd_M_fill_38 (lv_at hl 0 rfl) ?_
            refine lv_iload hx hb nd_M_fill_40 (lv_at hl 5 rfl) ?_
            refine lv_icmp_ge (tgt := 68) hx hb nd_M_fill_42 (by decide) (fun hc => absurd hc (nI_ge (by omega) (by omega))) (fun hc => ?_)
            refine lv_aload_n hx hb nd_M_fill_45 rfl (lv_at hl 1 rfl) ?_
            refine xw_get (T := nT_M) (N := 4) (ci := 5) hx hb hT nu_M hown hK.1 hw hm rfl 0 (by decide) (hT _ nh_fl_M_11) (fun _ h9 => h9) rfl nd_M_fill_46 ?_
            refine lv_iload_n hx hb nd_M_fill_49 rfl (lv_at hl 2 rfl) ?_
            refine xw_aaldA (y := (rr i)) hx hb hK.1 hw 5 hra rfl (vp_in_nI (by omega) (by decide)) (by rw [nI_clamp (by omega)]; exact hg _ (by omega)) nd_M_fill_50 ?_
            have hr_i := (hrow i (by omega)).2
            refine lv_iload hx hb nd_M_fill_51 (lv_at hl 0 rfl) ?_
            refine lv_lload_n hx hb nd_M_fill_53 rfl (lv_at hl 3 rfl) ?_
            refine lv_iload hx hb nd_M_fill_54 (lv_at hl 0 rfl) ?_
            refine lv_i2l hx hb nd_M_fill_56 rfl ?_
            refine lv_topl (fun y3 ey4 => ?_)
            obtain rfl : y3 = lN y := ey4.trans (nI_l (by omega))
            refine lv_lload hx hb nd_M_fill_57 (lv_at hl 4 rfl) ?_
            refine lv_lmul hx hb nd_M_fill_59 ?_
            refine lv_ladd hx hb nd_M_fill_60 ?_
            refine xw_last hx hb hK.1 hB hw hS 0 hr_i rfl (vp_in_nI (by omega) (by decide)) nd_M_fill_61 (fun H locs hw hS => ?_)
            rw [nI_clamp (by omega)] at hw
            obtain ⟨w5, ew6⟩ : ∃ z, z = va_up wl (rr i) (some (.inl (G.2.1 0, 3000, .inr (.inl (vp_updL (va_up f i c1 i) y (x0 + lN y * st)))))) := ⟨_, rfl⟩
            have hw : g_P G w5 H := by rw [ew6]; exact hw
            have hm : w5 mo = some (.inr (5, [.ref ra, .ref sa, .int (mo_b op), .int 0])) := by rw [ew6, va_up_ne _ _ (xw_ne hm hr_i (by simp))]; exact hm
            have hr_i : w5 (rr i) = some (.inl (G.2.1 0, 3000, .inr (.inl (vp_updL (va_up f i c1 i) y (x0 + lN y * st))))) := by rw [ew6]; exact va_up_self _ _ _
            obtain ⟨hJ, hF9⟩ := mo_row hJ (by omega) ew6
            have hF0 := hF0.tr hF9
            rw [bx_uu, va_up_self] at hJ
            obtain ⟨hm, ⟨g, hra, hg⟩, ⟨fs, hsa, hfs⟩, hrow, hinj⟩ := id hJ
            refine lv_iinc (k := 0) hx hb nd_M_fill_62 hl rfl rfl (by decide) (lv' := [(7, .int ((nI y) + 1)), (0, .ref mo), (1, .int (nI i)), (2, .long x0), (4, .long st), (6, .int (nI x))]) rfl (fun ls hl => ?_)
            rw [nI_1] at hl
            refine lv_goto (tgt := 38) hx hb nd_M_fill_65 (by decide) ?_
            refine ih (y + 1) (vp_updL c1 y (x0 + lN y * st)) w5 ls H locs (by omega) hJ hF0 (fun z hz => ?_) hl hw hS
            by_cases ez : z = y
            · rw [ez, pk_uLs]
            · rw [pk_uLn ez]; exact hc1 z (by omega)
        exact loop x 0 (f i) w2 ls H locs (by omega) (by rw [va_up_same]; exact hJ) hF0 (fun z hz => absurd hz (by omega)) hl hw hS
  · refine lv_aload_n hx hb nd_M_fill_0 rfl (lv_at hl 0 rfl) ?_
    refine lv_iload_n hx hb nd_M_fill_1 rfl (lv_at hl 1 rfl) ?_
    refine g_calli (va_runS (As := [.int a]) (rest := [.ref mo]) ⟨hx, hb, hml, hown, hts⟩ (c_M_isSlot0 l G w a ha) (cwS 1 hts (nw_of (nw_3 nh_ml_M_22 nh_st_M_isSlot nh_in_M nh_co_M_isSlot)) rfl rfl rfl (by decide +kernel) ⟨Nat.le_of_ble_eq_true rfl, Nat.le_of_ble_eq_true rfl⟩) (g_preS hK hw hS _) rfl rfl hl.1 rfl (lv_room (Nat.le_of_ble_eq_true rfl)) nd_M_fill_2 ⟨by exact Nat.le_of_ble_eq_true rfl, by exact Nat.le_of_ble_eq_true rfl⟩) hS (fun v9 w1 H locs hp hw hS => ?_)
    obtain ⟨rfl, hw9⟩ := hp
    rw [hw9] at hw
    refine lv_if_eq (tgt := 25) hx hb nd_M_fill_5 (by decide) (fun hc => ?_) (fun hc => absurd rfl hc)
    refine lv_iconst (v := 0) hx hb nd_M_fill_25 (by decide) ?_
    refine lv_iconst (v := 1) hx hb nd_M_fill_26 (by decide) ?_
    refine g_calli (va_runV (As := [.int 0, .int 1]) (rest := []) ⟨hx, hb, hml, hown, hts⟩ (c_M_good0 l G w mo ra sa (mo_b op) cd 1 hm) (cwV (C := nR_M) 2 hts (nw_of (nw_4 nh_ml_M_26 nh_im_M_good nh_se_M_good nh_in_M nh_co_M_good)) rfl rfl rfl (by decide +kernel) ⟨Nat.le_of_ble_eq_true rfl, Nat.le_of_ble_eq_true rfl⟩) (g_preV (ci := 5) (q := (nR_M, nT_M, 4)) hK hw hS rfl hm _) rfl rfl hl.1 rfl (lv_room (Nat.le_of_ble_eq_true rfl)) nd_M_fill_27 ⟨by exact Nat.le_of_ble_eq_true rfl, by exact Nat.le_of_ble_eq_true rfl⟩) hS (fun v9 w2 H locs hp hw hS => ?_)
    obtain ⟨rfl, e9⟩ := hp
    obtain ⟨hJ, hF9⟩ := mo_cod hJ e9
    have hF0 := hF0.tr hF9
    obtain ⟨hm, ⟨g, hra, hg⟩, ⟨fs, hsa, hfs⟩, hrow, hinj⟩ := id hJ
    refine lv_if_ne (tgt := 35) hx hb nd_M_fill_30 (by decide) (fun hc => absurd rfl hc) (fun hc => ?_)
    refine lv_iconst (v := 0) hx hb nd_M_fill_33 (by decide) ?_
    exact g_iret hx hb hr hlocks hw hS (by rw [sp_fill_1 (Or.inl ha)]; exact ⟨⟨_, hJ, hv⟩, rfl, hF0⟩) (by exact Nat.le_of_ble_eq_true rfl) (by exact Nat.le_of_ble_eq_true rfl) nd_M_fill_34

set_option maxHeartbeats 4000000 in
set_option maxRecDepth 100000 in
theorem c_M_hash (l : Launch) (G : g_G) (w : xw_W) (mo ra sa : Nat) (rr : Nat → Nat) (S : sp_S) (cd : Int32) (hI : mo_I G w mo ra sa rr S cd) (a : Int32) : Met l ny_M_hash nw_M_hash ({ frames := 1, cells := 0, slots := 0, locals := 30 }) (g_Pc G w [.ref mo, .int a]) (g_Ql G (fun v9 w' => mo_Post G w mo ra sa rr (sp_hash S a) v9 w')) 0 0 (xw_A (g_b G)) := by
  refine g_met (by decide) (Nat.le_of_ble_eq_true rfl) rfl ?_
  intro p e s m below meth c ls hx hb hr hts hown hlocks hin hml hl hK hB hw hS
  have hT : ∀ w ∈ nw_T, w.before _ s = true := fun w h => hts w (List.mem_cons_of_mem _ h)
  have hown : s.vm.findClass "RadixShelfModel" = some m.cls := hown
  have hl : lv_has ls 5 [(0, .ref mo), (1, .int a)] := hl
  obtain ⟨op, sz, vs⟩ := S
  obtain ⟨f, hJ9, hv9⟩ := hI
  have hJ : mo_J G w mo ra sa rr op sz f cd := hJ9
  have hv : ∀ k, k < 17 → ∀ z, z < sz k → f k z = vs k z := hv9
  clear hJ9 hv9
  have hF0 : mo_F mo sa rr w w := mo_F.rf
  obtain ⟨hm, ⟨g, hra, hg⟩, ⟨fs, hsa, hfs⟩, hrow, hinj⟩ := id hJ
  by_cases ha : 0 ≤ a ∧ a ≤ 15
  · obtain ⟨j, hj, rfl⟩ := sp_sl_of ha
    refine lv_aload_n hx hb nd_M_hash_0 rfl (lv_at hl 0 rfl) ?_
    refine lv_iload_n hx hb nd_M_hash_1 rfl (lv_at hl 1 rfl) ?_
    refine g_calli (va_runS (As := [.int (nI j)]) (rest := [.ref mo]) ⟨hx, hb, hml, hown, hts⟩ (c_M_isSlot1 l G w (nI j) (sp_slh hj)) (cwS 1 hts (nw_of (nw_3 nh_ml_M_22 nh_st_M_isSlot nh_in_M nh_co_M_isSlot)) rfl rfl rfl (by decide +kernel) ⟨Nat.le_of_ble_eq_true rfl, Nat.le_of_ble_eq_true rfl⟩) (g_preS hK hw hS _) rfl rfl hl.1 rfl (lv_room (Nat.le_of_ble_eq_true rfl)) nd_M_hash_2 ⟨by exact Nat.le_of_ble_eq_true rfl, by exact Nat.le_of_ble_eq_true rfl⟩) hS (fun v9 w1 H locs hp hw hS => ?_)
    obtain ⟨rfl, hw9⟩ := hp
    rw [hw9] at hw
    refine lv_iconst (v := 1) hx hb nd_M_hash_5 (by decide) ?_
    refine g_calli (va_runV (As := [.int 1, .int 1]) (rest := []) ⟨hx, hb, hml, hown, hts⟩ (c_M_good1 l G w mo ra sa (mo_b op) cd 1 hm) (cwV (C := nR_M) 2 hts (nw_of (nw_4 nh_ml_M_26 nh_im_M_good nh_se_M_good nh_in_M nh_co_M_good)) rfl rfl rfl (by decide +kernel) ⟨Nat.le_of_ble_eq_true rfl, Nat.le_of_ble_eq_true rfl⟩) (g_preV (ci := 5) (q := (nR_M, nT_M, 4)) hK hw hS rfl hm _) rfl rfl hl.1 rfl (lv_room (Nat.le_of_ble_eq_true rfl)) nd_M_hash_6 ⟨by exact Nat.le_of_ble_eq_true rfl, by exact Nat.le_of_ble_eq_true rfl⟩) hS (fun v9 w2 H locs hp hw hS => ?_)
    obtain ⟨rfl, e9⟩ := hp
    obtain ⟨hJ, hF9⟩ := mo_cod hJ e9
    have hF0 := hF0.tr hF9
    obtain ⟨hm, ⟨g, hra, hg⟩, ⟨fs, hsa, hfs⟩, hrow, hinj⟩ := id hJ
    refine lv_if_ne (tgt := 14) hx hb nd_M_hash_9 (by decide) (fun hc => ?_) (fun hc => absurd hc (by decide))
    refine lv_lconst (v := 1) hx hb nd_M_hash_14 (by decide) ?_
    refine lv_lstore_n hx hb nd_M_hash_15 rfl hl (by decide) (lv' := [(2, .long 1), (0, .ref mo), (1, .int (nI j))]) rfl (fun ls hl => ?_)
    refine lv_iconst (v := 0) hx hb nd_M_hash_16 (by decide) ?_
    refine lv_istore hx hb nd_M_hash_17 hl (by decide) (lv' := [(4, .int 0), (2, .long 1), (0, .ref mo), (1, .int (nI j))]) rfl (fun ls hl => ?_)
    have hj3 : sz j ≤ 3000 := (hrow j (by omega)).1
    have loop : ∀ (m9 y : Nat) (ls : Array Slot) (H : Heap) (locs : List Loc), m9 + y = sz j → lv_has ls 5 [(4, .int (nI y)), (2, .long (sp_hs (vs j) y)), (0, .ref mo), (1, .int (nI j))] → g_P G w2 H → g_S G s.heap H locs → W p l e ({ frames := 1, cells := 0, slots := 0, locals := 30 }) s m [.ref mo, .int (nI j)].toArray below meth c H locs (0) (0) (MQ below (g_Ql G (fun v9 w' => mo_Post G w mo ra sa rr (sp_hash (op, sz, vs) (nI j)) v9 w')) [.ref mo, .int (nI j)].toArray s 0 0 (xw_A (g_b G))) (F0 m 19 ls []) := by
      intro m9
      induction m9 with
      | zero =>
        intro y ls H locs hmi hl hw hS
        refine lv_iload hx hb nd_M_hash_19 (lv_at hl 0 rfl) ?_
        refine lv_aload_n hx hb nd_M_hash_21 rfl (lv_at hl 2 rfl) ?_
        refine xw_get (T := nT_M) (N := 4) (ci := 5) hx hb hT nu_M hown hK.1 hw hm rfl 1 (by decide) (hT _ nh_fl_M_14) (fun _ h9 => h9) rfl nd_M_hash_22 ?_
        refine lv_iload_n hx hb nd_M_hash_25 rfl (lv_at hl 3 rfl) ?_
        refine xw_iald hx hb hK.1 hw 4 hsa rfl (vp_in_nI (by omega) (by decide)) nd_M_hash_26 ?_
        refine lv_topi (fun y3 ey4 => ?_)
        obtain rfl : y3 = nI (sz j) := ey4.trans (by rw [nI_clamp (by omega)]; exact hfs _ (by omega))
        obtain rfl : y = sz j := by omega
        refine lv_icmp_ge (tgt := 52) hx hb nd_M_hash_27 (by decide) (fun hc => ?_) (fun hc => absurd (nI_le (by omega) (by omega)) hc)
        refine lv_lload_n hx hb nd_M_hash_52 rfl (lv_at hl 1 rfl) ?_
        exact g_lret hx hb hr hlocks hw hS (by rw [sp_hash_0 hj]; exact ⟨⟨_, hJ, hv⟩, rfl, hF0⟩) (by exact Nat.le_of_ble_eq_true rfl) (by exact Nat.le_of_ble_eq_true rfl) nd_M_hash_53
      | succ m9 ih =>
        intro y ls H locs hmi hl hw hS
        refine lv_iload hx hb nd_M_hash_19 (lv_at hl 0 rfl) ?_
        refine lv_aload_n hx hb nd_M_hash_21 rfl (lv_at hl 2 rfl) ?_
        refine xw_get (T := nT_M) (N := 4) (ci := 5) hx hb hT nu_M hown hK.1 hw hm rfl 1 (by decide) (hT _ nh_fl_M_14) (fun _ h9 => h9) rfl nd_M_hash_22 ?_
        refine lv_iload_n hx hb nd_M_hash_25 rfl (lv_at hl 3 rfl) ?_
        refine xw_iald hx hb hK.1 hw 4 hsa rfl (vp_in_nI (by omega) (by decide)) nd_M_hash_26 ?_
        refine lv_topi (fun y3 ey4 => ?_)
        obtain rfl : y3 = nI (sz j) := ey4.trans (by rw [nI_clamp (by omega)]; exact hfs _ (by omega))
        refine lv_icmp_ge (tgt := 52) hx hb nd_M_hash_27 (by decide) (fun hc => absurd hc (nI_ge (by omega) (by omega))) (fun hc => ?_)
        refine lv_ldc2 hx hb hown (hT _ nh_kl_M_34) nd_M_hash_30 ?_
        refine lv_lload_n hx hb nd_M_hash_33 rfl (lv_at hl 1 rfl) ?_
        refine lv_lmul hx hb nd_M_hash_34 ?_
        refine lv_aload_n hx hb nd_M_hash_35 rfl (lv_at hl 2 rfl) ?_
        refine xw_get (T := nT_M) (N := 4) (ci := 5) hx hb hT nu_M hown hK.1 hw hm rfl 0 (by decide) (hT _ nh_fl_M_11) (fun _ h9 => h9) rfl nd_M_hash_36 ?_
        refine lv_iload_n hx hb nd_M_hash_39 rfl (lv_at hl 3 rfl) ?_
        refine xw_aaldA (y := (rr j)) hx hb hK.1 hw 5 hra rfl (vp_in_nI (by omega) (by decide)) (by rw [nI_clamp (by omega)]; exact hg _ (by omega)) nd_M_hash_40 ?_
        have hr_j := (hrow j (by omega)).2
        refine lv_iload hx hb nd_M_hash_41 (lv_at hl 0 rfl) ?_
        refine xw_lald hx hb hK.1 hw 0 hr_j rfl (vp_in_nI (by omega) (by decide)) nd_M_hash_43 ?_
        refine lv_topl (fun y5 ey6 => ?_)
        obtain rfl : y5 = vs j y := ey6.trans (by rw [nI_clamp (by omega)]; exact hv j (by omega) y (by omega))
        refine lv_ladd hx hb nd_M_hash_44 ?_
        refine lv_lstore_n hx hb nd_M_hash_45 rfl hl (by decide) (lv' := [(2, .long ((31 * (sp_hs (vs j) y)) + (vs j y))), (4, .int (nI y)), (0, .ref mo), (1, .int (nI j))]) rfl (fun ls hl => ?_)
        refine lv_iinc (k := 1) hx hb nd_M_hash_46 hl rfl rfl (by decide) (lv' := [(4, .int ((nI y) + 1)), (2, .long ((31 * (sp_hs (vs j) y)) + (vs j y))), (0, .ref mo), (1, .int (nI j))]) rfl (fun ls hl => ?_)
        rw [nI_1] at hl
        refine lv_goto (tgt := 19) hx hb nd_M_hash_49 (by decide) ?_
        exact ih (y + 1) ls H locs (by omega) hl hw hS
    exact loop (sz j) 0 ls H locs (by omega) hl hw hS
  · refine lv_aload_n hx hb nd_M_hash_0 rfl (lv_at hl 0 rfl) ?_
    refine lv_iload_n hx hb nd_M_hash_1 rfl (lv_at hl 1 rfl) ?_
    refine g_calli (va_runS (As := [.int a]) (rest := [.ref mo]) ⟨hx, hb, hml, hown, hts⟩ (c_M_isSlot0 l G w a ha) (cwS 1 hts (nw_of (nw_3 nh_ml_M_22 nh_st_M_isSlot nh_in_M nh_co_M_isSlot)) rfl rfl rfl (by decide +kernel) ⟨Nat.le_of_ble_eq_true rfl, Nat.le_of_ble_eq_true rfl⟩) (g_preS hK hw hS _) rfl rfl hl.1 rfl (lv_room (Nat.le_of_ble_eq_true rfl)) nd_M_hash_2 ⟨by exact Nat.le_of_ble_eq_true rfl, by exact Nat.le_of_ble_eq_true rfl⟩) hS (fun v9 w1 H locs hp hw hS => ?_)
    obtain ⟨rfl, hw9⟩ := hp
    rw [hw9] at hw
    refine lv_iconst (v := 1) hx hb nd_M_hash_5 (by decide) ?_
    refine g_calli (va_runV (As := [.int 0, .int 1]) (rest := []) ⟨hx, hb, hml, hown, hts⟩ (c_M_good0 l G w mo ra sa (mo_b op) cd 1 hm) (cwV (C := nR_M) 2 hts (nw_of (nw_4 nh_ml_M_26 nh_im_M_good nh_se_M_good nh_in_M nh_co_M_good)) rfl rfl rfl (by decide +kernel) ⟨Nat.le_of_ble_eq_true rfl, Nat.le_of_ble_eq_true rfl⟩) (g_preV (ci := 5) (q := (nR_M, nT_M, 4)) hK hw hS rfl hm _) rfl rfl hl.1 rfl (lv_room (Nat.le_of_ble_eq_true rfl)) nd_M_hash_6 ⟨by exact Nat.le_of_ble_eq_true rfl, by exact Nat.le_of_ble_eq_true rfl⟩) hS (fun v9 w2 H locs hp hw hS => ?_)
    obtain ⟨rfl, e9⟩ := hp
    obtain ⟨hJ, hF9⟩ := mo_cod hJ e9
    have hF0 := hF0.tr hF9
    obtain ⟨hm, ⟨g, hra, hg⟩, ⟨fs, hsa, hfs⟩, hrow, hinj⟩ := id hJ
    refine lv_if_ne (tgt := 14) hx hb nd_M_hash_9 (by decide) (fun hc => absurd rfl hc) (fun hc => ?_)
    refine lv_lconst (v := 0) hx hb nd_M_hash_12 (by decide) ?_
    exact g_lret hx hb hr hlocks hw hS (by rw [sp_hash_1 ha]; exact ⟨⟨_, hJ, hv⟩, rfl, hF0⟩) (by exact Nat.le_of_ble_eq_true rfl) (by exact Nat.le_of_ble_eq_true rfl) nd_M_hash_13

set_option maxHeartbeats 4000000 in
set_option maxRecDepth 100000 in
theorem c_M_open (l : Launch) (G : g_G) (w : xw_W) (mo ra sa : Nat) (rr : Nat → Nat) (S : sp_S) (cd : Int32) (hI : mo_I G w mo ra sa rr S cd) (a : Int32) : Met l ny_M_open nw_M_open ({ frames := 1, cells := 0, slots := 0, locals := 30 }) (g_Pc G w [.ref mo, .int a]) (g_Qv G (fun w' => mo_Post G w mo ra sa rr (sp_opn S a) 0 w')) 0 0 (xw_A (g_b G)) := by
  refine g_met (by decide) (Nat.le_of_ble_eq_true rfl) rfl ?_
  intro p e s m below meth c ls hx hb hr hts hown hlocks hin hml hl hK hB hw hS
  have hT : ∀ w ∈ nw_T, w.before _ s = true := fun w h => hts w (List.mem_cons_of_mem _ h)
  have hown : s.vm.findClass "RadixShelfModel" = some m.cls := hown
  have hl : lv_has ls 2 [(0, .ref mo), (1, .int a)] := hl
  obtain ⟨op, sz, vs⟩ := S
  obtain ⟨f, hJ9, hv9⟩ := hI
  have hJ : mo_J G w mo ra sa rr op sz f cd := hJ9
  have hv : ∀ k, k < 17 → ∀ z, z < sz k → f k z = vs k z := hv9
  clear hJ9 hv9
  have hF0 : mo_F mo sa rr w w := mo_F.rf
  obtain ⟨hm, ⟨g, hra, hg⟩, ⟨fs, hsa, hfs⟩, hrow, hinj⟩ := id hJ
  by_cases ha : 0 ≤ a ∧ a ≤ 15
  · obtain ⟨j, hj, rfl⟩ := sp_sl_of ha
    refine lv_aload_n hx hb nd_M_open_0 rfl (lv_at hl 0 rfl) ?_
    refine lv_iload_n hx hb nd_M_open_1 rfl (lv_at hl 1 rfl) ?_
    refine g_calli (va_runS (As := [.int (nI j)]) (rest := [.ref mo]) ⟨hx, hb, hml, hown, hts⟩ (c_M_isSlot1 l G w (nI j) (sp_slh hj)) (cwS 1 hts (nw_of (nw_3 nh_ml_M_22 nh_st_M_isSlot nh_in_M nh_co_M_isSlot)) rfl rfl rfl (by decide +kernel) ⟨Nat.le_of_ble_eq_true rfl, Nat.le_of_ble_eq_true rfl⟩) (g_preS hK hw hS _) rfl rfl hl.1 rfl (lv_room (Nat.le_of_ble_eq_true rfl)) nd_M_open_2 ⟨by exact Nat.le_of_ble_eq_true rfl, by exact Nat.le_of_ble_eq_true rfl⟩) hS (fun v9 w1 H locs hp hw hS => ?_)
    obtain ⟨rfl, hw9⟩ := hp
    rw [hw9] at hw
    refine lv_iconst (v := 1) hx hb nd_M_open_5 (by decide) ?_
    refine g_calli (va_runV (As := [.int 1, .int 1]) (rest := []) ⟨hx, hb, hml, hown, hts⟩ (c_M_good1 l G w mo ra sa (mo_b op) cd 1 hm) (cwV (C := nR_M) 2 hts (nw_of (nw_4 nh_ml_M_26 nh_im_M_good nh_se_M_good nh_in_M nh_co_M_good)) rfl rfl rfl (by decide +kernel) ⟨Nat.le_of_ble_eq_true rfl, Nat.le_of_ble_eq_true rfl⟩) (g_preV (ci := 5) (q := (nR_M, nT_M, 4)) hK hw hS rfl hm _) rfl rfl hl.1 rfl (lv_room (Nat.le_of_ble_eq_true rfl)) nd_M_open_6 ⟨by exact Nat.le_of_ble_eq_true rfl, by exact Nat.le_of_ble_eq_true rfl⟩) hS (fun v9 w2 H locs hp hw hS => ?_)
    obtain ⟨rfl, e9⟩ := hp
    obtain ⟨hJ, hF9⟩ := mo_cod hJ e9
    have hF0 := hF0.tr hF9
    obtain ⟨hm, ⟨g, hra, hg⟩, ⟨fs, hsa, hfs⟩, hrow, hinj⟩ := id hJ
    refine lv_if_eq (tgt := 32) hx hb nd_M_open_9 (by decide) (fun hc => absurd hc (by decide)) (fun hc => ?_)
    rcases op with _ | _
    · obtain ⟨hm, ⟨g, hra, hg⟩, ⟨fs, hsa, hfs⟩, hrow, hinj⟩ := id hJ
      refine lv_aload_n hx hb nd_M_open_12 rfl (lv_at hl 0 rfl) ?_
      refine lv_aload_n hx hb nd_M_open_13 rfl (lv_at hl 0 rfl) ?_
      refine xw_get (T := nT_M) (N := 4) (ci := 5) hx hb hT nu_M hown hK.1 hw hm rfl 2 (by decide) (hT _ nh_fl_M_36) (fun _ h9 => h9) rfl nd_M_open_14 ?_
      refine lv_topi (fun y3 ey4 => ?_)
      obtain rfl : y3 = 0 := ey4.trans (rfl)
      refine lv_if_ne (tgt := 24) hx hb nd_M_open_17 (by decide) (fun hc => absurd rfl hc) (fun hc => ?_)
      refine lv_iconst (v := 1) hx hb nd_M_open_20 (by decide) ?_
      refine lv_goto (tgt := 25) hx hb nd_M_open_21 (by decide) ?_
      refine lv_iconst (v := 2) hx hb nd_M_open_25 (by decide) ?_
      refine g_calli (va_runV (As := [.int 1, .int 2]) (rest := []) ⟨hx, hb, hml, hown, hts⟩ (c_M_good1 l G w2 mo ra sa (mo_b false) 0 2 hm) (cwV (C := nR_M) 2 hts (nw_of (nw_4 nh_ml_M_26 nh_im_M_good nh_se_M_good nh_in_M nh_co_M_good)) rfl rfl rfl (by decide +kernel) ⟨Nat.le_of_ble_eq_true rfl, Nat.le_of_ble_eq_true rfl⟩) (g_preV (ci := 5) (q := (nR_M, nT_M, 4)) hK hw hS rfl hm _) rfl rfl hl.1 rfl (lv_room (Nat.le_of_ble_eq_true rfl)) nd_M_open_26 ⟨by exact Nat.le_of_ble_eq_true rfl, by exact Nat.le_of_ble_eq_true rfl⟩) hS (fun v9 w5 H locs hp hw hS => ?_)
      obtain ⟨rfl, e9⟩ := hp
      obtain ⟨hJ, hF9⟩ := mo_cod hJ e9
      have hF0 := hF0.tr hF9
      obtain ⟨hm, ⟨g, hra, hg⟩, ⟨fs, hsa, hfs⟩, hrow, hinj⟩ := id hJ
      refine lv_if_ne (tgt := 33) hx hb nd_M_open_29 (by decide) (fun hc => ?_) (fun hc => absurd hc (by decide))
      refine lv_aload_n hx hb nd_M_open_33 rfl (lv_at hl 0 rfl) ?_
      refine lv_bipush (v := 16) hx hb nd_M_open_34 (by decide) ?_
      refine lv_topi (fun y1 ey1 => ?_)
      obtain rfl : y1 = nI 16 := ey1.trans rfl
      refine lv_iload_n hx hb nd_M_open_36 rfl (lv_at hl 1 rfl) ?_
      refine g_callv (va_runV (As := [.int (nI 16), .int (nI j)]) (rest := []) ⟨hx, hb, hml, hown, hts⟩ (c_M_copy l G w5 mo ra sa rr false sz f 0 16 j (by omega) (by omega) hJ) (cwV (C := nR_M) 2 hts (nw_of (nw_4 nh_ml_M_30 nh_im_M_copy nh_se_M_copy nh_in_M nh_co_M_copy)) rfl rfl rfl (by decide +kernel) ⟨Nat.le_of_ble_eq_true rfl, Nat.le_of_ble_eq_true rfl⟩) (g_preV (ci := 5) (q := (nR_M, nT_M, 4)) hK hw hS rfl hm _) rfl rfl hl.1 rfl (lv_room (Nat.le_of_ble_eq_true rfl)) nd_M_open_37 ⟨by exact Nat.le_of_ble_eq_true rfl, by exact Nat.le_of_ble_eq_true rfl⟩) hS (fun w6 H locs hp hw hS => ?_)
      obtain ⟨h, hJ, hh, hF9⟩ := hp
      have hF0 := hF0.tr hF9
      obtain ⟨hm, ⟨g, hra, hg⟩, ⟨fs, hsa, hfs⟩, hrow, hinj⟩ := id hJ
      refine lv_aload_n hx hb nd_M_open_40 rfl (lv_at hl 0 rfl) ?_
      refine lv_iconst (v := 1) hx hb nd_M_open_41 (by decide) ?_
      refine lv_topi (fun y7 ey8 => ?_)
      obtain rfl : y7 = mo_b true := ey8.trans (rfl)
      refine xw_put (T := nT_M) (N := 4) (ci := 5) (v := .int (mo_b true)) (ty := .boolean) hx hb hT nu_M nt_M nk_M nn_M hown hK.1 hB hw hS hm rfl 2 (by decide) (hT _ nh_fl_M_36) (fun _ h9 => h9) rfl (by decide +kernel) rfl rfl (Nat.le_of_ble_eq_true rfl) nd_M_open_42 (fun H locs hw hS => ?_)
      obtain ⟨w9, ew10⟩ : ∃ z, z = va_up w6 mo (some (.inr (5, [.ref ra, .ref sa, .int (mo_b true), .int 0]))) := ⟨_, rfl⟩
      have hw : g_P G w9 H := by rw [ew10]; exact hw
      have hra : w9 ra = some (.inl (G.2.1 5, 17, .inr (.inr (.inr (.inr g))))) := by rw [ew10, va_up_ne _ _ (xw_ne hra hm (by simp))]; exact hra
      have hsa : w9 sa = some (.inl (G.2.1 4, 17, .inl fs)) := by rw [ew10, va_up_ne _ _ (xw_ne hsa hm (by simp))]; exact hsa
      have hm : w9 mo = some (.inr (5, [.ref ra, .ref sa, .int (mo_b true), .int 0])) := by rw [ew10]; exact va_up_self _ _ _
      obtain ⟨hJ, hF9⟩ := mo_cod hJ ew10
      have hF0 := hF0.tr hF9
      exact g_vret hx hb hr hlocks hw hS (by rw [sp_opn_0 hj]; exact ⟨⟨_, hJ, mo_fin hv (fun z hz => (hh z hz).trans (hv j (by omega) z hz))⟩, rfl, hF0⟩) (by exact Nat.le_of_ble_eq_true rfl) (by exact Nat.le_of_ble_eq_true rfl) nd_M_open_45
    · obtain ⟨hm, ⟨g, hra, hg⟩, ⟨fs, hsa, hfs⟩, hrow, hinj⟩ := id hJ
      refine lv_aload_n hx hb nd_M_open_12 rfl (lv_at hl 0 rfl) ?_
      refine lv_aload_n hx hb nd_M_open_13 rfl (lv_at hl 0 rfl) ?_
      refine xw_get (T := nT_M) (N := 4) (ci := 5) hx hb hT nu_M hown hK.1 hw hm rfl 2 (by decide) (hT _ nh_fl_M_36) (fun _ h9 => h9) rfl nd_M_open_14 ?_
      refine lv_topi (fun y3 ey4 => ?_)
      obtain rfl : y3 = 1 := ey4.trans (rfl)
      refine lv_if_ne (tgt := 24) hx hb nd_M_open_17 (by decide) (fun hc => ?_) (fun hc => absurd hc (by decide))
      refine lv_iconst (v := 0) hx hb nd_M_open_24 (by decide) ?_
      refine lv_iconst (v := 2) hx hb nd_M_open_25 (by decide) ?_
      refine g_calli (va_runV (As := [.int 0, .int 2]) (rest := []) ⟨hx, hb, hml, hown, hts⟩ (c_M_good0 l G w2 mo ra sa (mo_b true) 0 2 hm) (cwV (C := nR_M) 2 hts (nw_of (nw_4 nh_ml_M_26 nh_im_M_good nh_se_M_good nh_in_M nh_co_M_good)) rfl rfl rfl (by decide +kernel) ⟨Nat.le_of_ble_eq_true rfl, Nat.le_of_ble_eq_true rfl⟩) (g_preV (ci := 5) (q := (nR_M, nT_M, 4)) hK hw hS rfl hm _) rfl rfl hl.1 rfl (lv_room (Nat.le_of_ble_eq_true rfl)) nd_M_open_26 ⟨by exact Nat.le_of_ble_eq_true rfl, by exact Nat.le_of_ble_eq_true rfl⟩) hS (fun v9 w5 H locs hp hw hS => ?_)
      obtain ⟨rfl, e9⟩ := hp
      obtain ⟨hJ, hF9⟩ := mo_cod hJ e9
      have hF0 := hF0.tr hF9
      obtain ⟨hm, ⟨g, hra, hg⟩, ⟨fs, hsa, hfs⟩, hrow, hinj⟩ := id hJ
      refine lv_if_ne (tgt := 33) hx hb nd_M_open_29 (by decide) (fun hc => absurd rfl hc) (fun hc => ?_)
      exact g_vret hx hb hr hlocks hw hS (by rw [sp_opn_2 hj]; exact ⟨⟨_, hJ, hv⟩, rfl, hF0⟩) (by exact Nat.le_of_ble_eq_true rfl) (by exact Nat.le_of_ble_eq_true rfl) nd_M_open_32
  · refine lv_aload_n hx hb nd_M_open_0 rfl (lv_at hl 0 rfl) ?_
    refine lv_iload_n hx hb nd_M_open_1 rfl (lv_at hl 1 rfl) ?_
    refine g_calli (va_runS (As := [.int a]) (rest := [.ref mo]) ⟨hx, hb, hml, hown, hts⟩ (c_M_isSlot0 l G w a ha) (cwS 1 hts (nw_of (nw_3 nh_ml_M_22 nh_st_M_isSlot nh_in_M nh_co_M_isSlot)) rfl rfl rfl (by decide +kernel) ⟨Nat.le_of_ble_eq_true rfl, Nat.le_of_ble_eq_true rfl⟩) (g_preS hK hw hS _) rfl rfl hl.1 rfl (lv_room (Nat.le_of_ble_eq_true rfl)) nd_M_open_2 ⟨by exact Nat.le_of_ble_eq_true rfl, by exact Nat.le_of_ble_eq_true rfl⟩) hS (fun v9 w1 H locs hp hw hS => ?_)
    obtain ⟨rfl, hw9⟩ := hp
    rw [hw9] at hw
    refine lv_iconst (v := 1) hx hb nd_M_open_5 (by decide) ?_
    refine g_calli (va_runV (As := [.int 0, .int 1]) (rest := []) ⟨hx, hb, hml, hown, hts⟩ (c_M_good0 l G w mo ra sa (mo_b op) cd 1 hm) (cwV (C := nR_M) 2 hts (nw_of (nw_4 nh_ml_M_26 nh_im_M_good nh_se_M_good nh_in_M nh_co_M_good)) rfl rfl rfl (by decide +kernel) ⟨Nat.le_of_ble_eq_true rfl, Nat.le_of_ble_eq_true rfl⟩) (g_preV (ci := 5) (q := (nR_M, nT_M, 4)) hK hw hS rfl hm _) rfl rfl hl.1 rfl (lv_room (Nat.le_of_ble_eq_true rfl)) nd_M_open_6 ⟨by exact Nat.le_of_ble_eq_true rfl, by exact Nat.le_of_ble_eq_true rfl⟩) hS (fun v9 w2 H locs hp hw hS => ?_)
    obtain ⟨rfl, e9⟩ := hp
    obtain ⟨hJ, hF9⟩ := mo_cod hJ e9
    have hF0 := hF0.tr hF9
    obtain ⟨hm, ⟨g, hra, hg⟩, ⟨fs, hsa, hfs⟩, hrow, hinj⟩ := id hJ
    refine lv_if_eq (tgt := 32) hx hb nd_M_open_9 (by decide) (fun hc => ?_) (fun hc => absurd rfl hc)
    exact g_vret hx hb hr hlocks hw hS (by rw [sp_opn_1 ha]; exact ⟨⟨_, hJ, hv⟩, rfl, hF0⟩) (by exact Nat.le_of_ble_eq_true rfl) (by exact Nat.le_of_ble_eq_true rfl) nd_M_open_32

set_option maxHeartbeats 4000000 in
set_option maxRecDepth 100000 in
theorem c_M_freeze (l : Launch) (G : g_G) (w : xw_W) (mo ra sa : Nat) (rr : Nat → Nat) (S : sp_S) (cd : Int32) (hI : mo_I G w mo ra sa rr S cd) (a : Int32) : Met l ny_M_freeze nw_M_freeze ({ frames := 1, cells := 0, slots := 0, locals := 30 }) (g_Pc G w [.ref mo, .int a]) (g_Qi G (fun v9 w' => mo_Post G w mo ra sa rr (sp_freeze S a) v9.toInt64 w')) 0 0 (xw_A (g_b G)) := by
  refine g_met (by decide) (Nat.le_of_ble_eq_true rfl) rfl ?_
  intro p e s m below meth c ls hx hb hr hts hown hlocks hin hml hl hK hB hw hS
  have hT : ∀ w ∈ nw_T, w.before _ s = true := fun w h => hts w (List.mem_cons_of_mem _ h)
  have hown : s.vm.findClass "RadixShelfModel" = some m.cls := hown
  have hl : lv_has ls 2 [(0, .ref mo), (1, .int a)] := hl
  obtain ⟨op, sz, vs⟩ := S
  obtain ⟨f, hJ9, hv9⟩ := hI
  have hJ : mo_J G w mo ra sa rr op sz f cd := hJ9
  have hv : ∀ k, k < 17 → ∀ z, z < sz k → f k z = vs k z := hv9
  clear hJ9 hv9
  have hF0 : mo_F mo sa rr w w := mo_F.rf
  obtain ⟨hm, ⟨g, hra, hg⟩, ⟨fs, hsa, hfs⟩, hrow, hinj⟩ := id hJ
  by_cases ha : 0 ≤ a ∧ a ≤ 15
  · obtain ⟨i, hi, rfl⟩ := sp_sl_of ha
    refine lv_aload_n hx hb nd_M_freeze_0 rfl (lv_at hl 0 rfl) ?_
    refine lv_iload_n hx hb nd_M_freeze_1 rfl (lv_at hl 1 rfl) ?_
    refine g_calli (va_runS (As := [.int (nI i)]) (rest := [.ref mo]) ⟨hx, hb, hml, hown, hts⟩ (c_M_isSlot1 l G w (nI i) (sp_slh hi)) (cwS 1 hts (nw_of (nw_3 nh_ml_M_22 nh_st_M_isSlot nh_in_M nh_co_M_isSlot)) rfl rfl rfl (by decide +kernel) ⟨Nat.le_of_ble_eq_true rfl, Nat.le_of_ble_eq_true rfl⟩) (g_preS hK hw hS _) rfl rfl hl.1 rfl (lv_room (Nat.le_of_ble_eq_true rfl)) nd_M_freeze_2 ⟨by exact Nat.le_of_ble_eq_true rfl, by exact Nat.le_of_ble_eq_true rfl⟩) hS (fun v9 w1 H locs hp hw hS => ?_)
    obtain ⟨rfl, hw9⟩ := hp
    rw [hw9] at hw
    refine lv_iconst (v := 1) hx hb nd_M_freeze_5 (by decide) ?_
    refine g_calli (va_runV (As := [.int 1, .int 1]) (rest := []) ⟨hx, hb, hml, hown, hts⟩ (c_M_good1 l G w mo ra sa (mo_b op) cd 1 hm) (cwV (C := nR_M) 2 hts (nw_of (nw_4 nh_ml_M_26 nh_im_M_good nh_se_M_good nh_in_M nh_co_M_good)) rfl rfl rfl (by decide +kernel) ⟨Nat.le_of_ble_eq_true rfl, Nat.le_of_ble_eq_true rfl⟩) (g_preV (ci := 5) (q := (nR_M, nT_M, 4)) hK hw hS rfl hm _) rfl rfl hl.1 rfl (lv_room (Nat.le_of_ble_eq_true rfl)) nd_M_freeze_6 ⟨by exact Nat.le_of_ble_eq_true rfl, by exact Nat.le_of_ble_eq_true rfl⟩) hS (fun v9 w2 H locs hp hw hS => ?_)
    obtain ⟨rfl, e9⟩ := hp
    obtain ⟨hJ, hF9⟩ := mo_cod hJ e9
    have hF0 := hF0.tr hF9
    obtain ⟨hm, ⟨g, hra, hg⟩, ⟨fs, hsa, hfs⟩, hrow, hinj⟩ := id hJ
    refine lv_if_eq (tgt := 24) hx hb nd_M_freeze_9 (by decide) (fun hc => absurd hc (by decide)) (fun hc => ?_)
    rcases op with _ | _
    · obtain ⟨hm, ⟨g, hra, hg⟩, ⟨fs, hsa, hfs⟩, hrow, hinj⟩ := id hJ
      refine lv_aload_n hx hb nd_M_freeze_12 rfl (lv_at hl 0 rfl) ?_
      refine lv_aload_n hx hb nd_M_freeze_13 rfl (lv_at hl 0 rfl) ?_
      refine xw_get (T := nT_M) (N := 4) (ci := 5) hx hb hT nu_M hown hK.1 hw hm rfl 2 (by decide) (hT _ nh_fl_M_36) (fun _ h9 => h9) rfl nd_M_freeze_14 ?_
      refine lv_topi (fun y3 ey4 => ?_)
      obtain rfl : y3 = 0 := ey4.trans (rfl)
      refine lv_iconst (v := 2) hx hb nd_M_freeze_17 (by decide) ?_
      refine g_calli (va_runV (As := [.int 0, .int 2]) (rest := []) ⟨hx, hb, hml, hown, hts⟩ (c_M_good0 l G w2 mo ra sa (mo_b false) 0 2 hm) (cwV (C := nR_M) 2 hts (nw_of (nw_4 nh_ml_M_26 nh_im_M_good nh_se_M_good nh_in_M nh_co_M_good)) rfl rfl rfl (by decide +kernel) ⟨Nat.le_of_ble_eq_true rfl, Nat.le_of_ble_eq_true rfl⟩) (g_preV (ci := 5) (q := (nR_M, nT_M, 4)) hK hw hS rfl hm _) rfl rfl hl.1 rfl (lv_room (Nat.le_of_ble_eq_true rfl)) nd_M_freeze_18 ⟨by exact Nat.le_of_ble_eq_true rfl, by exact Nat.le_of_ble_eq_true rfl⟩) hS (fun v9 w5 H locs hp hw hS => ?_)
      obtain ⟨rfl, e9⟩ := hp
      obtain ⟨hJ, hF9⟩ := mo_cod hJ e9
      have hF0 := hF0.tr hF9
      obtain ⟨hm, ⟨g, hra, hg⟩, ⟨fs, hsa, hfs⟩, hrow, hinj⟩ := id hJ
      refine lv_if_ne (tgt := 26) hx hb nd_M_freeze_21 (by decide) (fun hc => absurd rfl hc) (fun hc => ?_)
      refine lv_iconst (v := 0) hx hb nd_M_freeze_24 (by decide) ?_
      exact g_iret hx hb hr hlocks hw hS (by rw [sp_freeze_2 hi]; exact ⟨⟨_, hJ, hv⟩, rfl, hF0⟩) (by exact Nat.le_of_ble_eq_true rfl) (by exact Nat.le_of_ble_eq_true rfl) nd_M_freeze_25
    · obtain ⟨hm, ⟨g, hra, hg⟩, ⟨fs, hsa, hfs⟩, hrow, hinj⟩ := id hJ
      refine lv_aload_n hx hb nd_M_freeze_12 rfl (lv_at hl 0 rfl) ?_
      refine lv_aload_n hx hb nd_M_freeze_13 rfl (lv_at hl 0 rfl) ?_
      refine xw_get (T := nT_M) (N := 4) (ci := 5) hx hb hT nu_M hown hK.1 hw hm rfl 2 (by decide) (hT _ nh_fl_M_36) (fun _ h9 => h9) rfl nd_M_freeze_14 ?_
      refine lv_topi (fun y3 ey4 => ?_)
      obtain rfl : y3 = 1 := ey4.trans (rfl)
      refine lv_iconst (v := 2) hx hb nd_M_freeze_17 (by decide) ?_
      refine g_calli (va_runV (As := [.int 1, .int 2]) (rest := []) ⟨hx, hb, hml, hown, hts⟩ (c_M_good1 l G w2 mo ra sa (mo_b true) 0 2 hm) (cwV (C := nR_M) 2 hts (nw_of (nw_4 nh_ml_M_26 nh_im_M_good nh_se_M_good nh_in_M nh_co_M_good)) rfl rfl rfl (by decide +kernel) ⟨Nat.le_of_ble_eq_true rfl, Nat.le_of_ble_eq_true rfl⟩) (g_preV (ci := 5) (q := (nR_M, nT_M, 4)) hK hw hS rfl hm _) rfl rfl hl.1 rfl (lv_room (Nat.le_of_ble_eq_true rfl)) nd_M_freeze_18 ⟨by exact Nat.le_of_ble_eq_true rfl, by exact Nat.le_of_ble_eq_true rfl⟩) hS (fun v9 w5 H locs hp hw hS => ?_)
      obtain ⟨rfl, e9⟩ := hp
      obtain ⟨hJ, hF9⟩ := mo_cod hJ e9
      have hF0 := hF0.tr hF9
      obtain ⟨hm, ⟨g, hra, hg⟩, ⟨fs, hsa, hfs⟩, hrow, hinj⟩ := id hJ
      refine lv_if_ne (tgt := 26) hx hb nd_M_freeze_21 (by decide) (fun hc => ?_) (fun hc => absurd hc (by decide))
      refine lv_aload_n hx hb nd_M_freeze_26 rfl (lv_at hl 0 rfl) ?_
      refine lv_iload_n hx hb nd_M_freeze_27 rfl (lv_at hl 1 rfl) ?_
      refine lv_bipush (v := 16) hx hb nd_M_freeze_28 (by decide) ?_
      refine lv_topi (fun y6 ey7 => ?_)
      obtain rfl : y6 = nI 16 := ey7.trans (rfl)
      refine g_callv (va_runV (As := [.int (nI i), .int (nI 16)]) (rest := []) ⟨hx, hb, hml, hown, hts⟩ (c_M_copy l G w5 mo ra sa rr true sz f 0 i 16 (by omega) (by omega) hJ) (cwV (C := nR_M) 2 hts (nw_of (nw_4 nh_ml_M_30 nh_im_M_copy nh_se_M_copy nh_in_M nh_co_M_copy)) rfl rfl rfl (by decide +kernel) ⟨Nat.le_of_ble_eq_true rfl, Nat.le_of_ble_eq_true rfl⟩) (g_preV (ci := 5) (q := (nR_M, nT_M, 4)) hK hw hS rfl hm _) rfl rfl hl.1 rfl (lv_room (Nat.le_of_ble_eq_true rfl)) nd_M_freeze_30 ⟨by exact Nat.le_of_ble_eq_true rfl, by exact Nat.le_of_ble_eq_true rfl⟩) hS (fun w8 H locs hp hw hS => ?_)
      obtain ⟨h, hJ, hh, hF9⟩ := hp
      have hF0 := hF0.tr hF9
      obtain ⟨hm, ⟨g, hra, hg⟩, ⟨fs, hsa, hfs⟩, hrow, hinj⟩ := id hJ
      refine lv_aload_n hx hb nd_M_freeze_33 rfl (lv_at hl 0 rfl) ?_
      refine lv_iconst (v := 0) hx hb nd_M_freeze_34 (by decide) ?_
      refine lv_topi (fun y9 ey10 => ?_)
      obtain rfl : y9 = mo_b false := ey10.trans (rfl)
      refine xw_put (T := nT_M) (N := 4) (ci := 5) (v := .int (mo_b false)) (ty := .boolean) hx hb hT nu_M nt_M nk_M nn_M hown hK.1 hB hw hS hm rfl 2 (by decide) (hT _ nh_fl_M_36) (fun _ h9 => h9) rfl (by decide +kernel) rfl rfl (Nat.le_of_ble_eq_true rfl) nd_M_freeze_35 (fun H locs hw hS => ?_)
      obtain ⟨w11, ew12⟩ : ∃ z, z = va_up w8 mo (some (.inr (5, [.ref ra, .ref sa, .int (mo_b false), .int 0]))) := ⟨_, rfl⟩
      have hw : g_P G w11 H := by rw [ew12]; exact hw
      have hra : w11 ra = some (.inl (G.2.1 5, 17, .inr (.inr (.inr (.inr g))))) := by rw [ew12, va_up_ne _ _ (xw_ne hra hm (by simp))]; exact hra
      have hsa : w11 sa = some (.inl (G.2.1 4, 17, .inl fs)) := by rw [ew12, va_up_ne _ _ (xw_ne hsa hm (by simp))]; exact hsa
      have hm : w11 mo = some (.inr (5, [.ref ra, .ref sa, .int (mo_b false), .int 0])) := by rw [ew12]; exact va_up_self _ _ _
      refine lv_aload_n hx hb nd_M_freeze_38 rfl (lv_at hl 0 rfl) ?_
      refine xw_get (T := nT_M) (N := 4) (ci := 5) hx hb hT nu_M hown hK.1 hw hm rfl 1 (by decide) (hT _ nh_fl_M_14) (fun _ h9 => h9) rfl nd_M_freeze_39 ?_
      refine lv_iload_n hx hb nd_M_freeze_42 rfl (lv_at hl 1 rfl) ?_
      obtain ⟨hJ, hF9⟩ := mo_cod hJ ew12
      have hF0 := hF0.tr hF9
      obtain ⟨hm, ⟨g, hra, hg⟩, ⟨fs, hsa, hfs⟩, hrow, hinj⟩ := id hJ
      refine xw_iald hx hb hK.1 hw 4 hsa rfl (vp_in_nI (by omega) (by decide)) nd_M_freeze_43 ?_
      refine lv_topi (fun y13 ey14 => ?_)
      obtain rfl : y13 = nI (sz 16) := ey14.trans (by rw [nI_clamp (by omega)]; rw [hfs _ (by omega), va_up_self])
      exact g_iret hx hb hr hlocks hw hS (by rw [sp_freeze_0 hi]; exact ⟨⟨_, hJ, mo_fin hv (fun z hz => (hh z hz).trans (hv 16 (by omega) z hz))⟩, rfl, hF0⟩) (by exact Nat.le_of_ble_eq_true rfl) (by exact Nat.le_of_ble_eq_true rfl) nd_M_freeze_44
  · refine lv_aload_n hx hb nd_M_freeze_0 rfl (lv_at hl 0 rfl) ?_
    refine lv_iload_n hx hb nd_M_freeze_1 rfl (lv_at hl 1 rfl) ?_
    refine g_calli (va_runS (As := [.int a]) (rest := [.ref mo]) ⟨hx, hb, hml, hown, hts⟩ (c_M_isSlot0 l G w a ha) (cwS 1 hts (nw_of (nw_3 nh_ml_M_22 nh_st_M_isSlot nh_in_M nh_co_M_isSlot)) rfl rfl rfl (by decide +kernel) ⟨Nat.le_of_ble_eq_true rfl, Nat.le_of_ble_eq_true rfl⟩) (g_preS hK hw hS _) rfl rfl hl.1 rfl (lv_room (Nat.le_of_ble_eq_true rfl)) nd_M_freeze_2 ⟨by exact Nat.le_of_ble_eq_true rfl, by exact Nat.le_of_ble_eq_true rfl⟩) hS (fun v9 w1 H locs hp hw hS => ?_)
    obtain ⟨rfl, hw9⟩ := hp
    rw [hw9] at hw
    refine lv_iconst (v := 1) hx hb nd_M_freeze_5 (by decide) ?_
    refine g_calli (va_runV (As := [.int 0, .int 1]) (rest := []) ⟨hx, hb, hml, hown, hts⟩ (c_M_good0 l G w mo ra sa (mo_b op) cd 1 hm) (cwV (C := nR_M) 2 hts (nw_of (nw_4 nh_ml_M_26 nh_im_M_good nh_se_M_good nh_in_M nh_co_M_good)) rfl rfl rfl (by decide +kernel) ⟨Nat.le_of_ble_eq_true rfl, Nat.le_of_ble_eq_true rfl⟩) (g_preV (ci := 5) (q := (nR_M, nT_M, 4)) hK hw hS rfl hm _) rfl rfl hl.1 rfl (lv_room (Nat.le_of_ble_eq_true rfl)) nd_M_freeze_6 ⟨by exact Nat.le_of_ble_eq_true rfl, by exact Nat.le_of_ble_eq_true rfl⟩) hS (fun v9 w2 H locs hp hw hS => ?_)
    obtain ⟨rfl, e9⟩ := hp
    obtain ⟨hJ, hF9⟩ := mo_cod hJ e9
    have hF0 := hF0.tr hF9
    obtain ⟨hm, ⟨g, hra, hg⟩, ⟨fs, hsa, hfs⟩, hrow, hinj⟩ := id hJ
    refine lv_if_eq (tgt := 24) hx hb nd_M_freeze_9 (by decide) (fun hc => ?_) (fun hc => absurd rfl hc)
    refine lv_iconst (v := 0) hx hb nd_M_freeze_24 (by decide) ?_
    exact g_iret hx hb hr hlocks hw hS (by rw [sp_freeze_1 ha]; exact ⟨⟨_, hJ, hv⟩, rfl, hF0⟩) (by exact Nat.le_of_ble_eq_true rfl) (by exact Nat.le_of_ble_eq_true rfl) nd_M_freeze_25

set_option maxHeartbeats 4000000 in
set_option maxRecDepth 100000 in
theorem c_M_build (l : Launch) (G : g_G) (w : xw_W) (mo ra sa : Nat) (rr : Nat → Nat) (S : sp_S) (cd : Int32) (hI : mo_I G w mo ra sa rr S cd) (k a : Int32) (v : Int64) : Met l ny_M_build nw_M_build ({ frames := 1, cells := 0, slots := 0, locals := 30 }) (g_Pc G w [.ref mo, .int k, .int a, .long v]) (g_Qi G (fun v9 w' => mo_Post G w mo ra sa rr (sp_build S k a v) v9.toInt64 w')) 0 0 (xw_A (g_b G)) := by
  refine g_met (by decide) (Nat.le_of_ble_eq_true rfl) rfl ?_
  intro p e s m below meth c ls hx hb hr hts hown hlocks hin hml hl hK hB hw hS
  have hT : ∀ w ∈ nw_T, w.before _ s = true := fun w h => hts w (List.mem_cons_of_mem _ h)
  have hown : s.vm.findClass "RadixShelfModel" = some m.cls := hown
  have hl : lv_has ls 6 [(0, .ref mo), (1, .int k), (2, .int a), (3, .long v)] := hl
  obtain ⟨op, sz, vs⟩ := S
  obtain ⟨f, hJ9, hv9⟩ := hI
  have hJ : mo_J G w mo ra sa rr op sz f cd := hJ9
  have hv : ∀ k, k < 17 → ∀ z, z < sz k → f k z = vs k z := hv9
  clear hJ9 hv9
  have hF0 : mo_F mo sa rr w w := mo_F.rf
  obtain ⟨hm, ⟨g, hra, hg⟩, ⟨fs, hsa, hfs⟩, hrow, hinj⟩ := id hJ
  by_cases hk : 0 ≤ k ∧ k ≤ 2
  · refine lv_aload_n hx hb nd_M_build_0 rfl (lv_at hl 0 rfl) ?_
    refine lv_iload_n hx hb nd_M_build_1 rfl (lv_at hl 1 rfl) ?_
    refine lv_if_lt (tgt := 14) hx hb nd_M_build_2 (by decide) (fun hc => absurd hc (Int32.not_lt.mpr hk.1)) (fun hc => ?_)
    refine lv_iload_n hx hb nd_M_build_5 rfl (lv_at hl 1 rfl) ?_
    refine lv_iconst (v := 2) hx hb nd_M_build_6 (by decide) ?_
    refine lv_icmp_gt (tgt := 14) hx hb nd_M_build_7 (by decide) (fun hc => absurd hc (Int32.not_lt.mpr hk.2)) (fun hc => ?_)
    refine lv_iconst (v := 1) hx hb nd_M_build_10 (by decide) ?_
    refine lv_goto (tgt := 15) hx hb nd_M_build_11 (by decide) ?_
    refine lv_iconst (v := 1) hx hb nd_M_build_15 (by decide) ?_
    refine g_calli (va_runV (As := [.int 1, .int 1]) (rest := []) ⟨hx, hb, hml, hown, hts⟩ (c_M_good1 l G w mo ra sa (mo_b op) cd 1 hm) (cwV (C := nR_M) 2 hts (nw_of (nw_4 nh_ml_M_26 nh_im_M_good nh_se_M_good nh_in_M nh_co_M_good)) rfl rfl rfl (by decide +kernel) ⟨Nat.le_of_ble_eq_true rfl, Nat.le_of_ble_eq_true rfl⟩) (g_preV (ci := 5) (q := (nR_M, nT_M, 4)) hK hw hS rfl hm _) rfl rfl hl.1 rfl (lv_room (Nat.le_of_ble_eq_true rfl)) nd_M_build_16 ⟨by exact Nat.le_of_ble_eq_true rfl, by exact Nat.le_of_ble_eq_true rfl⟩) hS (fun v9 w1 H locs hp hw hS => ?_)
    obtain ⟨rfl, e9⟩ := hp
    obtain ⟨hJ, hF9⟩ := mo_cod hJ e9
    have hF0 := hF0.tr hF9
    obtain ⟨hm, ⟨g, hra, hg⟩, ⟨fs, hsa, hfs⟩, hrow, hinj⟩ := id hJ
    refine lv_if_eq (tgt := 34) hx hb nd_M_build_19 (by decide) (fun hc => absurd hc (by decide)) (fun hc => ?_)
    rcases op with _ | _
    · obtain ⟨hm, ⟨g, hra, hg⟩, ⟨fs, hsa, hfs⟩, hrow, hinj⟩ := id hJ
      refine lv_aload_n hx hb nd_M_build_22 rfl (lv_at hl 0 rfl) ?_
      refine lv_aload_n hx hb nd_M_build_23 rfl (lv_at hl 0 rfl) ?_
      refine xw_get (T := nT_M) (N := 4) (ci := 5) hx hb hT nu_M hown hK.1 hw hm rfl 2 (by decide) (hT _ nh_fl_M_36) (fun _ h9 => h9) rfl nd_M_build_24 ?_
      refine lv_topi (fun y2 ey3 => ?_)
      obtain rfl : y2 = 0 := ey3.trans (rfl)
      refine lv_iconst (v := 2) hx hb nd_M_build_27 (by decide) ?_
      refine g_calli (va_runV (As := [.int 0, .int 2]) (rest := []) ⟨hx, hb, hml, hown, hts⟩ (c_M_good0 l G w1 mo ra sa (mo_b false) 0 2 hm) (cwV (C := nR_M) 2 hts (nw_of (nw_4 nh_ml_M_26 nh_im_M_good nh_se_M_good nh_in_M nh_co_M_good)) rfl rfl rfl (by decide +kernel) ⟨Nat.le_of_ble_eq_true rfl, Nat.le_of_ble_eq_true rfl⟩) (g_preV (ci := 5) (q := (nR_M, nT_M, 4)) hK hw hS rfl hm _) rfl rfl hl.1 rfl (lv_room (Nat.le_of_ble_eq_true rfl)) nd_M_build_28 ⟨by exact Nat.le_of_ble_eq_true rfl, by exact Nat.le_of_ble_eq_true rfl⟩) hS (fun v9 w4 H locs hp hw hS => ?_)
      obtain ⟨rfl, e9⟩ := hp
      obtain ⟨hJ, hF9⟩ := mo_cod hJ e9
      have hF0 := hF0.tr hF9
      obtain ⟨hm, ⟨g, hra, hg⟩, ⟨fs, hsa, hfs⟩, hrow, hinj⟩ := id hJ
      refine lv_if_ne (tgt := 36) hx hb nd_M_build_31 (by decide) (fun hc => absurd rfl hc) (fun hc => ?_)
      refine lv_iconst (v := 0) hx hb nd_M_build_34 (by decide) ?_
      exact g_iret hx hb hr hlocks hw hS (by rw [sp_build_2 hk]; exact ⟨⟨_, hJ, hv⟩, rfl, hF0⟩) (by exact Nat.le_of_ble_eq_true rfl) (by exact Nat.le_of_ble_eq_true rfl) nd_M_build_35
    · obtain ⟨hm, ⟨g, hra, hg⟩, ⟨fs, hsa, hfs⟩, hrow, hinj⟩ := id hJ
      refine lv_aload_n hx hb nd_M_build_22 rfl (lv_at hl 0 rfl) ?_
      refine lv_aload_n hx hb nd_M_build_23 rfl (lv_at hl 0 rfl) ?_
      refine xw_get (T := nT_M) (N := 4) (ci := 5) hx hb hT nu_M hown hK.1 hw hm rfl 2 (by decide) (hT _ nh_fl_M_36) (fun _ h9 => h9) rfl nd_M_build_24 ?_
      refine lv_topi (fun y2 ey3 => ?_)
      obtain rfl : y2 = 1 := ey3.trans (rfl)
      refine lv_iconst (v := 2) hx hb nd_M_build_27 (by decide) ?_
      refine g_calli (va_runV (As := [.int 1, .int 2]) (rest := []) ⟨hx, hb, hml, hown, hts⟩ (c_M_good1 l G w1 mo ra sa (mo_b true) 0 2 hm) (cwV (C := nR_M) 2 hts (nw_of (nw_4 nh_ml_M_26 nh_im_M_good nh_se_M_good nh_in_M nh_co_M_good)) rfl rfl rfl (by decide +kernel) ⟨Nat.le_of_ble_eq_true rfl, Nat.le_of_ble_eq_true rfl⟩) (g_preV (ci := 5) (q := (nR_M, nT_M, 4)) hK hw hS rfl hm _) rfl rfl hl.1 rfl (lv_room (Nat.le_of_ble_eq_true rfl)) nd_M_build_28 ⟨by exact Nat.le_of_ble_eq_true rfl, by exact Nat.le_of_ble_eq_true rfl⟩) hS (fun v9 w4 H locs hp hw hS => ?_)
      obtain ⟨rfl, e9⟩ := hp
      obtain ⟨hJ, hF9⟩ := mo_cod hJ e9
      have hF0 := hF0.tr hF9
      obtain ⟨hm, ⟨g, hra, hg⟩, ⟨fs, hsa, hfs⟩, hrow, hinj⟩ := id hJ
      refine lv_if_ne (tgt := 36) hx hb nd_M_build_31 (by decide) (fun hc => ?_) (fun hc => absurd hc (by decide))
      have hj3 : sz 16 ≤ 3000 := (hrow 16 (by omega)).1
      refine lv_aload_n hx hb nd_M_build_36 rfl (lv_at hl 0 rfl) ?_
      refine xw_get (T := nT_M) (N := 4) (ci := 5) hx hb hT nu_M hown hK.1 hw hm rfl 1 (by decide) (hT _ nh_fl_M_14) (fun _ h9 => h9) rfl nd_M_build_37 ?_
      refine lv_bipush (v := 16) hx hb nd_M_build_40 (by decide) ?_
      refine lv_topi (fun y5 ey6 => ?_)
      obtain rfl : y5 = nI 16 := ey6.trans (rfl)
      refine xw_iald hx hb hK.1 hw 4 hsa rfl (vp_in_nI (by omega) (by decide)) nd_M_build_42 ?_
      refine lv_topi (fun y7 ey8 => ?_)
      obtain rfl : y7 = nI (sz 16) := ey8.trans (by rw [nI_clamp (by omega)]; exact hfs _ (by omega))
      refine lv_istore hx hb nd_M_build_43 hl (by decide) (lv' := [(5, .int (nI (sz 16))), (0, .ref mo), (1, .int k), (2, .int a), (3, .long v)]) rfl (fun ls hl => ?_)
      refine lv_iload_n hx hb nd_M_build_45 rfl (lv_at hl 2 rfl) ?_
      refine lv_if_ne (tgt := 97) hx hb nd_M_build_46 (by decide) (fun hc => ?_) (fun hc => ?_)
      · refine lv_iload_n hx hb nd_M_build_97 rfl (lv_at hl 2 rfl) ?_
        refine lv_iconst (v := 1) hx hb nd_M_build_98 (by decide) ?_
        refine lv_icmp_ne (tgt := 140) hx hb nd_M_build_99 (by decide) (fun hc2 => ?_) (fun hc2 => ?_)
        · obtain rfl := sp_k2 hk hc hc2
          refine lv_aload_n hx hb nd_M_build_140 rfl (lv_at hl 1 rfl) ?_
          refine lv_iload hx hb nd_M_build_141 (lv_at hl 0 rfl) ?_
          refine lv_if_le (tgt := 150) hx hb nd_M_build_143 (by decide) (fun hc3 => ?_) (fun hc3 => ?_)
          · have hs : ¬ 0 < sz 16 := fun z => absurd hc3 (nI_nle z (by omega))
            refine lv_iconst (v := 0) hx hb nd_M_build_150 (by decide) ?_
            refine lv_iconst (v := 3) hx hb nd_M_build_151 (by decide) ?_
            refine g_calli (va_runV (As := [.int 0, .int 3]) (rest := []) ⟨hx, hb, hml, hown, hts⟩ (c_M_good0 l G w4 mo ra sa (mo_b true) 0 3 hm) (cwV (C := nR_M) 2 hts (nw_of (nw_4 nh_ml_M_26 nh_im_M_good nh_se_M_good nh_in_M nh_co_M_good)) rfl rfl rfl (by decide +kernel) ⟨Nat.le_of_ble_eq_true rfl, Nat.le_of_ble_eq_true rfl⟩) (g_preV (ci := 5) (q := (nR_M, nT_M, 4)) hK hw hS rfl hm _) rfl rfl hl.1 rfl (lv_room (Nat.le_of_ble_eq_true rfl)) nd_M_build_152 ⟨by exact Nat.le_of_ble_eq_true rfl, by exact Nat.le_of_ble_eq_true rfl⟩) hS (fun v9 w9 H locs hp hw hS => ?_)
            obtain ⟨rfl, e9⟩ := hp
            obtain ⟨hJ, hF9⟩ := mo_cod hJ e9
            have hF0 := hF0.tr hF9
            obtain ⟨hm, ⟨g, hra, hg⟩, ⟨fs, hsa, hfs⟩, hrow, hinj⟩ := id hJ
            refine lv_if_ne (tgt := 160) hx hb nd_M_build_155 (by decide) (fun hc => absurd rfl hc) (fun hc => ?_)
            refine lv_iconst (v := 0) hx hb nd_M_build_158 (by decide) ?_
            exact g_iret hx hb hr hlocks hw hS (by rw [sp_build_32 hs]; exact ⟨⟨_, hJ, hv⟩, rfl, hF0⟩) (by exact Nat.le_of_ble_eq_true rfl) (by exact Nat.le_of_ble_eq_true rfl) nd_M_build_159
          · have hs : 0 < sz 16 := by
              rcases Nat.eq_zero_or_pos (sz 16) with z | z
              · exact absurd (by rw [z, nI_0]; decide) hc3
              · exact z
            refine lv_iconst (v := 1) hx hb nd_M_build_146 (by decide) ?_
            refine lv_goto (tgt := 151) hx hb nd_M_build_147 (by decide) ?_
            refine lv_iconst (v := 3) hx hb nd_M_build_151 (by decide) ?_
            refine g_calli (va_runV (As := [.int 1, .int 3]) (rest := []) ⟨hx, hb, hml, hown, hts⟩ (c_M_good1 l G w4 mo ra sa (mo_b true) 0 3 hm) (cwV (C := nR_M) 2 hts (nw_of (nw_4 nh_ml_M_26 nh_im_M_good nh_se_M_good nh_in_M nh_co_M_good)) rfl rfl rfl (by decide +kernel) ⟨Nat.le_of_ble_eq_true rfl, Nat.le_of_ble_eq_true rfl⟩) (g_preV (ci := 5) (q := (nR_M, nT_M, 4)) hK hw hS rfl hm _) rfl rfl hl.1 rfl (lv_room (Nat.le_of_ble_eq_true rfl)) nd_M_build_152 ⟨by exact Nat.le_of_ble_eq_true rfl, by exact Nat.le_of_ble_eq_true rfl⟩) hS (fun v9 w9 H locs hp hw hS => ?_)
            obtain ⟨rfl, e9⟩ := hp
            obtain ⟨hJ, hF9⟩ := mo_cod hJ e9
            have hF0 := hF0.tr hF9
            obtain ⟨hm, ⟨g, hra, hg⟩, ⟨fs, hsa, hfs⟩, hrow, hinj⟩ := id hJ
            refine lv_if_ne (tgt := 160) hx hb nd_M_build_155 (by decide) (fun hc => ?_) (fun hc => absurd hc (by decide))
            refine lv_aload_n hx hb nd_M_build_160 rfl (lv_at hl 1 rfl) ?_
            refine xw_get (T := nT_M) (N := 4) (ci := 5) hx hb hT nu_M hown hK.1 hw hm rfl 1 (by decide) (hT _ nh_fl_M_14) (fun _ h9 => h9) rfl nd_M_build_161 ?_
            refine lv_bipush (v := 16) hx hb nd_M_build_164 (by decide) ?_
            refine lv_topi (fun y10 ey11 => ?_)
            obtain rfl : y10 = nI 16 := ey11.trans (rfl)
            refine lv_dup2_11 hx hb nd_M_build_166 rfl rfl ?_
            refine xw_iald hx hb hK.1 hw 4 hsa rfl (vp_in_nI (by omega) (by decide)) nd_M_build_167 ?_
            refine lv_topi (fun y12 ey13 => ?_)
            obtain rfl : y12 = nI (sz 16) := ey13.trans (by rw [nI_clamp (by omega)]; exact hfs _ (by omega))
            refine lv_iconst (v := 1) hx hb nd_M_build_168 (by decide) ?_
            refine lv_isub hx hb nd_M_build_169 ?_
            refine lv_topi (fun y14 ey15 => ?_)
            obtain rfl : y14 = nI (sz 16 - 1) := ey15.trans (pk_sub (a := sz 16) (b := 1) hs)
            have hsa0 := hsa
            refine xw_iast hx hb hK.1 hB hw hS 4 hsa rfl (vp_in_nI (by omega) (by decide)) nd_M_build_170 (fun H locs hw hS => ?_)
            rw [nI_clamp (by omega)] at hw
            obtain ⟨w16, ew17⟩ : ∃ z, z = va_up w9 sa (some (.inl (G.2.1 4, 17, .inl (upd fs 16 (nI (sz 16 - 1)))))) := ⟨_, rfl⟩
            have hw : g_P G w16 H := by rw [ew17]; exact hw
            have hm : w16 mo = some (.inr (5, [.ref ra, .ref sa, .int (mo_b true), .int 0])) := by rw [ew17, va_up_ne _ _ (xw_ne hm hsa (by simp))]; exact hm
            have hsa : w16 sa = some (.inl (G.2.1 4, 17, .inl (upd fs 16 (nI (sz 16 - 1))))) := by rw [ew17]; exact va_up_self _ _ _
            obtain ⟨hJ, hF9⟩ := mo_siz hJ (by omega) (by omega) hsa0 ew17
            have hF0 := hF0.tr hF9
            obtain ⟨hm, ⟨g, hra, hg⟩, ⟨fs, hsa, hfs⟩, hrow, hinj⟩ := id hJ
            refine lv_aload_n hx hb nd_M_build_171 rfl (lv_at hl 1 rfl) ?_
            refine xw_get (T := nT_M) (N := 4) (ci := 5) hx hb hT nu_M hown hK.1 hw hm rfl 1 (by decide) (hT _ nh_fl_M_14) (fun _ h9 => h9) rfl nd_M_build_172 ?_
            refine lv_bipush (v := 16) hx hb nd_M_build_175 (by decide) ?_
            refine lv_topi (fun y18 ey19 => ?_)
            obtain rfl : y18 = nI 16 := ey19.trans (rfl)
            refine xw_iald hx hb hK.1 hw 4 hsa rfl (vp_in_nI (by omega) (by decide)) nd_M_build_177 ?_
            refine lv_topi (fun y20 ey21 => ?_)
            obtain rfl : y20 = nI (sz 16 - 1) := ey21.trans (by rw [nI_clamp (by omega)]; rw [hfs _ (by omega), va_up_self])
            have hJ : mo_J G w16 mo ra sa rr true (va_up sz 16 (sz 16 - 1)) (va_up f 16 (f 16)) 0 := by rw [va_up_same f]; exact hJ
            exact g_iret hx hb hr hlocks hw hS (by rw [sp_build_02 hs]; exact ⟨⟨_, hJ, mo_fin hv (fun z hz => hv 16 (by omega) z (by omega))⟩, rfl, hF0⟩) (by exact Nat.le_of_ble_eq_true rfl) (by exact Nat.le_of_ble_eq_true rfl) nd_M_build_178
        · obtain rfl := hc2
          by_cases ha : 0 ≤ a ∧ a < nI (sz 16)
          · obtain ⟨x, hx1, rfl⟩ := sp_elo hj3 ha
            refine lv_aload_n hx hb nd_M_build_102 rfl (lv_at hl 1 rfl) ?_
            refine lv_iload_n hx hb nd_M_build_103 rfl (lv_at hl 3 rfl) ?_
            refine lv_if_lt (tgt := 117) hx hb nd_M_build_104 (by decide) (fun hc => absurd hc (nI_pos (by omega))) (fun hc => ?_)
            refine lv_iload_n hx hb nd_M_build_107 rfl (lv_at hl 3 rfl) ?_
            refine lv_iload hx hb nd_M_build_108 (lv_at hl 0 rfl) ?_
            refine lv_icmp_ge (tgt := 117) hx hb nd_M_build_110 (by decide) (fun hc => absurd hc (nI_ge hx1 (by omega))) (fun hc => ?_)
            refine lv_iconst (v := 1) hx hb nd_M_build_113 (by decide) ?_
            refine lv_goto (tgt := 118) hx hb nd_M_build_114 (by decide) ?_
            refine lv_iconst (v := 3) hx hb nd_M_build_118 (by decide) ?_
            refine g_calli (va_runV (As := [.int 1, .int 3]) (rest := []) ⟨hx, hb, hml, hown, hts⟩ (c_M_good1 l G w4 mo ra sa (mo_b true) 0 3 hm) (cwV (C := nR_M) 2 hts (nw_of (nw_4 nh_ml_M_26 nh_im_M_good nh_se_M_good nh_in_M nh_co_M_good)) rfl rfl rfl (by decide +kernel) ⟨Nat.le_of_ble_eq_true rfl, Nat.le_of_ble_eq_true rfl⟩) (g_preV (ci := 5) (q := (nR_M, nT_M, 4)) hK hw hS rfl hm _) rfl rfl hl.1 rfl (lv_room (Nat.le_of_ble_eq_true rfl)) nd_M_build_119 ⟨by exact Nat.le_of_ble_eq_true rfl, by exact Nat.le_of_ble_eq_true rfl⟩) hS (fun v9 w9 H locs hp hw hS => ?_)
            obtain ⟨rfl, e9⟩ := hp
            obtain ⟨hJ, hF9⟩ := mo_cod hJ e9
            have hF0 := hF0.tr hF9
            obtain ⟨hm, ⟨g, hra, hg⟩, ⟨fs, hsa, hfs⟩, hrow, hinj⟩ := id hJ
            refine lv_if_ne (tgt := 127) hx hb nd_M_build_122 (by decide) (fun hc => ?_) (fun hc => absurd hc (by decide))
            refine lv_aload_n hx hb nd_M_build_127 rfl (lv_at hl 1 rfl) ?_
            refine xw_get (T := nT_M) (N := 4) (ci := 5) hx hb hT nu_M hown hK.1 hw hm rfl 0 (by decide) (hT _ nh_fl_M_11) (fun _ h9 => h9) rfl nd_M_build_128 ?_
            refine lv_bipush (v := 16) hx hb nd_M_build_131 (by decide) ?_
            refine lv_topi (fun y10 ey11 => ?_)
            obtain rfl : y10 = nI 16 := ey11.trans (rfl)
            refine xw_aaldA (y := (rr 16)) hx hb hK.1 hw 5 hra rfl (vp_in_nI (by omega) (by decide)) (by rw [nI_clamp (by omega)]; exact hg _ (by omega)) nd_M_build_133 ?_
            have hr_16 := (hrow 16 (by omega)).2
            refine lv_iload_n hx hb nd_M_build_134 rfl (lv_at hl 3 rfl) ?_
            refine lv_lload_n hx hb nd_M_build_135 rfl (lv_at hl 4 rfl) ?_
            refine xw_last hx hb hK.1 hB hw hS 0 hr_16 rfl (vp_in_nI (by omega) (by decide)) nd_M_build_136 (fun H locs hw hS => ?_)
            rw [nI_clamp (by omega)] at hw
            obtain ⟨w12, ew13⟩ : ∃ z, z = va_up w9 (rr 16) (some (.inl (G.2.1 0, 3000, .inr (.inl (vp_updL (f 16) x v))))) := ⟨_, rfl⟩
            have hw : g_P G w12 H := by rw [ew13]; exact hw
            have hm : w12 mo = some (.inr (5, [.ref ra, .ref sa, .int (mo_b true), .int 0])) := by rw [ew13, va_up_ne _ _ (xw_ne hm hr_16 (by simp))]; exact hm
            have hr_16 : w12 (rr 16) = some (.inl (G.2.1 0, 3000, .inr (.inl (vp_updL (f 16) x v)))) := by rw [ew13]; exact va_up_self _ _ _
            obtain ⟨hJ, hF9⟩ := mo_row hJ (by omega) ew13
            have hF0 := hF0.tr hF9
            obtain ⟨hm, ⟨g, hra, hg⟩, ⟨fs, hsa, hfs⟩, hrow, hinj⟩ := id hJ
            refine lv_goto (tgt := 171) hx hb nd_M_build_137 (by decide) ?_
            refine lv_aload_n hx hb nd_M_build_171 rfl (lv_at hl 1 rfl) ?_
            refine xw_get (T := nT_M) (N := 4) (ci := 5) hx hb hT nu_M hown hK.1 hw hm rfl 1 (by decide) (hT _ nh_fl_M_14) (fun _ h9 => h9) rfl nd_M_build_172 ?_
            refine lv_bipush (v := 16) hx hb nd_M_build_175 (by decide) ?_
            refine lv_topi (fun y14 ey15 => ?_)
            obtain rfl : y14 = nI 16 := ey15.trans (rfl)
            refine xw_iald hx hb hK.1 hw 4 hsa rfl (vp_in_nI (by omega) (by decide)) nd_M_build_177 ?_
            refine lv_topi (fun y16 ey17 => ?_)
            obtain rfl : y16 = nI (sz 16) := ey17.trans (by rw [nI_clamp (by omega)]; exact hfs _ (by omega))
            have hJ : mo_J G w12 mo ra sa rr true (va_up sz 16 (sz 16)) (va_up f 16 (vp_updL (f 16) x v)) 0 := by rw [va_up_same]; exact hJ
            exact g_iret hx hb hr hlocks hw hS (by rw [sp_build_01 hj3 hx1]; exact ⟨⟨_, hJ, mo_fin hv (mo_upd (fun z hz hne => hv 16 (by omega) z hz))⟩, rfl, hF0⟩) (by exact Nat.le_of_ble_eq_true rfl) (by exact Nat.le_of_ble_eq_true rfl) nd_M_build_178
          · refine lv_aload_n hx hb nd_M_build_102 rfl (lv_at hl 1 rfl) ?_
            refine lv_iload_n hx hb nd_M_build_103 rfl (lv_at hl 3 rfl) ?_
            refine lv_if_lt (tgt := 117) hx hb nd_M_build_104 (by decide) (fun hc => ?_) (fun hc => ?_)
            · refine lv_iconst (v := 0) hx hb nd_M_build_117 (by decide) ?_
              refine lv_iconst (v := 3) hx hb nd_M_build_118 (by decide) ?_
              refine g_calli (va_runV (As := [.int 0, .int 3]) (rest := []) ⟨hx, hb, hml, hown, hts⟩ (c_M_good0 l G w4 mo ra sa (mo_b true) 0 3 hm) (cwV (C := nR_M) 2 hts (nw_of (nw_4 nh_ml_M_26 nh_im_M_good nh_se_M_good nh_in_M nh_co_M_good)) rfl rfl rfl (by decide +kernel) ⟨Nat.le_of_ble_eq_true rfl, Nat.le_of_ble_eq_true rfl⟩) (g_preV (ci := 5) (q := (nR_M, nT_M, 4)) hK hw hS rfl hm _) rfl rfl hl.1 rfl (lv_room (Nat.le_of_ble_eq_true rfl)) nd_M_build_119 ⟨by exact Nat.le_of_ble_eq_true rfl, by exact Nat.le_of_ble_eq_true rfl⟩) hS (fun v9 w9 H locs hp hw hS => ?_)
              obtain ⟨rfl, e9⟩ := hp
              obtain ⟨hJ, hF9⟩ := mo_cod hJ e9
              have hF0 := hF0.tr hF9
              obtain ⟨hm, ⟨g, hra, hg⟩, ⟨fs, hsa, hfs⟩, hrow, hinj⟩ := id hJ
              refine lv_if_ne (tgt := 127) hx hb nd_M_build_122 (by decide) (fun hc => absurd rfl hc) (fun hc => ?_)
              refine lv_iconst (v := 0) hx hb nd_M_build_125 (by decide) ?_
              exact g_iret hx hb hr hlocks hw hS (by rw [sp_build_31 ha]; exact ⟨⟨_, hJ, hv⟩, rfl, hF0⟩) (by exact Nat.le_of_ble_eq_true rfl) (by exact Nat.le_of_ble_eq_true rfl) nd_M_build_126
            · have hc0 := hc
              refine lv_iload_n hx hb nd_M_build_107 rfl (lv_at hl 3 rfl) ?_
              refine lv_iload hx hb nd_M_build_108 (lv_at hl 0 rfl) ?_
              refine lv_icmp_ge (tgt := 117) hx hb nd_M_build_110 (by decide) (fun hc => ?_) (fun hc => absurd ⟨Int32.not_lt.mp hc0, Int32.not_le.mp hc⟩ ha)
              refine lv_iconst (v := 0) hx hb nd_M_build_117 (by decide) ?_
              refine lv_iconst (v := 3) hx hb nd_M_build_118 (by decide) ?_
              refine g_calli (va_runV (As := [.int 0, .int 3]) (rest := []) ⟨hx, hb, hml, hown, hts⟩ (c_M_good0 l G w4 mo ra sa (mo_b true) 0 3 hm) (cwV (C := nR_M) 2 hts (nw_of (nw_4 nh_ml_M_26 nh_im_M_good nh_se_M_good nh_in_M nh_co_M_good)) rfl rfl rfl (by decide +kernel) ⟨Nat.le_of_ble_eq_true rfl, Nat.le_of_ble_eq_true rfl⟩) (g_preV (ci := 5) (q := (nR_M, nT_M, 4)) hK hw hS rfl hm _) rfl rfl hl.1 rfl (lv_room (Nat.le_of_ble_eq_true rfl)) nd_M_build_119 ⟨by exact Nat.le_of_ble_eq_true rfl, by exact Nat.le_of_ble_eq_true rfl⟩) hS (fun v9 w9 H locs hp hw hS => ?_)
              obtain ⟨rfl, e9⟩ := hp
              obtain ⟨hJ, hF9⟩ := mo_cod hJ e9
              have hF0 := hF0.tr hF9
              obtain ⟨hm, ⟨g, hra, hg⟩, ⟨fs, hsa, hfs⟩, hrow, hinj⟩ := id hJ
              refine lv_if_ne (tgt := 127) hx hb nd_M_build_122 (by decide) (fun hc => absurd rfl hc) (fun hc => ?_)
              refine lv_iconst (v := 0) hx hb nd_M_build_125 (by decide) ?_
              exact g_iret hx hb hr hlocks hw hS (by rw [sp_build_31 ha]; exact ⟨⟨_, hJ, hv⟩, rfl, hF0⟩) (by exact Nat.le_of_ble_eq_true rfl) (by exact Nat.le_of_ble_eq_true rfl) nd_M_build_126
      · obtain rfl := hc
        refine lv_aload_n hx hb nd_M_build_49 rfl (lv_at hl 1 rfl) ?_
        refine lv_iload hx hb nd_M_build_50 (lv_at hl 0 rfl) ?_
        refine lv_sipush (v := 3000) hx hb nd_M_build_52 (by decide) ?_
        refine lv_icmp_ge (tgt := 62) hx hb nd_M_build_55 (by decide) (fun hc => ?_) (fun hc => ?_)
        · have hs : ¬ sz 16 < 3000 := fun z => absurd (Int32.not_le.mpr (nI_lt (b := 3000) z (by omega))) (fun z2 => z2 hc)
          refine lv_iconst (v := 0) hx hb nd_M_build_62 (by decide) ?_
          refine lv_iconst (v := 4) hx hb nd_M_build_63 (by decide) ?_
          refine g_calli (va_runV (As := [.int 0, .int 4]) (rest := []) ⟨hx, hb, hml, hown, hts⟩ (c_M_good0 l G w4 mo ra sa (mo_b true) 0 4 hm) (cwV (C := nR_M) 2 hts (nw_of (nw_4 nh_ml_M_26 nh_im_M_good nh_se_M_good nh_in_M nh_co_M_good)) rfl rfl rfl (by decide +kernel) ⟨Nat.le_of_ble_eq_true rfl, Nat.le_of_ble_eq_true rfl⟩) (g_preV (ci := 5) (q := (nR_M, nT_M, 4)) hK hw hS rfl hm _) rfl rfl hl.1 rfl (lv_room (Nat.le_of_ble_eq_true rfl)) nd_M_build_64 ⟨by exact Nat.le_of_ble_eq_true rfl, by exact Nat.le_of_ble_eq_true rfl⟩) hS (fun v9 w9 H locs hp hw hS => ?_)
          obtain ⟨rfl, e9⟩ := hp
          obtain ⟨hJ, hF9⟩ := mo_cod hJ e9
          have hF0 := hF0.tr hF9
          obtain ⟨hm, ⟨g, hra, hg⟩, ⟨fs, hsa, hfs⟩, hrow, hinj⟩ := id hJ
          refine lv_if_ne (tgt := 72) hx hb nd_M_build_67 (by decide) (fun hc => absurd rfl hc) (fun hc => ?_)
          refine lv_iconst (v := 0) hx hb nd_M_build_70 (by decide) ?_
          exact g_iret hx hb hr hlocks hw hS (by rw [sp_build_4 hs]; exact ⟨⟨_, hJ, hv⟩, rfl, hF0⟩) (by exact Nat.le_of_ble_eq_true rfl) (by exact Nat.le_of_ble_eq_true rfl) nd_M_build_71
        · have hs : sz 16 < 3000 := (nI_ltI (b := 3000) (by omega) (by omega)).mp (Int32.not_le.mp hc)
          refine lv_iconst (v := 1) hx hb nd_M_build_58 (by decide) ?_
          refine lv_goto (tgt := 63) hx hb nd_M_build_59 (by decide) ?_
          refine lv_iconst (v := 4) hx hb nd_M_build_63 (by decide) ?_
          refine g_calli (va_runV (As := [.int 1, .int 4]) (rest := []) ⟨hx, hb, hml, hown, hts⟩ (c_M_good1 l G w4 mo ra sa (mo_b true) 0 4 hm) (cwV (C := nR_M) 2 hts (nw_of (nw_4 nh_ml_M_26 nh_im_M_good nh_se_M_good nh_in_M nh_co_M_good)) rfl rfl rfl (by decide +kernel) ⟨Nat.le_of_ble_eq_true rfl, Nat.le_of_ble_eq_true rfl⟩) (g_preV (ci := 5) (q := (nR_M, nT_M, 4)) hK hw hS rfl hm _) rfl rfl hl.1 rfl (lv_room (Nat.le_of_ble_eq_true rfl)) nd_M_build_64 ⟨by exact Nat.le_of_ble_eq_true rfl, by exact Nat.le_of_ble_eq_true rfl⟩) hS (fun v9 w9 H locs hp hw hS => ?_)
          obtain ⟨rfl, e9⟩ := hp
          obtain ⟨hJ, hF9⟩ := mo_cod hJ e9
          have hF0 := hF0.tr hF9
          obtain ⟨hm, ⟨g, hra, hg⟩, ⟨fs, hsa, hfs⟩, hrow, hinj⟩ := id hJ
          refine lv_if_ne (tgt := 72) hx hb nd_M_build_67 (by decide) (fun hc => ?_) (fun hc => absurd hc (by decide))
          refine lv_aload_n hx hb nd_M_build_72 rfl (lv_at hl 1 rfl) ?_
          refine xw_get (T := nT_M) (N := 4) (ci := 5) hx hb hT nu_M hown hK.1 hw hm rfl 0 (by decide) (hT _ nh_fl_M_11) (fun _ h9 => h9) rfl nd_M_build_73 ?_
          refine lv_bipush (v := 16) hx hb nd_M_build_76 (by decide) ?_
          refine lv_topi (fun y10 ey11 => ?_)
          obtain rfl : y10 = nI 16 := ey11.trans (rfl)
          refine xw_aaldA (y := (rr 16)) hx hb hK.1 hw 5 hra rfl (vp_in_nI (by omega) (by decide)) (by rw [nI_clamp (by omega)]; exact hg _ (by omega)) nd_M_build_78 ?_
          have hr_16 := (hrow 16 (by omega)).2
          refine lv_iload hx hb nd_M_build_79 (lv_at hl 0 rfl) ?_
          refine lv_lload_n hx hb nd_M_build_81 rfl (lv_at hl 4 rfl) ?_
          refine xw_last hx hb hK.1 hB hw hS 0 hr_16 rfl (vp_in_nI (by omega) (by decide)) nd_M_build_82 (fun H locs hw hS => ?_)
          rw [nI_clamp (by omega)] at hw
          obtain ⟨w12, ew13⟩ : ∃ z, z = va_up w9 (rr 16) (some (.inl (G.2.1 0, 3000, .inr (.inl (vp_updL (f 16) (sz 16) v))))) := ⟨_, rfl⟩
          have hw : g_P G w12 H := by rw [ew13]; exact hw
          have hm : w12 mo = some (.inr (5, [.ref ra, .ref sa, .int (mo_b true), .int 0])) := by rw [ew13, va_up_ne _ _ (xw_ne hm hr_16 (by simp))]; exact hm
          have hr_16 : w12 (rr 16) = some (.inl (G.2.1 0, 3000, .inr (.inl (vp_updL (f 16) (sz 16) v)))) := by rw [ew13]; exact va_up_self _ _ _
          obtain ⟨hJ, hF9⟩ := mo_row hJ (by omega) ew13
          have hF0 := hF0.tr hF9
          obtain ⟨hm, ⟨g, hra, hg⟩, ⟨fs, hsa, hfs⟩, hrow, hinj⟩ := id hJ
          refine lv_aload_n hx hb nd_M_build_83 rfl (lv_at hl 1 rfl) ?_
          refine xw_get (T := nT_M) (N := 4) (ci := 5) hx hb hT nu_M hown hK.1 hw hm rfl 1 (by decide) (hT _ nh_fl_M_14) (fun _ h9 => h9) rfl nd_M_build_84 ?_
          refine lv_bipush (v := 16) hx hb nd_M_build_87 (by decide) ?_
          refine lv_topi (fun y14 ey15 => ?_)
          obtain rfl : y14 = nI 16 := ey15.trans (rfl)
          refine lv_dup2_11 hx hb nd_M_build_89 rfl rfl ?_
          refine xw_iald hx hb hK.1 hw 4 hsa rfl (vp_in_nI (by omega) (by decide)) nd_M_build_90 ?_
          refine lv_topi (fun y16 ey17 => ?_)
          obtain rfl : y16 = nI (sz 16) := ey17.trans (by rw [nI_clamp (by omega)]; exact hfs _ (by omega))
          refine lv_iconst (v := 1) hx hb nd_M_build_91 (by decide) ?_
          refine lv_iadd hx hb nd_M_build_92 ?_
          refine lv_topi (fun y18 ey19 => ?_)
          obtain rfl : y18 = nI (sz 16 + 1) := ey19.trans (nI_1 _)
          have hsa0 := hsa
          refine xw_iast hx hb hK.1 hB hw hS 4 hsa rfl (vp_in_nI (by omega) (by decide)) nd_M_build_93 (fun H locs hw hS => ?_)
          rw [nI_clamp (by omega)] at hw
          obtain ⟨w20, ew21⟩ : ∃ z, z = va_up w12 sa (some (.inl (G.2.1 4, 17, .inl (upd fs 16 (nI (sz 16 + 1)))))) := ⟨_, rfl⟩
          have hw : g_P G w20 H := by rw [ew21]; exact hw
          have hm : w20 mo = some (.inr (5, [.ref ra, .ref sa, .int (mo_b true), .int 0])) := by rw [ew21, va_up_ne _ _ (xw_ne hm hsa (by simp))]; exact hm
          have hsa : w20 sa = some (.inl (G.2.1 4, 17, .inl (upd fs 16 (nI (sz 16 + 1))))) := by rw [ew21]; exact va_up_self _ _ _
          obtain ⟨hJ, hF9⟩ := mo_siz hJ (by omega) (by omega) hsa0 ew21
          have hF0 := hF0.tr hF9
          obtain ⟨hm, ⟨g, hra, hg⟩, ⟨fs, hsa, hfs⟩, hrow, hinj⟩ := id hJ
          refine lv_goto (tgt := 171) hx hb nd_M_build_94 (by decide) ?_
          refine lv_aload_n hx hb nd_M_build_171 rfl (lv_at hl 1 rfl) ?_
          refine xw_get (T := nT_M) (N := 4) (ci := 5) hx hb hT nu_M hown hK.1 hw hm rfl 1 (by decide) (hT _ nh_fl_M_14) (fun _ h9 => h9) rfl nd_M_build_172 ?_
          refine lv_bipush (v := 16) hx hb nd_M_build_175 (by decide) ?_
          refine lv_topi (fun y22 ey23 => ?_)
          obtain rfl : y22 = nI 16 := ey23.trans (rfl)
          refine xw_iald hx hb hK.1 hw 4 hsa rfl (vp_in_nI (by omega) (by decide)) nd_M_build_177 ?_
          refine lv_topi (fun y24 ey25 => ?_)
          obtain rfl : y24 = nI (sz 16 + 1) := ey25.trans (by rw [nI_clamp (by omega)]; rw [hfs _ (by omega), va_up_self])
          exact g_iret hx hb hr hlocks hw hS (by rw [sp_build_00 hs]; exact ⟨⟨_, hJ, mo_fin hv (mo_upd (fun z hz hne => hv 16 (by omega) z (by omega)))⟩, rfl, hF0⟩) (by exact Nat.le_of_ble_eq_true rfl) (by exact Nat.le_of_ble_eq_true rfl) nd_M_build_178
  · refine lv_aload_n hx hb nd_M_build_0 rfl (lv_at hl 0 rfl) ?_
    refine lv_iload_n hx hb nd_M_build_1 rfl (lv_at hl 1 rfl) ?_
    refine lv_if_lt (tgt := 14) hx hb nd_M_build_2 (by decide) (fun hp0 => ?_) (fun hp0 => ?_)
    · refine lv_iconst (v := 0) hx hb nd_M_build_14 (by decide) ?_
      refine lv_iconst (v := 1) hx hb nd_M_build_15 (by decide) ?_
      refine g_calli (va_runV (As := [.int 0, .int 1]) (rest := []) ⟨hx, hb, hml, hown, hts⟩ (c_M_good0 l G w mo ra sa (mo_b op) cd 1 hm) (cwV (C := nR_M) 2 hts (nw_of (nw_4 nh_ml_M_26 nh_im_M_good nh_se_M_good nh_in_M nh_co_M_good)) rfl rfl rfl (by decide +kernel) ⟨Nat.le_of_ble_eq_true rfl, Nat.le_of_ble_eq_true rfl⟩) (g_preV (ci := 5) (q := (nR_M, nT_M, 4)) hK hw hS rfl hm _) rfl rfl hl.1 rfl (lv_room (Nat.le_of_ble_eq_true rfl)) nd_M_build_16 ⟨by exact Nat.le_of_ble_eq_true rfl, by exact Nat.le_of_ble_eq_true rfl⟩) hS (fun v9 w1 H locs hp hw hS => ?_)
      obtain ⟨rfl, e9⟩ := hp
      obtain ⟨hJ, hF9⟩ := mo_cod hJ e9
      have hF0 := hF0.tr hF9
      obtain ⟨hm, ⟨g, hra, hg⟩, ⟨fs, hsa, hfs⟩, hrow, hinj⟩ := id hJ
      refine lv_if_eq (tgt := 34) hx hb nd_M_build_19 (by decide) (fun hc => ?_) (fun hc => absurd rfl hc)
      refine lv_iconst (v := 0) hx hb nd_M_build_34 (by decide) ?_
      exact g_iret hx hb hr hlocks hw hS (by rw [sp_build_1 hk]; exact ⟨⟨_, hJ, hv⟩, rfl, hF0⟩) (by exact Nat.le_of_ble_eq_true rfl) (by exact Nat.le_of_ble_eq_true rfl) nd_M_build_35
    · refine lv_iload_n hx hb nd_M_build_5 rfl (lv_at hl 1 rfl) ?_
      refine lv_iconst (v := 2) hx hb nd_M_build_6 (by decide) ?_
      refine lv_icmp_gt (tgt := 14) hx hb nd_M_build_7 (by decide) (fun hc => ?_) (fun hc => absurd ⟨Int32.not_lt.mp hp0, Int32.not_lt.mp hc⟩ hk)
      refine lv_iconst (v := 0) hx hb nd_M_build_14 (by decide) ?_
      refine lv_iconst (v := 1) hx hb nd_M_build_15 (by decide) ?_
      refine g_calli (va_runV (As := [.int 0, .int 1]) (rest := []) ⟨hx, hb, hml, hown, hts⟩ (c_M_good0 l G w mo ra sa (mo_b op) cd 1 hm) (cwV (C := nR_M) 2 hts (nw_of (nw_4 nh_ml_M_26 nh_im_M_good nh_se_M_good nh_in_M nh_co_M_good)) rfl rfl rfl (by decide +kernel) ⟨Nat.le_of_ble_eq_true rfl, Nat.le_of_ble_eq_true rfl⟩) (g_preV (ci := 5) (q := (nR_M, nT_M, 4)) hK hw hS rfl hm _) rfl rfl hl.1 rfl (lv_room (Nat.le_of_ble_eq_true rfl)) nd_M_build_16 ⟨by exact Nat.le_of_ble_eq_true rfl, by exact Nat.le_of_ble_eq_true rfl⟩) hS (fun v9 w1 H locs hp hw hS => ?_)
      obtain ⟨rfl, e9⟩ := hp
      obtain ⟨hJ, hF9⟩ := mo_cod hJ e9
      have hF0 := hF0.tr hF9
      obtain ⟨hm, ⟨g, hra, hg⟩, ⟨fs, hsa, hfs⟩, hrow, hinj⟩ := id hJ
      refine lv_if_eq (tgt := 34) hx hb nd_M_build_19 (by decide) (fun hc => ?_) (fun hc => absurd rfl hc)
      refine lv_iconst (v := 0) hx hb nd_M_build_34 (by decide) ?_
      exact g_iret hx hb hr hlocks hw hS (by rw [sp_build_1 hk]; exact ⟨⟨_, hJ, hv⟩, rfl, hF0⟩) (by exact Nat.le_of_ble_eq_true rfl) (by exact Nat.le_of_ble_eq_true rfl) nd_M_build_35
end
section
/-! rows of rows; the reference's constructor -/
/-- a cell of the heap that no world's cell is may be counted in -/
theorem xw_add {D : va_G} {cl : List vw_C} {b : Nat} {w : xw_W} {H : Heap} {q : Nat} {e : ClassId × vp_A} (h : xw_P D cl b w H) (hq : w q = none) (hb : b ≤ q) (hc : H[q]? = some (vp_cell e.1 e.2)) : xw_P D cl b (va_up w q (some (.inl e))) H := by
  obtain ⟨hb0, ws, hP, hD, hw⟩ := h
  have hnot : ∀ (k : Nat) (x : Nat × va_E), ws[k]? = some x → x.1 ≠ q := fun k x hx z => by
    have := (hw x.1 x.2).mpr ⟨k, hx⟩
    rw [z, hq] at this
    cases this
  have last : ∀ (k : Nat) (x : Nat × va_E), (ws ++ [(q, Sum.inl e)])[k]? = some x → (k < ws.length ∧ ws[k]? = some x) ∨ (k = ws.length ∧ x = (q, .inl e)) := fun k x hx => by
    by_cases hl : k < ws.length
    · rw [List.getElem?_append_left hl] at hx
      exact Or.inl ⟨hl, hx⟩
    · have hl2 : k < (ws ++ [(q, Sum.inl e)]).length := (List.getElem?_eq_some_iff.mp hx).1
      simp at hl2
      have hk : k = ws.length := by omega
      rw [hk, List.getElem?_append_right (Nat.le_refl _), Nat.sub_self] at hx
      exact Or.inr ⟨hk, (Option.some.inj hx).symm⟩
  have hD' : va_D (xw_A b) (ws ++ [(q, .inl e)]) := by
    refine ⟨fun i j x y hi hj hxy => ?_, fun k x hx => ?_⟩
    · rcases last i x hi with ⟨h1, h2⟩ | ⟨h1, h2⟩ <;> rcases last j y hj with ⟨h3, h4⟩ | ⟨h3, h4⟩
      · exact hD.1 i j x y h2 h4 hxy
      · exact absurd (by rw [hxy, h4]) (hnot i x h2)
      · exact absurd (by rw [← hxy, h2]) (hnot j y h4)
      · rw [h1, h3]
    · rcases last k x hx with ⟨h1, h2⟩ | ⟨h1, h2⟩
      · exact hD.2 k x h2
      · rw [h2]; exact hb
  refine ⟨hb0, _, fun k x hx => ?_, hD', xw_push hD' hw⟩
  rcases last k x hx with ⟨h1, h2⟩ | ⟨h1, h2⟩
  · exact hP k x h2
  · rw [h2]; exact hc
/-- a world with rows of rows at q -/
def mo_W (w : xw_W) (q cA cB N M : Nat) : Nat → xw_W
  | 0 => va_up w q (some (.inl (cA, N, .inr (.inr (.inr (.inr (fun j => some (q + 1 + j))))))))
  | j + 1 => va_up (mo_W w q cA cB N M j) (q + 1 + j) (some (.inl (cB, M, .inr (.inl (fun _ => 0)))))
theorem mo_W_old {w : xw_W} {q cA cB N M : Nat} : ∀ (j a : Nat), (a < q ∨ q + 1 + j ≤ a) → mo_W w q cA cB N M j a = w a
  | 0, a, h => va_up_ne _ _ (by omega)
  | j + 1, a, h => by
    show va_up _ _ _ _ = _
    rw [va_up_ne _ _ (by omega)]
    exact mo_W_old j a (by omega)
theorem mo_W_out {w : xw_W} {q cA cB N M : Nat} : ∀ j, mo_W w q cA cB N M j q = some (.inl (cA, N, .inr (.inr (.inr (.inr (fun j => some (q + 1 + j)))))))
  | 0 => va_up_self _ _ _
  | j + 1 => by
    show va_up _ _ _ _ = _
    rw [va_up_ne _ _ (by omega)]
    exact mo_W_out j
theorem mo_W_in {w : xw_W} {q cA cB N M : Nat} : ∀ j k, k < j → mo_W w q cA cB N M j (q + 1 + k) = some (.inl (cB, M, .inr (.inl (fun _ => 0))))
  | 0, _, h => absurd h (by omega)
  | j + 1, k, h => by
    show va_up _ _ _ _ = _
    by_cases e : k = j
    · rw [e]; exact va_up_self _ _ _
    · rw [va_up_ne _ _ (by omega)]
      exact mo_W_in j k (by omega)
theorem mo_outer (cA : ClassId) (N h0 : Nat) : Jvm.Free.Multi.outerC cA N h0 N = vp_cell cA (N, .inr (.inr (.inr (.inr (fun j => some (h0 + 1 + j)))))) := by
  obtain ⟨o1, o2, o3⟩ := Jvm.Free.Multi.outerC_facts cA N h0 N
  have hs : (Jvm.Free.Multi.outerC cA N h0 N).slots = Array.ofFn (n := N) (fun j => Value.ref (h0 + 1 + j.val)) := by
    apply Array.ext_getElem?
    intro i
    by_cases hi : i < N
    · rw [Jvm.Free.Multi.outerC_slot cA N h0 N i hi, if_pos hi]
      simp [hi]
    · rw [Array.getElem?_eq_none (by rw [o3]; omega), Array.getElem?_eq_none (by simp; omega)]
  have hm : ∀ i, Jvm.Free.Multi.outerC cA N h0 i = { cls := cA, slots := (Jvm.Free.Multi.outerC cA N h0 i).slots } := by
    intro i
    induction i with
    | zero => rfl
    | succ i ih =>
      show (Jvm.Free.Multi.outerC cA N h0 i).setSlot i (.ref (h0 + 1 + i)) = { cls := cA, slots := ((Jvm.Free.Multi.outerC cA N h0 i).setSlot i (.ref (h0 + 1 + i))).slots }
      rw [ih]
      rfl
  show _ = arrV cA N (fun j => Value.ref (h0 + 1 + j))
  unfold arrV
  rw [← hs]
  exact hm N
theorem mo_inner (cB : ClassId) (M : Nat) : Jvm.Free.Multi.innerC cB M (defaultValue .long) = vp_cell cB (M, .inr (.inl (fun _ => 0))) := by
  show _ = arrV cB M (fun _ => Value.long 0)
  unfold Jvm.Free.Multi.innerC arrV
  have hs : Array.replicate M (defaultValue .long) = Array.ofFn (n := M) (fun _ => Value.long 0) := by
    apply Array.ext_getElem?
    intro i
    by_cases hi : i < M
    · simp [hi, defaultValue]
    · rw [Array.getElem?_eq_none (by simp; omega), Array.getElem?_eq_none (by simp; omega)]
  rw [hs]
section XWM
variable {p : Program} {l : Launch} {e : Env} {R : Room} {s : State} {m : MethodId} {args : Array Value} {below : List Frame} {meth : Method} {c : Code} {H : Heap} {locs : List Loc} {cells slots : Nat} {Q : State → Prop}
variable {cc : ByteArray} {pc : Nat} {ls : Array Slot} {rest : List Value} {G : g_G} {w : xw_W} {H0 : Heap}
theorem xw_multi (hx : p.tables.exec = Jvm.exec) (hb : c.code = cc) {own : String} {index : Nat} (hown : s.vm.findClass own = some m.cls) (hcl : (Cond.classLink own index "[[J").before args s = true) (harr : (Cond.arrayClass .long).before args s = true) (hK : g_K G s) (hB : g_b G ≤ H0.size) (hw : g_P G w H) (hS : g_S G H0 H locs)
    {n k : Int32} {N M : Nat} (hn : n = nI N) (hk : k = nI M) (hN : N * 4 ≤ 536870912) (hM : M * 8 ≤ 536870912) (hcells : cells + (1 + N) ≤ R.cells) (hslots : slots + (N + N * M) ≤ R.slots) (hdg : decode cc pc = .ok (.multianewarray index 2, 4))
    (kk : ∀ (q : Nat) (H1 : Heap), (∀ a, q ≤ a → w a = none) → g_P G (mo_W w q (G.2.1 5) (G.2.1 0) N M N) H1 → g_S G H0 H1 locs →
      W p l e R s m args below meth c H1 locs (cells + (1 + N)) (slots + (N + N * M)) Q (F0 m (pc + 4) ls (.ref q :: rest))) : W p l e R s m args below meth c H locs cells slots Q (F0 m pc ls (.int k :: .int n :: rest)) := by
  intro T hT X
  have eN : n.toNatClampNeg = N := by rw [hn]; exact nI_clamp (by omega)
  have eM : k.toNatClampNeg = M := by rw [hk]; exact nI_clamp (by omega)
  obtain ⟨vm₁, cA, comp, hW1, hfA, hfC, -, -, X1, step⟩ := X.multianewarray2F hx (own := own) (index := index) (ty := .long) hown hcl hK.2.1.2.2.2 harr (g := F0 m pc ls (.int k :: .int n :: rest)) rfl (by rw [hb]; exact hdg) (n := n) (k := k) (rest := rest) rfl (by rw [hn]; exact nI_pos (by omega)) (by rw [hk]; exact nI_pos (by omega)) (by omega) (by rw [eM]; exact hM) (by omega) rfl rfl (by omega) (by rw [eN, eM]; exact hslots)
  rw [eN, eM] at X1 step
  obtain ⟨f1, f2, f3, f4⟩ := Jvm.Free.Multi.fill_facts (T.setVm vm₁) cA comp N M (defaultValue .long) N
  have hsz : (T.setVm vm₁).heap.size = H.size := by rw [← hT]; rfl
  have ecA : cA = G.2.1 5 := Option.some.inj (hfA.symm.trans (hK.1.2 5 _ rfl).2)
  have ecB : comp = G.2.1 0 := Option.some.inj (hfC.symm.trans (hK.1.2 0 _ rfl).2)
  have old : ∀ q : Nat, q < H.size → (Jvm.Free.Multi.fill (T.setVm vm₁) cA comp N M (defaultValue .long) N).heap[q]? = H[q]? := fun q hq => by
    rw [Jvm.Free.Multi.fill_old (T.setVm vm₁) cA comp N M (defaultValue .long) (by rw [hsz]; exact hq)]
    show T.heap[q]? = _
    rw [hT]
  have hnone : ∀ a, H.size ≤ a → w a = none := fun a ha => by
    cases h9 : w a with
    | none => rfl
    | some e9 => exact absurd (hw.lt h9) (by omega)
  have hw1 : g_P G w (Jvm.Free.Multi.fill (T.setVm vm₁) cA comp N M (defaultValue .long) N).heap := hw.grow (by rw [f1, hsz]; omega) old
  have hb0 : g_b G ≤ H.size := Nat.le_trans hB hS.1
  have hwj : ∀ j, j ≤ N → g_P G (mo_W w H.size (G.2.1 5) (G.2.1 0) N M j) (Jvm.Free.Multi.fill (T.setVm vm₁) cA comp N M (defaultValue .long) N).heap := by
    intro j
    induction j with
    | zero =>
      intro _
      refine xw_add hw1 (hnone _ (Nat.le_refl _)) hb0 ?_
      rw [← hsz, f2, hsz, mo_outer, ecA]
    | succ j ih =>
      intro hj
      refine xw_add (ih (by omega)) (by rw [mo_W_old j _ (by omega)]; exact hnone _ (by omega)) (by omega) ?_
      rw [← hsz, Jvm.Free.Multi.fill_inner (T.setVm vm₁) cA comp N M (defaultValue .long) N j (by omega), mo_inner, ecB]
  have hS1 : g_S G H0 (Jvm.Free.Multi.fill (T.setVm vm₁) cA comp N M (defaultValue .long) N).heap locs := ⟨by rw [f1, hsz]; exact Nat.le_trans hS.1 (by omega), fun q h1 h2 => (old q (Nat.lt_of_lt_of_le h1 hS.1)).trans (hS.2.1 q h1 h2), hS.2.2⟩
  obtain ⟨t, st, hQ⟩ := kk H.size _ hnone (hwj N (Nat.le_refl _)) hS1 _ rfl (by rw [show cells + (1 + N) = cells + 1 + N by omega, show slots + (N + N * M) = slots + N + N * M by omega]; exact X1)
  refine ⟨t, step t ?_, hQ⟩
  rw [show T.heap.size = H.size by rw [hT]]
  exact st
end XWM
/-- new cells, and cells that are none of the shelf's: the shelf stays -/
theorem sh_more {G : g_G} {w w2 : xw_W} {h e0 sl L : Nat} {op : Bool} {sz : Nat → Nat} {vs : Nat → Nat → Int64} {bd : Option (Nat × Nat)} {g : Nat → Option Nat} (hI : sh_I G w h e0 sl op sz vs L bd g) (hk : ∀ a, w a ≠ none → w2 a = w a) (hb : ∀ k m, tr_isN w2 k m → w2 m = w m) :
    sh_I G w2 h e0 sl op sz vs L bd g ∧ ∀ a, w a = none → (∃ e, w2 a = some e ∧ ∀ l, e ≠ .inr (tr_kS, l)) → sh_O w2 h sl a := by
  obtain ⟨hh, hsl, hW, hfr, hop, hsq, ⟨hne0, s0, r0, t0, h0⟩, hbd⟩ := hI
  have eq : ∀ a e, w a = some e → w2 a = w a := fun a e ha => hk a (by rw [ha]; exact fun z => by cases z)
  have nodes : ∀ k m, tr_isN w k m → tr_Same w w2 m := fun k m hm => by
    obtain ⟨e1, he1⟩ := hW.1 k m hm
    obtain ⟨s, x, hx⟩ := hm.2
    exact ⟨eq _ _ hx, eq _ _ he1⟩
  have back : ∀ k m, tr_isN w2 k m → tr_isN w k m := fun k m hm => tr_isN_eq (hb k m hm).symm hm
  have W2 := tr_Wi_all hW nodes back
  refine ⟨⟨(eq _ _ hh).trans hh, (eq _ _ hsl).trans hsl, W2, tr_Fre_all hfr nodes back, hop, fun k hk => ?_, ⟨hne0, s0, r0, t0, tr_So_same h0 (eq _ _ h0.1) (fun k m hm _ => nodes k m hm)⟩, fun q d hqd => ?_⟩, fun a ha hx => ⟨hx, fun z => ?_, fun z => ?_, fun k n hn => ?_⟩⟩
  · obtain ⟨q, hg, hb, s9, r9, t9, o9, hS⟩ := hsq k hk
    exact ⟨q, hg, hb, s9, r9, t9, o9, tr_So_same hS (eq _ _ hS.1) (fun k m hm _ => nodes k m hm)⟩
  · obtain ⟨r9, t9, o9, D9, v9⟩ := hbd q d hqd
    obtain ⟨D3, v3⟩ := tr_Df_all D9 W2 (Nat.le_refl _) (eq _ _ D9.2.2.1) nodes
    exact ⟨r9, t9, o9, D3, fun i hi => by rw [v3 _ (by omega)]; exact v9 i hi⟩
  · rw [z, hh] at ha; cases ha
  · rw [z, hsl] at ha; cases ha
  · obtain ⟨e1, he1⟩ := hW.1 k n (back k n hn)
    rw [(nodes _ _ (back k n hn)).arr]
    exact xw_nn he1 ha
end
section
set_option maxHeartbeats 4000000 in
set_option maxRecDepth 100000 in
theorem c_M_init (l : Launch) (G : g_G) (w : xw_W) (mo : Nat) (hm : w mo = some (.inr (5, [.null, .null, .int 0, .int 0]))) : Met l ny_M_init nw_M_init ({ frames := 1, cells := 19, slots := 51034, locals := 12 }) (g_Pc G w [.ref mo]) (g_Qv G (fun w' => ∃ ra sa rr, mo_I G w' mo ra sa rr (false, fun _ => 0, fun _ _ => 0) 0 ∧ (∀ a, w a ≠ none → a ≠ mo → w' a = w a) ∧ (∀ k n, tr_isN w' k n → w' n = w n) ∧ w ra = none ∧ w sa = none ∧ ∀ k, k < 17 → w (rr k) = none)) 19 51034 (xw_A (g_b G)) := by
  refine g_met (by decide) (Nat.le_of_ble_eq_true rfl) rfl ?_
  intro p e s m below meth c ls hx hb hr hts hown hlocks hin hml hl hK hB hw hS
  have hT : ∀ w ∈ nw_T, w.before _ s = true := fun w h => hts w (List.mem_cons_of_mem _ h)
  have hown : s.vm.findClass "RadixShelfModel" = some m.cls := hown
  have hl : lv_has ls 1 [(0, .ref mo)] := hl
  refine lv_aload_n hx hb nd_M_init_0 rfl (lv_at hl 0 rfl) ?_
  refine W.objInit hx hb hown (hT _ nh_ml_M_1) (hT _ nh_im_obj) (hT _ nh_co_obj) rfl (by rw [hml]; exact hl.1) rfl nd_M_init_1 (Nat.le_of_ble_eq_true rfl) (Nat.le_of_ble_eq_true rfl) ?_
  refine W.eq (g2 := F0 m 4 ls []) rfl ?_
  refine lv_aload_n hx hb nd_M_init_4 rfl (lv_at hl 0 rfl) ?_
  refine lv_bipush (v := 17) hx hb nd_M_init_5 (by decide) ?_
  refine lv_sipush (v := 3000) hx hb nd_M_init_7 (by decide) ?_
  refine xw_multi (N := 17) (M := 3000) hx hb hown (hT _ nh_cl_M_9) (hT _ nh_ac_long) hK hB hw hS rfl rfl (by decide) (by decide) (by exact Nat.le_of_ble_eq_true rfl) (by exact Nat.le_of_ble_eq_true rfl) nd_M_init_10 (fun q H hnn hw hS => ?_)
  have hlt : mo < q := Nat.not_le.mp (fun z => by rw [hnn mo z] at hm; cases hm)
  obtain ⟨w1, e1⟩ : ∃ z, z = mo_W w q (G.2.1 5) (G.2.1 0) 17 3000 17 := ⟨_, rfl⟩
  have hw : g_P G w1 H := by rw [e1]; exact hw
  have old : ∀ a, (a < q ∨ q + 1 + 17 ≤ a) → w1 a = w a := fun a ha => by rw [e1]; exact mo_W_old 17 a ha
  have hin9 : ∀ k, k < 17 → w1 (q + 1 + k) = some (.inl (G.2.1 0, 3000, .inr (.inl (fun _ => 0)))) := fun k hk => by rw [e1]; exact mo_W_in 17 k hk
  have hm : w1 mo = some (.inr (5, [.null, .null, .int 0, .int 0])) := by rw [old mo (Or.inl hlt)]; exact hm
  have hq : w1 q = some (.inl (G.2.1 5, 17, .inr (.inr (.inr (.inr (fun j => some (q + 1 + j))))))) := by rw [e1]; exact mo_W_out 17
  have hq1 := hq
  refine xw_putF (T := nT_M) (N := 4) (ci := 5) (v := .ref q) (ty := (.array (.array .long))) hx hb hT nu_M nt_M nk_M nn_M hown hK.1 hB hw hS hm rfl 0 (by decide) (hT _ nh_fl_M_11) (fun _ h9 => h9) rfl hin rfl (by decide +kernel) rfl rfl (Nat.le_of_ble_eq_true rfl) nd_M_init_14 (fun H locs hw hS => ?_)
  obtain ⟨w2, ew3⟩ : ∃ z, z = va_up w1 mo (some (.inr (5, [.ref q, .null, .int 0, .int 0]))) := ⟨_, rfl⟩
  have hw : g_P G w2 H := by rw [ew3]; exact hw
  have hq : w2 q = some (.inl (G.2.1 5, 17, .inr (.inr (.inr (.inr (fun j => some (q + 1 + j))))))) := by rw [ew3, va_up_ne _ _ (xw_ne hq hm (by simp))]; exact hq
  have hm : w2 mo = some (.inr (5, [.ref q, .null, .int 0, .int 0])) := by rw [ew3]; exact va_up_self _ _ _
  refine lv_aload_n hx hb nd_M_init_17 rfl (lv_at hl 0 rfl) ?_
  refine lv_bipush (v := 17) hx hb nd_M_init_18 (by decide) ?_
  have hin9b : ∀ k, k < 17 → w2 (q + 1 + k) = some (.inl (G.2.1 0, 3000, .inr (.inl (fun _ => 0)))) := fun k hk => by rw [ew3, va_up_ne _ _ (by omega)]; exact hin9 k hk
  refine xw_newa (atype := .int) (N' := 17) (a0 := (17, .inl (fun _ => 0))) hx hb (hT _ nh_ac_int) (ty := .int) rfl hK.1 hB hw hS 4 rfl (fun _ => rfl) (by decide) (by decide) (by decide) (by exact Nat.le_of_ble_eq_true rfl) (by exact Nat.le_of_ble_eq_true rfl) nd_M_init_20 (fun sa H hn_sa hw hS => ?_)
  have hnsa := hn_sa
  obtain ⟨w4, ew5⟩ : ∃ z, z = va_up w2 sa (some (.inl (G.2.1 4, 17, .inl (fun _ => 0)))) := ⟨_, rfl⟩
  have hw : g_P G w4 H := by rw [ew5]; exact hw
  have hm : w4 mo = some (.inr (5, [.ref q, .null, .int 0, .int 0])) := by rw [ew5, va_up_ne _ _ (xw_nn hm hn_sa)]; exact hm
  have hq : w4 q = some (.inl (G.2.1 5, 17, .inr (.inr (.inr (.inr (fun j => some (q + 1 + j))))))) := by rw [ew5, va_up_ne _ _ (xw_nn hq hn_sa)]; exact hq
  have h_sa : w4 sa = some (.inl (G.2.1 4, 17, .inl (fun _ => 0))) := by rw [ew5]; exact va_up_self _ _ _
  refine xw_putF (T := nT_M) (N := 4) (ci := 5) (v := .ref sa) (ty := (.array .int)) hx hb hT nu_M nt_M nk_M nn_M hown hK.1 hB hw hS hm rfl 1 (by decide) (hT _ nh_fl_M_14) (fun _ h9 => h9) rfl hin rfl (by decide +kernel) rfl rfl (Nat.le_of_ble_eq_true rfl) nd_M_init_22 (fun H locs hw hS => ?_)
  obtain ⟨w6, ew7⟩ : ∃ z, z = va_up w4 mo (some (.inr (5, [.ref q, .ref sa, .int 0, .int 0]))) := ⟨_, rfl⟩
  have hw : g_P G w6 H := by rw [ew7]; exact hw
  have hq : w6 q = some (.inl (G.2.1 5, 17, .inr (.inr (.inr (.inr (fun j => some (q + 1 + j))))))) := by rw [ew7, va_up_ne _ _ (xw_ne hq hm (by simp))]; exact hq
  have h_sa : w6 sa = some (.inl (G.2.1 4, 17, .inl (fun _ => 0))) := by rw [ew7, va_up_ne _ _ (xw_ne h_sa hm (by simp))]; exact h_sa
  have hm : w6 mo = some (.inr (5, [.ref q, .ref sa, .int 0, .int 0])) := by rw [ew7]; exact va_up_self _ _ _
  have hsm : sa ≠ mo := fun z => by rw [z, ew3, va_up_self] at hnsa; cases hnsa
  have hs1 : w1 sa = none := by rw [ew3, va_up_ne _ _ hsm] at hnsa; exact hnsa
  have hsq : q + 1 + 17 ≤ sa ∨ sa < q := by
    by_cases h9 : q + 1 + 17 ≤ sa
    · exact Or.inl h9
    · by_cases h8 : sa < q
      · exact Or.inr h8
      · exfalso
        by_cases h7 : sa = q
        · rw [h7, hq1] at hs1; cases hs1
        · have h6 := hin9 (sa - (q + 1)) (by omega)
          rw [show q + 1 + (sa - (q + 1)) = sa by omega, hs1] at h6
          cases h6
  have hs0 : w sa = none := by rw [← old sa (by omega)]; exact hs1
  have fin : ∀ a, a ≠ mo → a ≠ sa → w6 a = w1 a := fun a n1 n2 => by rw [ew7, va_up_ne _ _ n1, ew5, va_up_ne _ _ n2, ew3, va_up_ne _ _ n1]
  have rows9 : ∀ k, k < 17 → w6 (q + 1 + k) = some (.inl (G.2.1 0, 3000, .inr (.inl (fun _ => 0)))) := fun k hk => by rw [fin _ (by omega) (fun z => by rw [← z, hin9 k hk] at hs1; cases hs1)]; exact hin9 k hk
  have hJ : mo_J G w6 mo q sa (fun k => q + 1 + k) false (fun _ => 0) (fun _ _ => 0) 0 := ⟨hm, ⟨_, hq, fun k _ => rfl⟩, ⟨_, h_sa, fun k _ => nI_0.symm⟩, fun k hk => ⟨Nat.zero_le _, rows9 k hk⟩, fun k k' _ _ e => by have : q + 1 + k = q + 1 + k' := e; omega⟩
  have hF1 : ∀ a, w a ≠ none → a ≠ mo → w6 a = w a := fun a ha n1 => by
    have hlq : a < q := Nat.not_le.mp (fun z => ha (hnn a z))
    rw [fin a n1 (fun z => ha (by rw [z]; exact hs0)), old a (Or.inl hlq)]
  have hF2 : ∀ k n, tr_isN w6 k n → w6 n = w n := fun k n hn => by
    have n1 : n ≠ mo := tr_isN_ne hn hm (by decide)
    have n2 : ∀ a e, w6 a = some (.inl e) → n ≠ a := fun a e ha z => by
      obtain ⟨-, s9, x9, h9⟩ := hn
      rw [z, ha] at h9
      cases h9
    have n3 := n2 _ _ h_sa
    by_cases h9 : n < q ∨ q + 1 + 17 ≤ n
    · rw [fin n n1 n3, old n h9]
    · exfalso
      by_cases h7 : n = q
      · exact n2 _ _ hq h7
      · exact n2 _ _ (rows9 (n - (q + 1)) (by omega)) (by omega)
  exact g_vret hx hb hr hlocks hw hS (⟨q, sa, fun k => q + 1 + k, ⟨_, hJ, fun k _ z hz => rfl⟩, hF1, hF2, hnn q (Nat.le_refl _), hs0, fun k _ => hnn (q + 1 + k) (by omega)⟩) (by exact Nat.le_of_ble_eq_true rfl) (by exact Nat.le_of_ble_eq_true rfl) nd_M_init_25
end
