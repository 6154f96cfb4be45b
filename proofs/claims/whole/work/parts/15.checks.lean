/-- the words of a throw of cls, whose constructor hands its text on by the pool's place i1 -/
def xs_at (own : String) (ic : Nat) (X : String) (i1 : Nat) (b1 : ByteArray) : List Cond := Bundle.throwableAtoms ++ Bundle.throwableSAtoms ++ Bundle.passSAtoms X "java/lang/RuntimeException" i1 b1 ++ Bundle.chainSAtoms "java/lang/RuntimeException" ["java/lang/Exception"] ++
  [.methodLink own ic (Bundle.initS X), .instantiable X 6, .castable X X, .selects X Bundle.tFill0 Bundle.tFill0, .selects X Bundle.tFill Bundle.tFill, .lays X Bundle.tN "cause" "Ljava/lang/Throwable;", .lays X Bundle.tN "stackTrace" Bundle.steD, .lays X Bundle.tN "suppressedExceptions" Bundle.listD, .lays X Bundle.tN "detailMessage" "Ljava/lang/String;",
   .isRef (.static Bundle.tN "UNASSIGNED_STACK" Bundle.steD), .isRef (.static Bundle.tN "SUPPRESSED_SENTINEL" Bundle.listD), .fieldLink Bundle.tN 198 Bundle.tN "backtrace" "Ljava/lang/Object;", .lays Bundle.tN Bundle.tN "backtrace" "Ljava/lang/Object;", .lays X Bundle.tN "backtrace" "Ljava/lang/Object;"]
def xs_ok (b1 : ByteArray) (i1 : Nat) : Prop := decode b1 0 = .ok (.aload_n 0, 1) ∧ decode b1 1 = .ok (.aload_n 1, 1) ∧ decode b1 2 = .ok (.invokespecial i1, 3) ∧ decode b1 5 = .ok (.return_, 1)
section GTC
variable {p : Program} {l : Launch} {e : Env} {R : Room} {s : State} {m₀ : MethodId} {args : Array Value} {below : List Frame} {meth : Method} {c : Code} {V : State} {locs : List Loc} {cells slots : Nat}
set_option maxHeartbeats 2000000 in
theorem xs_ctor (X : Stand p l e R s m₀ args below meth c V locs cells slots) (hexec : p.tables.exec = Jvm.exec) (htr : e.platform.stackTraces = false) {own cls : String} {ic i1 : Nat} {b1 : ByteArray} (hok : xs_ok b1 i1)
    (hown : s.vm.findClass own = some m₀.cls) (hcls : Bundle.fit cls = true) (h : ∀ a ∈ xs_at own ic cls i1 b1, a.before args s = true) (hlocs : locs = [])
    {a : Addr} {cX : ClassId} {kX : Class} (hfoundX : s.vm.findClass cls = some cX) (hkX : s.vm.classes[cX]? = some kX) (hcell : V.heap[a]? = some (freshCell cX kX)) (hnew : s.heap.size ≤ a) {msg : Value} (hmsg : msg.isRef = true)
    {g : JFrame} (hg : g.method = m₀) (hsize : g.locals.size = c.maxLocals) (hlocked : g.locked = none) (hentered : g.entered = []) {rest : List Value} (hstack : g.stack = msg :: .ref a :: .ref a :: rest)
    (hd6 : decode c.code g.pc = .ok (.invokespecial ic, 3)) (hd9 : decode c.code (g.pc + 3) = .ok (.athrow, 1)) (hout : ∀ x ∈ c.exceptionTable.toList, covers x (g.pc + 3) = false)
    (hRframes : 5 < R.frames) (hRlocals : 2 * g.monitorRoom + ((Value.ref a :: rest).map fun v => v.category).sum + 81 ≤ R.locals) (hlocks : meth.locks = false) :
    ∃ U : State, Steps p.tables e below (V.setTop g) U ∧ U.status = .running ∧ Ended U below (.threw a) ∧ s.WarmedH U.vm ∧ s.sameButNew ({ U with vm := s.vm } : State) locs cells slots ∧ ∃ ce, U.heap[a]? = some ce ∧ ce.vm = .none ∧ s.vm.findClass cls = some ce.cls := by
  subst hlocs
  have howns : e.platform.frameOwnsMonitors = true := by rw [X.admits.platform]
  have hfin : e.platform.finalization = false := by rw [X.admits.platform]
  have hpl : e.platform.magicAccessors = ({} : Platform).magicAccessors := by rw [X.admits.platform]
  have a' : ∀ x, x ∈ xs_at own ic cls i1 b1 → x.holds args s none s [] = true := fun x hx => h x hx
  obtain ⟨T, Z0, L, -, Y⟩ := ThrowableC.of_atoms (args := args) howns hfin hpl (fun x hx => h x (by simp [xs_at, hx]))
  obtain ⟨Z, M, LZ, LM, hnZ⟩ := Init0T.ofS_atoms (args := args) hpl L Y (fun x hx => h x (by simp [xs_at, hx]))
  obtain ⟨P1, L1, hP1m, hP1s⟩ := PassC.ofS_atoms (X := cls) (Y := "java/lang/RuntimeException") (index := i1) (bytes := b1) (args := args) hpl (Bundle.fit_spec hcls).1 (by decide) hok.1 hok.2.1 hok.2.2.1 hok.2.2.2 (fun x hx => h x (by simp [xs_at, hx]))
  obtain ⟨P2, Ps, hlen, L2, hL, hP2m, hlink1, hlink⟩ := Bundle.chainS (args := args) hpl hnZ ["java/lang/Exception"] "java/lang/RuntimeException" (by decide +kernel) (by decide +kernel) (fun x hx => h x (by simp [xs_at, hx]))
  have hsup : P1.sup = P2.m := Option.some.inj (hP1s.symm.trans hP2m)
  have hfound : s.vm.findClass cls = some P1.m.cls := findClass_of_methodNamed hP1m
  cases Option.some.inj (hfoundX.symm.trans hfound)
  obtain ⟨c1, kX', hc1, hk, hord, -, -, hn6⟩ := Cond.instantiable_spec (a' (.instantiable cls 6) (by simp [xs_at]))
  cases Option.some.inj (hc1.symm.trans hfound)
  cases Option.some.inj (hkX.symm.trans hk)
  have hsel0 : selectMethod e.platform s.vm P1.m.cls T.fill0 = .method T.fill0 := by
    obtain ⟨c2, r2, m2, q1, q2, q3, q4, -⟩ := Cond.selects_spec (a' (.selects cls Bundle.tFill0 Bundle.tFill0) (by simp [xs_at]))
    cases Option.some.inj (q1.symm.trans hfound)
    cases Option.some.inj (q2.symm.trans (State.methodFound?_of_named Y.fill0 (by decide)))
    cases Option.some.inj (q3.symm.trans Y.fill0)
    rw [Launch.admits_selectMethod X.admits]; exact q4
  have hselF : selectMethod e.platform s.vm P1.m.cls T.fill = .method T.fill := by
    obtain ⟨c2, r2, m2, q1, q2, q3, q4, -⟩ := Cond.selects_spec (a' (.selects cls Bundle.tFill Bundle.tFill) (by simp [xs_at]))
    cases Option.some.inj (q1.symm.trans hfound)
    cases Option.some.inj (q2.symm.trans (State.methodFound?_of_named Y.fill (by decide)))
    cases Option.some.inj (q3.symm.trans Y.fill)
    rw [Launch.admits_selectMethod X.admits]; exact q4
  obtain ⟨cellS0, hcS0, hiss⟩ := Y.statics
  obtain ⟨u0, hu0⟩ := Cond.staticRefV Y.unassigned L.unassignedStatic L.statics hcS0 hiss (a' (.isRef (.static Bundle.tN "UNASSIGNED_STACK" Bundle.steD)) (by simp [xs_at]))
  obtain ⟨sen, hsen⟩ := Cond.staticRefV Y.sentinel L.sentinelStatic L.statics hcS0 hiss (a' (.isRef (.static Bundle.tN "SUPPRESSED_SENTINEL" Bundle.listD)) (by simp [xs_at]))
  obtain ⟨ci198, i198, fB, hk198, hg198, ha198, hsB, -, hnB, htB, hffB⟩ := Cond.ownField (t := .object "java/lang/Object") Y.found L.cls (by decide +kernel) (a' (.fieldLink Bundle.tN 198 Bundle.tN "backtrace" "Ljava/lang/Object;") (by simp [xs_at])) (a' (.lays Bundle.tN Bundle.tN "backtrace" "Ljava/lang/Object;") (by simp [xs_at])) e.platform hpl
  obtain ⟨cellS, hcS', heS, -, hkeep⟩ := X.same.2.2.2.2.2 T.aS cellS0 hcS0
  have hcellS : V.heap[T.aS]? = some cellS := hcS'
  have hout' : ∀ i, (⟨T.aS, i⟩ : Loc) ∉ ([] : List Loc) := fun i hmem => nomatch hmem
  have hknownS : cellS.vm ≠ .unknown := by
    rw [heS]; intro hu
    rw [show cellS0.vm = .unknown from hu] at hiss
    cases hiss
  have hneS : T.aS ≠ a := Nat.ne_of_lt (Nat.lt_of_lt_of_le (Array.getElem?_eq_some_iff.mp hcS0).1 hnew)
  obtain ⟨iM, hffM⟩ := Y.msg
  obtain ⟨tyC, dC, hdC, hdnC⟩ := Cond.laysAt hfound hk Y.cause (a' (.lays cls Bundle.tN "cause" "Ljava/lang/Throwable;") (by simp [xs_at]))
  obtain ⟨tyS, dS, hdS, hdnS⟩ := Cond.laysAt hfound hk Y.stack (a' (.lays cls Bundle.tN "stackTrace" Bundle.steD) (by simp [xs_at]))
  obtain ⟨tyP, dP, hdP, hdnP⟩ := Cond.laysAt hfound hk Y.supp (a' (.lays cls Bundle.tN "suppressedExceptions" Bundle.listD) (by simp [xs_at]))
  obtain ⟨tyM, dM, hdM, hdnM⟩ := Cond.laysAt hfound hk hffM (a' (.lays cls Bundle.tN "detailMessage" "Ljava/lang/String;") (by simp [xs_at]))
  obtain ⟨tyB, dB, hdB, hdnB⟩ := Cond.laysAt hfound hk hffB (a' (.lays cls Bundle.tN "backtrace" "Ljava/lang/Object;") (by simp [xs_at]))
  have bC := Cond.laysApart hdB hdC hdnB hdnC (by rw [hnB, Y.causeName]; decide)
  have bS := Cond.laysApart hdB hdS hdnB hdnS (by rw [hnB, Y.stackName]; decide)
  have bP := Cond.laysApart hdB hdP hdnB hdnP (by rw [hnB, Y.suppName]; decide)
  have hskip : SkipFacts T e.platform s (fun u => u) u0 ((preparedCellV T.toThrowableT (freshCell P1.m.cls kX) a u0 sen).withEntry V.cur) :=
    ⟨{ ci198 := ci198, i198 := i198, fBack := fB }, ⟨hk198, hg198, ha198, hsB⟩, by
      have := fresh_default (c := P1.m.cls) tyB
      rw [htB] at this
      simpa [preparedCellV, Cell.setSlot, Cell.withEntry, Array.getElem?_setIfInBounds, bC, bS, bP, bC.symm, bS.symm, bP.symm, defaultValue] using this, fun _ _ => rfl⟩
  obtain ⟨tm, methC, cdC, kC, vm₁, hnC, -, -, -, -, -, -, -, hW₁, st1⟩ := Steps.initColdS (tb := p.tables) (e := e) (below := below) (s := s) (U := V) X.here hexec X.warmed hpl hown (t := Bundle.initS cls) rfl rfl (Bundle.fit_spec hcls).2
    (a' (.methodLink own ic (Bundle.initS cls)) (by simp [xs_at])) (h (.instanceMethod (Bundle.initS cls)) (by simp [xs_at, Bundle.passSAtoms])) (bytes := b1) (maxL := 2) (h (.code (Bundle.initS cls) b1 2 none) (by simp [xs_at, Bundle.passSAtoms]))
    (f := g) hg (a := a) (msg := msg) (rest := .ref a :: rest) hstack hd6
  cases Option.some.inj (hnC.symm.trans hP1m)
  have X₁ := X.noted hW₁
  obtain ⟨vm₂, X₂, st2⟩ := X₁.ctorMessageOffV hexec (g := { g with stack := .ref a :: rest }) hg hsize T L Z LZ M LM (P1 :: P2 :: Ps)
    (fun P hP => by
      rcases List.mem_cons.mp hP with rfl | hP
      · exact L1
      · rcases List.mem_cons.mp hP with rfl | hP
        · exact L2
        · exact hL P hP) ⟨hsup, hlink1, hlink⟩ (u0 := u0) (sen := sen) (self := a) hmsg (cell := freshCell P1.m.cls kX) (cellS := cellS)
    hcell (fun _ => by simp) (by simp) rfl rfl hsel0 hselF hcellS hneS hknownS (by rw [hkeep _ (hout' _)]; exact hu0) (by rw [hkeep _ (hout' _)]; exact hsen)
    (Takes.of_laid hk hord tyC (by rw [Y.causeType]; rfl)) (Takes.of_laid hk hord tyS (by rw [Y.stackType]; exact fits_refV_array _ u0)) (Takes.of_laid hk hord tyP (by rw [Y.suppType]; exact fits_refV_object _ sen))
    (Takes.of_laid hk hord tyM (by rw [Y.msgType]; exact fits_refV_object _ ⟨msg, hmsg⟩)) Y.objLocals hskip htr [] hd6
    (by simp only [List.length_cons, hlen, List.length_nil]; omega) (by simp only [List.length_cons, hlen, List.length_nil]; exact hRlocals)
  obtain ⟨hwalk, hrun, hended, hWU, hsame⟩ := X₂.athrowLeaves hexec (g := { g with stack := .ref a :: rest, pc := g.pc + 3 }) hg hlocked hentered hout (a := a) (rest := rest) rfl hd9 hlocks
  have hlt : a < ((V.setVm vm₁).setVm vm₂).heap.size := (Array.getElem?_eq_some_iff.mp hcell).1
  have hU := heapAt_setCell_self (s := (V.setVm vm₁).setVm vm₂) (plainBareV T.toThrowableT (freshCell P1.m.cls kX) a u0 sen msg) hlt
  refine ⟨_, st1 _ (fun acts => ?_), hrun, hended, hWU, hsame.weaken (fun y hy hlt' => ?_) (Nat.le_refl _) (Nat.le_refl _), _, hU, rfl, hfound⟩
  · rw [doInvoke_state]
    exact st2 _ hwalk
  · rcases List.mem_append.mp hy with h1 | h1
    · exact h1
    · exfalso
      have hb : y.base = a := by
        simp only [List.mem_cons, List.not_mem_nil, or_false] at h1
        rcases h1 with rfl | rfl | rfl | rfl | rfl <;> rfl
      rw [hb] at hlt'
      exact Nat.not_lt.mpr hnew hlt'
end GTC
section GTH
variable {p : Program} {l : Launch} {e : Env} {R : Room} {s : State} {m : MethodId} {args : Array Value} {below : List Frame} {meth : Method} {c : Code} {H : Heap} {locs : List Loc} {cells slots : Nat}
variable {cc : ByteArray} {pc : Nat} {ls : Array Slot} {G : g_G} {w : xw_W} {rest : List Value}
def xs_bad (cls : String) : List Cond := [.declares (Bundle.initS "java/lang/RuntimeException"), .declares (Bundle.initS "java/lang/Exception"), .declares (Bundle.initS Bundle.tN), .castable cls cls]
/-- 'throw new E("text")' in the shelf -/
theorem g_throw {Qc : Array Value → State → Outcome → State → Prop} {thr : String → xw_W → Prop} {cls : String} {ik is ic i1 mc ms : Nat} {b1 : ByteArray} (si : Nat) (hx : p.tables.exec = Jvm.exec) (hb : c.code = cc) (hl9 : l.stackTraces = false) (hown : s.vm.findClass "RadixShelf" = some m.cls) (hT : ∀ w ∈ nw_T, w.before args s = true) (hK : g_K G s) (hw : g_P G w H) (hS : g_S G s.heap H locs) (hml : ls.size = c.maxLocals)
    (hcls : Bundle.fit cls = true) (hok : xs_ok b1 i1) (hk : (Cond.classLink "RadixShelf" ik cls : Cond) ∈ nw_T) (hini : (Cond.initialized cls : Cond) ∈ nw_T) (hsi : si < 7) (his : (g_str si).1 = is) (hA : (((xs_at "RadixShelf" ic cls i1 b1).filter vx_no).filter goodWord).all (fun w => decide (w ∈ lw_tbl)) = true) (hBad : ((xs_at "RadixShelf" ic cls i1 b1).filter vx_no).filter (fun w => !goodWord w) = xs_bad cls) (hot : (Cond.classLink "RadixShelf" ik cls :: Cond.initialized cls :: (xs_at "RadixShelf" ic cls i1 b1).filter vx_no).all vx_ot = true) (hcast : (cls, cls) ∈ g_cast)
    (d0 : decode cc pc = .ok (.new ik, 3)) (d3 : decode cc (pc + 3) = .ok (.dup, 1)) (d4 : decode cc (pc + 4) = .ok (.ldc is, 2)) (d6 : decode cc (pc + 6) = .ok (.invokespecial ic, 3)) (d9 : decode cc (pc + 9) = .ok (.athrow, 1)) (hne : ∀ x ∈ c.exceptionTable.toList, False)
    (hfr : 5 < R.frames) (hlo : (rest.map fun v => v.category).sum + 82 ≤ R.locals) (hce : cells + 1 ≤ R.cells) (hsl : slots + 6 ≤ R.slots) (hlocks : meth.locks = false) (hthr : thr cls w) (hc : cells + 1 ≤ mc) (hs : slots + 6 ≤ ms) :
    W p l e R s m args below meth c H locs cells slots (vx_MQ below Qc (g_X G thr) args s mc ms (xw_A (g_b G))) (F0 m pc ls rest) := by
  subst his
  obtain ⟨-, hE⟩ := id hK
  have hat : ∀ w ∈ (xs_at "RadixShelf" ic cls i1 b1).filter vx_no, w.before args s = true := by
    refine vx_hat (B := xs_bad cls) (fun w hw => hT w ?_) (fun w hw => by rw [hBad] at hw; exact hw) (vx_c (va_Nw.use rfl (hE.2.2.2.2.2.2 _ (by simp [g_decl]))) (vx_c (va_Nw.use rfl (hE.2.2.2.2.2.2 _ (by simp [g_decl]))) (vx_c (va_Nw.use rfl (hE.2.2.2.2.2.2 _ (by simp [g_decl]))) (vx_c (va_Nw.use rfl (hE.2.1 _ hcast)) vx_n))))
    have h1 := List.all_eq_true.mp hA w hw
    simp only [decide_eq_true_eq] at h1
    exact List.mem_filter.mpr ⟨h1, (List.mem_filter.mp hw).2⟩
  have hgood := List.all_eq_true.mp hot
  intro T hT9 X
  have htr : e.platform.stackTraces = false := (show e.platform.stackTraces = l.stackTraces by rw [X.admits.platform]).trans hl9
  have Y := vx_rebase X (R' := { frames := R.frames, locals := R.locals, cells := 1, slots := 6 }) (Nat.le_refl _) (Nat.le_refl _) hce hsl
  obtain ⟨s', hA9⟩ : ∃ z, z = (T.setVm s.vm).setFrames (.invoking m args :: below) := ⟨_, rfl⟩
  rw [← hA9] at Y
  have hvm : s'.vm = s.vm := by rw [hA9]; rfl
  have hhp : s'.heap = H := by rw [hA9]; exact hT9
  have hW0 : s.WarmedH s'.vm := by rw [hvm]; exact State.WarmedH.refl s
  have hat' : ∀ w ∈ (xs_at "RadixShelf" ic cls i1 b1).filter vx_no, w.before args s' = true := fun w hw => vx_ot_at hW0 hvm.symm (hgood w (List.mem_cons_of_mem _ (List.mem_cons_of_mem _ hw))) (hat w hw)
  have hk' : (Cond.classLink "RadixShelf" ik cls).before args s' = true := vx_ot_at hW0 hvm.symm (hgood _ List.mem_cons_self) (hT _ hk)
  have hini' : (Cond.initialized cls).before args s' = true := vx_ot_at hW0 hvm.symm (hgood _ (List.mem_cons_of_mem _ List.mem_cons_self)) (hT _ hini)
  have hE' : g_E G s' := g_E.moved hW0 (fun q h1 h2 => by rw [hhp]; exact hS.2.1 q h1 h2) hE
  have h : ∀ w ∈ xs_at "RadixShelf" ic cls i1 b1, w.before args s' = true := vx_own hat' (vx_isRefq hE'.2.2.2.2.1.1) (vx_isRefq hE'.2.2.2.2.2.1.1) hE'.2.2.2.2.1.2.word hE'.2.2.2.2.2.1.2.word
  have hown' : s'.vm.findClass "RadixShelf" = some m.cls := by rw [hvm]; exact hown
  have hins : (Cond.instantiable cls 6).before args s' = true := h _ (by simp [xs_at])
  obtain ⟨vm₁, cX, kX, hfX, hkX, -, -, X₁, st1⟩ := Y.newCold hx (own := "RadixShelf") (C := cls) (index := ik) (n := 6) hown' hk' hins hini'
    (g := F0 m pc ls rest) rfl (by rw [hb]; exact d0) (Nat.le_refl _) (Nat.le_refl _)
  generalize hT1 : (T.setVm vm₁).pushCell { cls := cX, slots := kX.instanceTypes.map defaultValue, vm := .none } = T1 at X₁ st1
  have hcat : (Value.ref T.heap.size).category = 1 := rfl
  have hcellA : T1.heap[T.heap.size]? = some (freshCell cX kX) := by rw [← hT1]; exact State.heap_pushCell_size _ _
  have d3' : decode c.code (pc + 3) = .ok (.dup, 1) := by rw [hb]; exact d3
  have d4' : decode c.code (pc + 4) = .ok (.ldc (g_str si).1, 2) := by rw [hb]; exact d4
  have hstr' := hE'.2.2.2.1 si hsi
  obtain ⟨U, hsteps, hrun, hend, hW, hsame, ce, hce9, hcv, hcl9⟩ := xs_ctor X₁ hx htr (own := "RadixShelf") (cls := cls) (ic := ic) hok hown' hcls h rfl hfX hkX hcellA (by rw [hhp, hT9]; exact Nat.le_refl _) (msg := .ref (G.2.2.2 si)) rfl
    (g := { method := m, pc := pc + 6, locals := ls, stack := .ref (G.2.2.2 si) :: .ref T.heap.size :: .ref T.heap.size :: rest, locked := none }) rfl hml rfl rfl (rest := rest) rfl
    (by rw [hb]; exact d6) (by rw [hb]; exact d9) (fun x hx => (hne x hx).elim) hfr (by simp only [List.map_cons, List.sum_cons, hcat]; show 2 * 0 + _ + 81 ≤ _; omega) hlocks
  obtain ⟨f1, f2⟩ := vx_frame hsame
  rw [hhp] at f1 f2
  have hWs : s.WarmedH U.vm := State.WarmedH.trans hW0 hW
  have hcl : s.vm.findClass cls = some ce.cls := by
    have h9 := hcl9
    rw [hvm] at h9
    exact h9
  have hall : s.sameButNew ({ U with vm := s.vm } : State) locs mc ms := by
    subst hA9
    obtain ⟨e1, e2⟩ := hsame
    rw [State.setFrames_setFrames] at e1
    have h2 : (T.setVm s.vm).sameButNew ({ U with vm := s.vm } : State) [] (0 + 1) (0 + 6) := ⟨e1, e2⟩
    have h3 := X.same.trans h2
    rw [List.append_nil] at h3
    exact h3.mono hc hs
  have hkp : ∀ q : Nat, q < H.size → U.heap[q]? = H[q]? := fun q hq => f2 q hq (fun z hz => nomatch hz)
  refine ⟨U, ?_, .threw T.heap.size, hrun, hend, Or.inr ⟨T.heap.size, rfl, cls, ce, locs, ⟨w, trivial, ⟨hthr, hw.grow f1 hkp⟩, Nat.le_trans hS.1 f1, fun q h1 h2 => (hkp q (Nat.lt_of_lt_of_le h1 hS.1)).trans (hS.2.1 q h1 h2)⟩, hce9, hcv, hcl, hWs, hall, hS.2.2⟩⟩
  refine st1 _ ?_
  show Steps p.tables e below (T1.setTop { method := m, pc := pc + 3, locals := ls, stack := .ref T.heap.size :: rest, locked := none }) _
  jvm_step X₁.here [X₁.here.top, hx, d3', Value.category]
  exact X₁.ldcString hx (own := "RadixShelf") (text := (g_str si).2) (index := (g_str si).1) (a := G.2.2.2 si) hown' hstr'.1 hstr'.2
    (g := { method := m, pc := pc + 4, locals := ls, stack := .ref T.heap.size :: .ref T.heap.size :: rest, locked := none }) rfl d4' _ hsteps
end GTH

set_option maxHeartbeats 4000000 in
set_option maxRecDepth 100000 in
theorem c_S_checkRange (l : Launch) (hl9 : l.stackTraces = false) (G : g_G) (w : xw_W) (a lo hi : Int32) : vx_Met l ny_S_checkRange nw_S_checkRange ({ frames := 6, cells := 1, slots := 6, locals := 82 }) (g_Pc G w [.int a, .int lo, .int hi]) (g_Qv G (fun w' => w' = w ∧ lo ≤ a ∧ a ≤ hi)) (g_X G (fun E w' => E = g_IAE ∧ w' = w ∧ ¬ (lo ≤ a ∧ a ≤ hi))) 1 6 (xw_A (g_b G)) := by
  refine g_xmet (by decide) (Nat.le_of_ble_eq_true rfl) rfl ?_
  intro p e s m below meth c ls hx hb hr hts hown hlocks hne hml hl hK hB hw hS
  have hT : ∀ w ∈ nw_T, w.before _ s = true := fun w h => hts w (List.mem_cons_of_mem _ h)
  have hown : s.vm.findClass "RadixShelf" = some m.cls := hown
  have hl : lv_has ls 3 [(0, .int a), (1, .int lo), (2, .int hi)] := hl
  refine lv_iload_n hx hb nd_S_checkRange_0 rfl (lv_at hl 0 rfl) ?_
  refine lv_iload_n hx hb nd_S_checkRange_1 rfl (lv_at hl 1 rfl) ?_
  refine lv_icmp_lt (tgt := 10) hx hb nd_S_checkRange_2 (by decide) (fun hc => ?_) (fun hc => ?_)
  · exact g_throw (cls := g_IAE) 0 hx hb hl9 hown hT hK hw hS (by rw [hml]; exact hl.1) (by decide +kernel) (i1 := 7) (b1 := Bundle.six) ⟨by decide +kernel, by decide +kernel, by decide +kernel, by decide +kernel⟩ nh_cl_S_108 nh_in_IAE (by decide) rfl (by decide +kernel) (by decide +kernel) (by decide +kernel) (by decide) nd_S_checkRange_10 nd_S_checkRange_13 nd_S_checkRange_14 nd_S_checkRange_16 nd_S_checkRange_19 hne (by exact Nat.le_of_ble_eq_true rfl) (by exact Nat.le_of_ble_eq_true rfl) (by exact Nat.le_of_ble_eq_true rfl) (by exact Nat.le_of_ble_eq_true rfl) hlocks (⟨rfl, rfl, fun z => Int32.not_le.mpr hc z.1⟩) (by exact Nat.le_of_ble_eq_true rfl) (by exact Nat.le_of_ble_eq_true rfl)
  · refine lv_iload_n hx hb nd_S_checkRange_5 rfl (lv_at hl 0 rfl) ?_
    refine lv_iload_n hx hb nd_S_checkRange_6 rfl (lv_at hl 2 rfl) ?_
    refine lv_icmp_le (tgt := 20) hx hb nd_S_checkRange_7 (by decide) (fun hc2 => ?_) (fun hc2 => ?_)
    · exact vx_ret (g_vret hx hb hr hlocks hw hS (⟨rfl, Int32.not_lt.mp hc, hc2⟩) (by exact Nat.le_of_ble_eq_true rfl) (by exact Nat.le_of_ble_eq_true rfl) nd_S_checkRange_20)
    · exact g_throw (cls := g_IAE) 0 hx hb hl9 hown hT hK hw hS (by rw [hml]; exact hl.1) (by decide +kernel) (i1 := 7) (b1 := Bundle.six) ⟨by decide +kernel, by decide +kernel, by decide +kernel, by decide +kernel⟩ nh_cl_S_108 nh_in_IAE (by decide) rfl (by decide +kernel) (by decide +kernel) (by decide +kernel) (by decide) nd_S_checkRange_10 nd_S_checkRange_13 nd_S_checkRange_14 nd_S_checkRange_16 nd_S_checkRange_19 hne (by exact Nat.le_of_ble_eq_true rfl) (by exact Nat.le_of_ble_eq_true rfl) (by exact Nat.le_of_ble_eq_true rfl) (by exact Nat.le_of_ble_eq_true rfl) hlocks (⟨rfl, rfl, fun z => hc2 z.2⟩) (by exact Nat.le_of_ble_eq_true rfl) (by exact Nat.le_of_ble_eq_true rfl)

set_option maxHeartbeats 4000000 in
set_option maxRecDepth 100000 in
theorem c_S_checkSlot (l : Launch) (hl9 : l.stackTraces = false) (G : g_G) (w : xw_W) (a : Int32) : vx_Met l ny_S_checkSlot nw_S_checkSlot ({ frames := 7, cells := 1, slots := 6, locals := 104 }) (g_Pc G w [.int a]) (g_Qv G (fun w' => w' = w ∧ 0 ≤ a ∧ a ≤ 15)) (g_X G (fun E w' => E = g_IAE ∧ w' = w ∧ ¬ (0 ≤ a ∧ a ≤ 15))) 1 6 (xw_A (g_b G)) := by
  refine g_xmet (by decide) (Nat.le_of_ble_eq_true rfl) rfl ?_
  intro p e s m below meth c ls hx hb hr hts hown hlocks hne hml hl hK hB hw hS
  have hT : ∀ w ∈ nw_T, w.before _ s = true := fun w h => hts w (List.mem_cons_of_mem _ h)
  have hown : s.vm.findClass "RadixShelf" = some m.cls := hown
  have hl : lv_has ls 1 [(0, .int a)] := hl
  refine lv_iload_n hx hb nd_S_checkSlot_0 rfl (lv_at hl 0 rfl) ?_
  refine lv_iconst (v := 0) hx hb nd_S_checkSlot_1 (by decide) ?_
  refine lv_bipush (v := 15) hx hb nd_S_checkSlot_2 (by decide) ?_
  refine g_xcallv (vx_runS (As := [.int a, .int 0, .int 15]) (rest := []) ⟨hx, hb, hml, hown, hts⟩ (c_S_checkRange l hl9 G w a 0 15) (cwS 3 hts (nw_of (nw_3 nh_ml_S_78 nh_st_S_checkRange nh_in_S nh_co_S_checkRange)) rfl rfl rfl (by decide +kernel) ⟨Nat.le_of_ble_eq_true rfl, Nat.le_of_ble_eq_true rfl⟩) (g_preS hK hw hS _) rfl rfl hl.1 rfl (lv_room (Nat.le_of_ble_eq_true rfl)) nd_S_checkSlot_4 ⟨by exact Nat.le_of_ble_eq_true rfl, by exact Nat.le_of_ble_eq_true rfl⟩) hS (fun E ce q9 w1 H locs hthr hw hS h1 h2 h3 => g_out hne hlocks hw hS h1 h2 h3 hthr (by exact Nat.le_of_ble_eq_true rfl) (by exact Nat.le_of_ble_eq_true rfl)) (fun w1 H locs hp hw hS => ?_)
  exact vx_ret (g_vret hx hb hr hlocks hw hS (hp) (by exact Nat.le_of_ble_eq_true rfl) (by exact Nat.le_of_ble_eq_true rfl) nd_S_checkSlot_7)

set_option maxHeartbeats 4000000 in
set_option maxRecDepth 100000 in
theorem c_S_checkNotNegative (l : Launch) (hl9 : l.stackTraces = false) (G : g_G) (w : xw_W) (a : Int32) : vx_Met l ny_S_checkNotNegative nw_S_checkNotNegative ({ frames := 6, cells := 1, slots := 6, locals := 82 }) (g_Pc G w [.int a]) (g_Qv G (fun w' => w' = w ∧ 0 ≤ a)) (g_X G (fun E w' => E = g_IAE ∧ w' = w ∧ ¬ 0 ≤ a)) 1 6 (xw_A (g_b G)) := by
  refine g_xmet (by decide) (Nat.le_of_ble_eq_true rfl) rfl ?_
  intro p e s m below meth c ls hx hb hr hts hown hlocks hne hml hl hK hB hw hS
  have hT : ∀ w ∈ nw_T, w.before _ s = true := fun w h => hts w (List.mem_cons_of_mem _ h)
  have hown : s.vm.findClass "RadixShelf" = some m.cls := hown
  have hl : lv_has ls 1 [(0, .int a)] := hl
  refine lv_iload_n hx hb nd_S_checkNotNegative_0 rfl (lv_at hl 0 rfl) ?_
  refine lv_if_ge (tgt := 14) hx hb nd_S_checkNotNegative_1 (by decide) (fun hc => ?_) (fun hc => ?_)
  · exact vx_ret (g_vret hx hb hr hlocks hw hS (⟨rfl, hc⟩) (by exact Nat.le_of_ble_eq_true rfl) (by exact Nat.le_of_ble_eq_true rfl) nd_S_checkNotNegative_14)
  · exact g_throw (cls := g_IAE) 3 hx hb hl9 hown hT hK hw hS (by rw [hml]; exact hl.1) (by decide +kernel) (i1 := 7) (b1 := Bundle.six) ⟨by decide +kernel, by decide +kernel, by decide +kernel, by decide +kernel⟩ nh_cl_S_108 nh_in_IAE (by decide) rfl (by decide +kernel) (by decide +kernel) (by decide +kernel) (by decide) nd_S_checkNotNegative_4 nd_S_checkNotNegative_7 nd_S_checkNotNegative_8 nd_S_checkNotNegative_10 nd_S_checkNotNegative_13 hne (by exact Nat.le_of_ble_eq_true rfl) (by exact Nat.le_of_ble_eq_true rfl) (by exact Nat.le_of_ble_eq_true rfl) (by exact Nat.le_of_ble_eq_true rfl) hlocks (⟨rfl, rfl, hc⟩) (by exact Nat.le_of_ble_eq_true rfl) (by exact Nat.le_of_ble_eq_true rfl)

set_option maxHeartbeats 4000000 in
set_option maxRecDepth 100000 in
theorem c_S_checkElement (l : Launch) (hl9 : l.stackTraces = false) (G : g_G) (w : xw_W) (q r t n : Nat) (st o i : Int32) (hq : w q = some (.inr (3, [.int st, .ref r, .ref t, .int o, .int (nI n)]))) : vx_Met l ny_S_checkElement nw_S_checkElement ({ frames := 6, cells := 1, slots := 6, locals := 82 }) (g_Pc G w [.ref q, .int i]) (g_Qv G (fun w' => w' = w ∧ 0 ≤ i ∧ i < nI n)) (g_X G (fun E w' => E = g_NSE ∧ w' = w ∧ ¬ (0 ≤ i ∧ i < nI n))) 1 6 (xw_A (g_b G)) := by
  refine g_xmet (by decide) (Nat.le_of_ble_eq_true rfl) rfl ?_
  intro p e s m below meth c ls hx hb hr hts hown hlocks hne hml hl hK hB hw hS
  have hT : ∀ w ∈ nw_T, w.before _ s = true := fun w h => hts w (List.mem_cons_of_mem _ h)
  have hown : s.vm.findClass "RadixShelf" = some m.cls := hown
  have hl : lv_has ls 2 [(0, .ref q), (1, .int i)] := hl
  refine lv_iload_n hx hb nd_S_checkElement_0 rfl (lv_at hl 1 rfl) ?_
  refine lv_if_lt (tgt := 12) hx hb nd_S_checkElement_1 (by decide) (fun hc => ?_) (fun hc => ?_)
  · exact g_throw (cls := g_NSE) 2 hx hb hl9 hown hT hK hw hS (by rw [hml]; exact hl.1) (by decide +kernel) (i1 := 13) (b1 := prog_16_method_4_code) ⟨by decide +kernel, by decide +kernel, by decide +kernel, by decide +kernel⟩ nh_cl_S_67 nh_in_NSE (by decide) rfl (by decide +kernel) (by decide +kernel) (by decide +kernel) (by decide) nd_S_checkElement_12 nd_S_checkElement_15 nd_S_checkElement_16 nd_S_checkElement_18 nd_S_checkElement_21 hne (by exact Nat.le_of_ble_eq_true rfl) (by exact Nat.le_of_ble_eq_true rfl) (by exact Nat.le_of_ble_eq_true rfl) (by exact Nat.le_of_ble_eq_true rfl) hlocks (⟨rfl, rfl, fun z => Int32.not_le.mpr hc z.1⟩) (by exact Nat.le_of_ble_eq_true rfl) (by exact Nat.le_of_ble_eq_true rfl)
  · refine lv_iload_n hx hb nd_S_checkElement_4 rfl (lv_at hl 1 rfl) ?_
    refine lv_aload_n hx hb nd_S_checkElement_5 rfl (lv_at hl 0 rfl) ?_
    refine xw_get (T := nT_Q) (N := 5) (ci := 3) hx hb hT nu_Q hown hK.1 hw hq rfl 4 (by decide) (hT _ nh_fl_S_46) (fun _ h9 => h9) rfl nd_S_checkElement_6 ?_
    refine lv_icmp_lt (tgt := 22) hx hb nd_S_checkElement_9 (by decide) (fun hc2 => ?_) (fun hc2 => ?_)
    · exact vx_ret (g_vret hx hb hr hlocks hw hS (⟨rfl, Int32.not_lt.mp hc, hc2⟩) (by exact Nat.le_of_ble_eq_true rfl) (by exact Nat.le_of_ble_eq_true rfl) nd_S_checkElement_22)
    · exact g_throw (cls := g_NSE) 2 hx hb hl9 hown hT hK hw hS (by rw [hml]; exact hl.1) (by decide +kernel) (i1 := 13) (b1 := prog_16_method_4_code) ⟨by decide +kernel, by decide +kernel, by decide +kernel, by decide +kernel⟩ nh_cl_S_67 nh_in_NSE (by decide) rfl (by decide +kernel) (by decide +kernel) (by decide +kernel) (by decide) nd_S_checkElement_12 nd_S_checkElement_15 nd_S_checkElement_16 nd_S_checkElement_18 nd_S_checkElement_21 hne (by exact Nat.le_of_ble_eq_true rfl) (by exact Nat.le_of_ble_eq_true rfl) (by exact Nat.le_of_ble_eq_true rfl) (by exact Nat.le_of_ble_eq_true rfl) hlocks (⟨rfl, rfl, fun z => hc2 z.2⟩) (by exact Nat.le_of_ble_eq_true rfl) (by exact Nat.le_of_ble_eq_true rfl)

set_option maxHeartbeats 4000000 in
set_option maxRecDepth 100000 in
theorem c_S_checkRoom (l : Launch) (hl9 : l.stackTraces = false) (G : g_G) (w : xw_W) (q r t n : Nat) (st o : Int32) (hq : w q = some (.inr (3, [.int st, .ref r, .ref t, .int o, .int (nI n)]))) : vx_Met l ny_S_checkRoom nw_S_checkRoom ({ frames := 6, cells := 1, slots := 6, locals := 82 }) (g_Pc G w [.ref q]) (g_Qv G (fun w' => w' = w ∧ nI n < 3000)) (g_X G (fun E w' => E = g_IOB ∧ w' = w ∧ ¬ nI n < 3000)) 1 6 (xw_A (g_b G)) := by
  refine g_xmet (by decide) (Nat.le_of_ble_eq_true rfl) rfl ?_
  intro p e s m below meth c ls hx hb hr hts hown hlocks hne hml hl hK hB hw hS
  have hT : ∀ w ∈ nw_T, w.before _ s = true := fun w h => hts w (List.mem_cons_of_mem _ h)
  have hown : s.vm.findClass "RadixShelf" = some m.cls := hown
  have hl : lv_has ls 1 [(0, .ref q)] := hl
  refine lv_aload_n hx hb nd_S_checkRoom_0 rfl (lv_at hl 0 rfl) ?_
  refine xw_get (T := nT_Q) (N := 5) (ci := 3) hx hb hT nu_Q hown hK.1 hw hq rfl 4 (by decide) (hT _ nh_fl_S_46) (fun _ h9 => h9) rfl nd_S_checkRoom_1 ?_
  refine lv_sipush (v := 3000) hx hb nd_S_checkRoom_4 (by decide) ?_
  refine lv_icmp_lt (tgt := 20) hx hb nd_S_checkRoom_7 (by decide) (fun hc => ?_) (fun hc => ?_)
  · exact vx_ret (g_vret hx hb hr hlocks hw hS (⟨rfl, hc⟩) (by exact Nat.le_of_ble_eq_true rfl) (by exact Nat.le_of_ble_eq_true rfl) nd_S_checkRoom_20)
  · exact g_throw (cls := g_IOB) 1 hx hb hl9 hown hT hK hw hS (by rw [hml]; exact hl.1) (by decide +kernel) (i1 := 7) (b1 := Bundle.six) ⟨by decide +kernel, by decide +kernel, by decide +kernel, by decide +kernel⟩ nh_cl_S_117 nh_in_IOB (by decide) rfl (by decide +kernel) (by decide +kernel) (by decide +kernel) (by decide) nd_S_checkRoom_10 nd_S_checkRoom_13 nd_S_checkRoom_14 nd_S_checkRoom_16 nd_S_checkRoom_19 hne (by exact Nat.le_of_ble_eq_true rfl) (by exact Nat.le_of_ble_eq_true rfl) (by exact Nat.le_of_ble_eq_true rfl) (by exact Nat.le_of_ble_eq_true rfl) hlocks (⟨rfl, rfl, hc⟩) (by exact Nat.le_of_ble_eq_true rfl) (by exact Nat.le_of_ble_eq_true rfl)

set_option maxHeartbeats 4000000 in
set_option maxRecDepth 100000 in
theorem c_S_presentBuilder (l : Launch) (G : g_G) (w : xw_W) (h e0 sl qb : Nat) (ls0 : Int32) (hh : w h = some (.inr (4, [.ref e0, .ref sl, .ref qb, .int ls0]))) : Met l ny_S_presentBuilder nw_S_presentBuilder ({ frames := 0, cells := 0, slots := 0, locals := 0 }) (g_Pc G w [.ref h]) (g_Qr G (fun v w' => v = qb ∧ w' = w)) 0 0 (xw_A (g_b G)) := by
  refine g_met (by decide) (Nat.le_of_ble_eq_true rfl) rfl ?_
  intro p e s m below meth c ls hx hb hr hts hown hlocks hin hml hl hK hB hw hS
  have hT : ∀ w ∈ nw_T, w.before _ s = true := fun w h => hts w (List.mem_cons_of_mem _ h)
  have hown : s.vm.findClass "RadixShelf" = some m.cls := hown
  have hl : lv_has ls 1 [(0, .ref h)] := hl
  refine lv_aload_n hx hb nd_S_presentBuilder_0 rfl (lv_at hl 0 rfl) ?_
  refine xw_get (T := nT_S) (N := 4) (ci := 4) hx hb hT nu_S hown hK.1 hw hh rfl 2 (by decide) (hT _ nh_fl_S_23) (fun _ h9 => h9) rfl nd_S_presentBuilder_1 ?_
  refine lv_ifnonnull (tgt := 17) hx hb nd_S_presentBuilder_4 (by decide) ?_
  refine lv_aload_n hx hb nd_S_presentBuilder_17 rfl (lv_at hl 0 rfl) ?_
  refine xw_get (T := nT_S) (N := 4) (ci := 4) hx hb hT nu_S hown hK.1 hw hh rfl 2 (by decide) (hT _ nh_fl_S_23) (fun _ h9 => h9) rfl nd_S_presentBuilder_18 ?_
  exact g_aret hx hb hr hlocks hw hS (⟨rfl, rfl⟩) (by exact Nat.le_of_ble_eq_true rfl) (by exact Nat.le_of_ble_eq_true rfl) nd_S_presentBuilder_21

set_option maxHeartbeats 4000000 in
set_option maxRecDepth 100000 in
theorem c_S_presentBuilderN (l : Launch) (hl9 : l.stackTraces = false) (G : g_G) (w : xw_W) (h e0 sl : Nat) (ls0 : Int32) (hh : w h = some (.inr (4, [.ref e0, .ref sl, .null, .int ls0]))) : vx_Met l ny_S_presentBuilder nw_S_presentBuilder ({ frames := 6, cells := 1, slots := 6, locals := 82 }) (g_Pc G w [.ref h]) (g_Qr G (fun _ _ => False)) (g_X G (fun E w' => E = g_ISE ∧ w' = w)) 1 6 (xw_A (g_b G)) := by
  refine g_xmet (by decide) (Nat.le_of_ble_eq_true rfl) rfl ?_
  intro p e s m below meth c ls hx hb hr hts hown hlocks hne hml hl hK hB hw hS
  have hT : ∀ w ∈ nw_T, w.before _ s = true := fun w h => hts w (List.mem_cons_of_mem _ h)
  have hown : s.vm.findClass "RadixShelf" = some m.cls := hown
  have hl : lv_has ls 1 [(0, .ref h)] := hl
  refine lv_aload_n hx hb nd_S_presentBuilder_0 rfl (lv_at hl 0 rfl) ?_
  refine xw_get (T := nT_S) (N := 4) (ci := 4) hx hb hT nu_S hown hK.1 hw hh rfl 2 (by decide) (hT _ nh_fl_S_23) (fun _ h9 => h9) rfl nd_S_presentBuilder_1 ?_
  refine lv_ifnonnullN hx hb nd_S_presentBuilder_4 ?_
  exact g_throw (cls := g_ISE) 6 hx hb hl9 hown hT hK hw hS (by rw [hml]; exact hl.1) (by decide +kernel) (i1 := 7) (b1 := Bundle.six) ⟨by decide +kernel, by decide +kernel, by decide +kernel, by decide +kernel⟩ nh_cl_S_84 nh_in_ISE (by decide) rfl (by decide +kernel) (by decide +kernel) (by decide +kernel) (by decide) nd_S_presentBuilder_7 nd_S_presentBuilder_10 nd_S_presentBuilder_11 nd_S_presentBuilder_13 nd_S_presentBuilder_16 hne (by exact Nat.le_of_ble_eq_true rfl) (by exact Nat.le_of_ble_eq_true rfl) (by exact Nat.le_of_ble_eq_true rfl) (by exact Nat.le_of_ble_eq_true rfl) hlocks (⟨rfl, rfl⟩) (by exact Nat.le_of_ble_eq_true rfl) (by exact Nat.le_of_ble_eq_true rfl)

set_option maxHeartbeats 4000000 in
set_option maxRecDepth 100000 in
theorem c_S_draftOf (l : Launch) (G : g_G) (w : xw_W) (h e0 sl L q r t : Nat) (bo : Option Nat) (st o n : Int32) (hh : w h = some (.inr (4, [.ref e0, .ref sl, va_rf bo, .int (nI L)]))) (hq : w q = some (.inr (3, [.int st, .ref r, .ref t, .int o, .int n]))) : Met l ny_S_draftOf nw_S_draftOf ({ frames := 2, cells := 1, slots := 5, locals := 37 }) (g_Pc G w [.ref h, .ref q]) (g_Qr G (fun qn w' => w qn = none ∧ w' = va_up (va_up w h (some (.inr (4, [.ref e0, .ref sl, va_rf bo, .int (nI (L + 1))])))) qn (some (.inr (3, [.int (nI (L + 1)), .ref r, .ref t, .int o, .int n]))))) 1 5 (xw_A (g_b G)) := by
  refine g_met (by decide) (Nat.le_of_ble_eq_true rfl) rfl ?_
  intro p e s m below meth c ls hx hb hr hts hown hlocks hin hml hl hK hB hw hS
  have hT : ∀ w ∈ nw_T, w.before _ s = true := fun w h => hts w (List.mem_cons_of_mem _ h)
  have hown : s.vm.findClass "RadixShelf" = some m.cls := hown
  have hl : lv_has ls 2 [(0, .ref h), (1, .ref q)] := hl
  refine lv_aload_n hx hb nd_S_draftOf_0 rfl (lv_at hl 0 rfl) ?_
  refine lv_dup hx hb nd_S_draftOf_1 rfl ?_
  refine xw_get (T := nT_S) (N := 4) (ci := 4) hx hb hT nu_S hown hK.1 hw hh rfl 3 (by decide) (hT _ nh_fl_S_26) (fun _ h9 => h9) rfl nd_S_draftOf_2 ?_
  refine lv_iconst (v := 1) hx hb nd_S_draftOf_5 (by decide) ?_
  refine lv_iadd hx hb nd_S_draftOf_6 ?_
  refine lv_topi (fun y1 ey2 => ?_)
  obtain rfl : y1 = nI (L + 1) := ey2.trans (nI_1 L)
  refine xw_put (T := nT_S) (N := 4) (ci := 4) (v := .int (nI (L + 1))) (ty := .int) hx hb hT nu_S nt_S nk_S nn_S hown hK.1 hB hw hS hh rfl 3 (by decide) (hT _ nh_fl_S_26) (fun _ h9 => h9) rfl (by decide +kernel) rfl rfl (Nat.le_of_ble_eq_true rfl) nd_S_draftOf_7 (fun H locs hw hS => ?_)
  obtain ⟨w3, ew4⟩ : ∃ z, z = va_up w h (some (.inr (4, [.ref e0, .ref sl, va_rf bo, .int (nI (L + 1))]))) := ⟨_, rfl⟩
  have hw : g_P G w3 H := by rw [ew4]; exact hw
  have hq : w3 q = some (.inr (3, [.int st, .ref r, .ref t, .int o, .int n])) := by rw [ew4, va_up_ne _ _ (xw_ne hq hh (by simp))]; exact hq
  have hh : w3 h = some (.inr (4, [.ref e0, .ref sl, va_rf bo, .int (nI (L + 1))])) := by rw [ew4]; exact va_up_self _ _ _
  refine xw_new (T := nT_Q) (N := 5) (ci := 3) (fs := [.int 0, .null, .null, .int 0, .int 0]) hx hb hT nu_Q nt_Q nk_Q hown (hT _ nh_cl_S_17) (hT _ nh_is_Q) (hT _ nh_in_Q) hK.1 hB hw hS rfl (fun j hj => by rcases (show j = 0 ∨ j = 1 ∨ j = 2 ∨ j = 3 ∨ j = 4 by omega) with rfl | rfl | rfl | rfl | rfl <;> rfl) (by exact Nat.le_of_ble_eq_true rfl) (by exact Nat.le_of_ble_eq_true rfl) nd_S_draftOf_10 (fun qn H hn_qn hw hS => ?_)
  obtain ⟨w5, ew6⟩ : ∃ z, z = va_up w3 qn (some (.inr (3, [.int 0, .null, .null, .int 0, .int 0]))) := ⟨_, rfl⟩
  have hw : g_P G w5 H := by rw [ew6]; exact hw
  have hh : w5 h = some (.inr (4, [.ref e0, .ref sl, va_rf bo, .int (nI (L + 1))])) := by rw [ew6, va_up_ne _ _ (xw_nn hh hn_qn)]; exact hh
  have hq : w5 q = some (.inr (3, [.int st, .ref r, .ref t, .int o, .int n])) := by rw [ew6, va_up_ne _ _ (xw_nn hq hn_qn)]; exact hq
  have h_qn : w5 qn = some (.inr (3, [.int 0, .null, .null, .int 0, .int 0])) := by rw [ew6]; exact va_up_self _ _ _
  refine lv_dup hx hb nd_S_draftOf_13 rfl ?_
  refine lv_aload_n hx hb nd_S_draftOf_14 rfl (lv_at hl 0 rfl) ?_
  refine xw_get (T := nT_S) (N := 4) (ci := 4) hx hb hT nu_S hown hK.1 hw hh rfl 3 (by decide) (hT _ nh_fl_S_26) (fun _ h9 => h9) rfl nd_S_draftOf_15 ?_
  refine lv_aload_n hx hb nd_S_draftOf_18 rfl (lv_at hl 1 rfl) ?_
  refine xw_get (T := nT_Q) (N := 5) (ci := 3) hx hb hT nu_Q hown hK.1 hw hq rfl 1 (by decide) (hT _ nh_fl_S_94) (fun _ h9 => h9) rfl nd_S_draftOf_19 ?_
  refine lv_aload_n hx hb nd_S_draftOf_22 rfl (lv_at hl 1 rfl) ?_
  refine xw_get (T := nT_Q) (N := 5) (ci := 3) hx hb hT nu_Q hown hK.1 hw hq rfl 2 (by decide) (hT _ nh_fl_S_98) (fun _ h9 => h9) rfl nd_S_draftOf_23 ?_
  refine lv_aload_n hx hb nd_S_draftOf_26 rfl (lv_at hl 1 rfl) ?_
  refine xw_get (T := nT_Q) (N := 5) (ci := 3) hx hb hT nu_Q hown hK.1 hw hq rfl 3 (by decide) (hT _ nh_fl_S_102) (fun _ h9 => h9) rfl nd_S_draftOf_27 ?_
  refine lv_aload_n hx hb nd_S_draftOf_30 rfl (lv_at hl 1 rfl) ?_
  refine xw_get (T := nT_Q) (N := 5) (ci := 3) hx hb hT nu_Q hown hK.1 hw hq rfl 4 (by decide) (hT _ nh_fl_S_46) (fun _ h9 => h9) rfl nd_S_draftOf_31 ?_
  refine g_callv (va_runI (As := [.int (nI (L + 1)), .ref r, .ref t, .int o, .int n]) (rest := [.ref qn]) ⟨hx, hb, hml, hown, hts⟩ (c_Q_init l G w5 qn r t (nI (L + 1)) o n h_qn) (cwI 5 hts (nw_of (nw_0 nh_co_Q_init)) rfl rfl rfl (hT _ nh_in_Q) (hT _ nh_ml_S_105) (hT _ nh_im_Q_init) rfl (by decide +kernel) ⟨Nat.le_of_ble_eq_true rfl, Nat.le_of_ble_eq_true rfl⟩) (g_preS hK hw hS _) rfl rfl hl.1 rfl (lv_room (Nat.le_of_ble_eq_true rfl)) nd_S_draftOf_34 ⟨by exact Nat.le_of_ble_eq_true rfl, by exact Nat.le_of_ble_eq_true rfl⟩) hS (fun w7 H locs hp hw hS => ?_)
  have hfr : w qn = none := by
    have h9 := hn_qn
    rw [ew4, va_up_ne _ _ (fun z => ?_)] at h9
    · exact h9
    · rw [z, ew4, va_up_self] at hn_qn
      cases hn_qn
  exact g_aret hx hb hr hlocks hw hS (⟨hfr, by rw [hp, ew6, ew4, bx_uu]⟩) (by exact Nat.le_of_ble_eq_true rfl) (by exact Nat.le_of_ble_eq_true rfl) nd_S_draftOf_37
