/-! The law's own methods: each call in its try. -/
/-- the head of a contract with a table -/
theorem g_wmet {l : Launch} {y : MethodName} {ws' : List Cond} {rm : Room} {G : g_G} {w : xw_W} {av : List Value} {Qc : Array Value → State → Outcome → State → Prop} {mc ms : Nat} {cc : ByteArray} {maxL : Nat} {ret : Option FieldType} {hh : List (Nat × Nat × Nat × Nat)} {lv : List (Nat × Value)}
    (hy : plainName y.cls = true) (hlen : (lg_sl av).length ≤ maxL) (hlv : lv_args 0 av = lv)
    (body : ∀ (p : Program) (e : Env) (s : State) (m : MethodId) (below : List Frame) (meth : Method) (c : Code) (ls : Array Slot), p.tables.exec = Jvm.exec → c.code = cc → meth.sig.returnType = ret → (∀ w ∈ Cond.codeWith y cc maxL ret hh :: ws', w.before av.toArray s = true) → s.vm.findClass y.cls = some m.cls → meth.locks = false → c.exceptionTable.toList = tableOf hh → c.maxLocals = maxL → lv_has ls maxL lv →
      g_K G s → g_b G ≤ s.heap.size → g_P G w s.heap → g_S G s.heap s.heap [] → W p l e rm s m av.toArray below meth c s.heap [] 0 0 (MQ below Qc av.toArray s mc ms (xw_A (g_b G))) (F0 m 0 ls [])) :
    Met l y (Cond.codeWith y cc maxL ret hh :: ws') rm (g_Pc G w av) Qc mc ms (xw_A (g_b G)) := by
  refine va_MetW (cc := cc) (maxL := maxL) (ret := ret) (hh := hh) hy rfl ?_
  intro p e s m args below meth c s₁ B hml hv
  obtain ⟨rfl, hW, hK⟩ := hv
  have hl := lv_entry av (n := maxL) hlen
  rw [lg_entry_eq]
  generalize (lg_sl av ++ List.replicate (maxL - (lg_sl av).length) Slot.unset).toArray = ls at hl ⊢
  rw [hlv] at hl
  have hts := atoms_spec (ws := _) B.pre
  exact body p e s m below meth c ls B.exec B.bytes B.returns hts (findClass_of_methodNamed B.named) B.notSynchronized (vx_table (x := y) B (hts _ List.mem_cons_self)) hml hl hK hW.1 hW va_S.rf
theorem sh_S.mono {G : g_G} {w : xw_W} {h e0 sl K K' : Nat} {S : sp_S} (hS : sh_S G w h e0 sl S K) (hk : K ≤ K') : sh_S G w h e0 sl S K' := by
  obtain ⟨L, bd, g, hL, hI⟩ := hS
  exact ⟨L, bd, g, by omega, hI⟩
abbrev la_o (G : g_G) (f : Nat → Int64) : va_E := .inl (G.2.1 0, 1, .inr (.inl f))
def la_P (G : g_G) (w : xw_W) (h e0 sl out K : Nat) (R : sp_R) (k : Int32) (w' : xw_W) : Prop := k = nI R.1 ∧ sh_S G w' h e0 sl R.2.2 (K + 1) ∧ (∃ fo, w' out = some (la_o G fo) ∧ (R.1 = 0 → fo 0 = R.2.1)) ∧ ∀ a, sh_O w h sl a → sh_O w' h sl a ∧ (a ≠ out → w' a = w a)
theorem la_no {G : g_G} {w : xw_W} {h e0 sl out K k : Nat} {S : sp_S} {R : sp_R} {fo : Nat → Int64} (hSt : sh_S G w h e0 sl S K) (ho : w out = some (la_o G fo)) (hR : R = (k + 1, 0, S)) : la_P G w h e0 sl out K R (nI (k + 1)) w := by
  rw [hR]
  exact ⟨rfl, hSt.mono (by omega), ⟨fo, ho, fun z => absurd z (by show ¬ k + 1 = 0; omega)⟩, fun a ha => ⟨ha, fun _ => rfl⟩⟩
theorem sh_putO {G : g_G} {w w2 : xw_W} {h e0 sl out K : Nat} {S : sp_S} {e1 e2 : ClassId × vp_A} (hSt : sh_S G w h e0 sl S K) (hO : sh_O w h sl out) (ho : w out = some (.inl e1)) (e : w2 = va_up w out (some (.inl e2))) : sh_S G w2 h e0 sl S K ∧ ∀ a, sh_O w h sl a → sh_O w2 h sl a ∧ (a ≠ out → w2 a = w a) := by
  obtain ⟨L, bd, g, hL, hI⟩ := hSt
  have hk : ∀ a, w2 a ≠ w a → a = out := fun a ha => Classical.byContradiction (fun z => ha (by rw [e, va_up_ne _ _ z]))
  obtain ⟨hI2, hO2⟩ := sh_stays (w2 := w2) hI (fun a ha => by
    rw [hk a ha]
    refine ⟨hO, fun k hn => ?_⟩
    obtain ⟨-, s, x, hx⟩ := hn
    rw [ho] at hx
    cases hx) (fun k m hm => by rw [e] at hm ⊢; exact (tr_st_node hm).2.2)
  refine ⟨⟨L, bd, g, hL, hI2⟩, fun a ha => ⟨hO2 a ha ?_, fun hne => by rw [e, va_up_ne _ _ hne]⟩⟩
  by_cases z : a = out
  · exact ⟨.inl e2, by rw [z, e, va_up_self], fun l z9 => by cases z9⟩
  · obtain ⟨⟨x, hx, hl⟩, -⟩ := ha
    exact ⟨x, by rw [e, va_up_ne _ _ z]; exact hx, hl⟩
theorem la_yes {G : g_G} {w w1 w2 : xw_W} {h e0 sl out K : Nat} {S : sp_S} {R : sp_R} {fo : Nat → Int64} {x : Int64} (hO : sh_O w h sl out) (ho : w out = some (la_o G fo)) (hp : sh_Post G w h e0 sl K R x w1) (e : w2 = va_up w1 out (some (la_o G (vp_updL fo 0 x)))) : la_P G w h e0 sl out K R 0 w2 := by
  obtain ⟨h0, hx, hS, hF⟩ := hp
  obtain ⟨e1, o1⟩ := hF out hO
  obtain ⟨hS2, hO2⟩ := sh_putO hS o1 (e1.trans ho) e
  refine ⟨by rw [h0]; exact nI_0.symm, hS2, ⟨_, by rw [e]; exact va_up_self _ _ _, fun _ => by rw [← hx]; exact pk_uLs⟩, fun a ha => ?_⟩
  obtain ⟨e3, o3⟩ := hF a ha
  obtain ⟨o4, e4⟩ := hO2 a o3
  exact ⟨o4, fun hne => (e4 hne).trans e3⟩
def lo_P (G : g_G) (w : xw_W) (h e0 sl K : Nat) (R : sp_R) (k : Int32) (w' : xw_W) : Prop := k = nI R.1 ∧ sh_S G w' h e0 sl R.2.2 (K + 1) ∧ ∀ a, sh_O w h sl a → sh_O w' h sl a ∧ w' a = w a
theorem lo_no {G : g_G} {w : xw_W} {h e0 sl K k : Nat} {S : sp_S} {R : sp_R} (hSt : sh_S G w h e0 sl S K) (hR : R = (k + 1, 0, S)) : lo_P G w h e0 sl K R (nI (k + 1)) w := by
  rw [hR]
  exact ⟨rfl, hSt.mono (by omega), fun a ha => ⟨ha, rfl⟩⟩
theorem lo_yes {G : g_G} {w w1 : xw_W} {h e0 sl K : Nat} {R : sp_R} {x : Int64} (hp : sh_Post G w h e0 sl K R x w1) : lo_P G w h e0 sl K R 0 w1 := by
  obtain ⟨h0, hx, hS, hF⟩ := hp
  exact ⟨by rw [h0]; exact nI_0.symm, hS, fun a ha => ⟨(hF a ha).2, (hF a ha).1⟩⟩

set_option maxHeartbeats 4000000 in
set_option maxRecDepth 100000 in
theorem c_L_add (l : Launch) (hl9 : l.stackTraces = false) (G : g_G) (w : xw_W) (h e0 sl K : Nat) (S : sp_S) (hSt : sh_S G w h e0 sl S K) (hK9 : K + 1 < 2 ^ 31) (out : Nat) (fo : Nat → Int64) (hO : sh_O w h sl out) (ho : w out = some (la_o G fo)) (a b : Int32) (v : Int64) : Met l ny_L_add nw_L_add ({ frames := 9, cells := 16, slots := 200, locals := 200 }) (g_Pc G w [.ref h, .int a, .int b, .long v, .ref out]) (g_Qi G (fun k8 w' => la_P G w h e0 sl out K (sp_add S a b v) k8 w')) 16 200 (xw_A (g_b G)) := by
  refine g_wmet (by decide) (Nat.le_of_ble_eq_true rfl) rfl ?_
  intro p e s m below meth c ls hx hb hr hts hown hlocks htab hml hl hK hB hw hS
  have hT : ∀ w ∈ nw_T, w.before _ s = true := fun w h => hts w (List.mem_cons_of_mem _ h)
  have hown : s.vm.findClass "RadixShelfLaw" = some m.cls := hown
  have hl : lv_has ls 7 [(0, .ref h), (1, .int a), (2, .int b), (3, .long v), (5, .ref out)] := hl
  obtain ⟨L, bd, g, hLK, hI⟩ := id hSt
  have hh := hI.1
  refine lv_aload hx hb nd_L_add_0 (lv_at hl 4 rfl) ?_
  refine lv_iconst (v := 0) hx hb nd_L_add_2 (by decide) ?_
  refine lv_aload_n hx hb nd_L_add_3 rfl (lv_at hl 0 rfl) ?_
  refine lv_iload_n hx hb nd_L_add_4 rfl (lv_at hl 1 rfl) ?_
  refine lv_iload_n hx hb nd_L_add_5 rfl (lv_at hl 2 rfl) ?_
  refine lv_lload_n hx hb nd_L_add_6 rfl (lv_at hl 3 rfl) ?_
  refine g_xcalli (vx_runV (As := [.int a, .int b, .long v]) (rest := [.int 0, .ref out]) ⟨hx, hb, hml, hown, hts⟩ (c_S_add l hl9 G w h e0 sl K S hSt hK9 a b v) (cwV (C := nR_S) 3 hts (nw_of (nw_4 nh_ml_L_7 nh_im_S_add nh_se_S_add nh_in_S nh_co_S_add)) rfl rfl rfl (by decide +kernel) ⟨Nat.le_of_ble_eq_true rfl, Nat.le_of_ble_eq_true rfl⟩) (g_preV (ci := 4) (q := (nR_S, nT_S, 4)) hK hw hS rfl hh _) rfl rfl hl.1 rfl (lv_room (Nat.le_of_ble_eq_true rfl)) nd_L_add_7 ⟨by exact Nat.le_of_ble_eq_true rfl, by exact Nat.le_of_ble_eq_true rfl⟩) hS (fun E ce q9 w1 H locs hthr hw hS h1 h2 h3 => ?_) (fun v9 w1 H locs hp hw hS => ?_)
  · obtain ⟨hw9, k9, hE, hR⟩ := hthr
    rw [hw9] at hw
    rcases k9 with _ | _ | k9
    · obtain rfl : g_IAE = E := Option.some.inj hE
      refine vx_catch hown [] (⟨0, 12, 15, 13⟩ : ExceptionTableEntry) [(⟨0, 12, 19, 15⟩ : ExceptionTableEntry)] htab (fun z hz => by cases hz) (by decide) (by decide) (hT _ nh_cl_L_13) (hK.2.2.1 (g_IAE, g_IAE) (by decide)) h1 h2 h3 ?_
      refine lv_astore hx hb nd_L_add_15 hl (by decide) (lv' := [(6, .ref q9), (0, .ref h), (1, .int a), (2, .int b), (3, .long v), (5, .ref out)]) rfl (fun ls hl => ?_)
      refine lv_iconst (v := 1) hx hb nd_L_add_17 (by decide) ?_
      exact g_iret hx hb hr hlocks hw hS (la_no hSt ho hR) (by exact Nat.le_of_ble_eq_true rfl) (by exact Nat.le_of_ble_eq_true rfl) nd_L_add_18
    · obtain rfl : g_IOB = E := Option.some.inj hE
      have hpass : ∀ z ∈ [(⟨0, 12, 15, 13⟩ : ExceptionTableEntry)], covers z 7 = false ∨ (z.catchType ≠ 0 ∧ ∃ nm : String, (Cond.classLink "RadixShelfLaw" z.catchType nm).before [.ref h, .int a, .int b, .long v, .ref out].toArray s = true ∧ va_Nc g_IOB nm s) := by
        intro z hz
        simp only [List.mem_cons, List.not_mem_nil, or_false] at hz
        rcases hz with rfl
        · exact Or.inr ⟨by decide, g_IAE, hT _ nh_cl_L_13, hK.2.2.2.1 (g_IOB, g_IAE) (by decide)⟩
      refine vx_catch hown [(⟨0, 12, 15, 13⟩ : ExceptionTableEntry)] (⟨0, 12, 19, 15⟩ : ExceptionTableEntry) [] htab hpass (by decide) (by decide) (hT _ nh_cl_L_15) (hK.2.2.1 (g_IOB, g_IOB) (by decide)) h1 h2 h3 ?_
      refine lv_astore hx hb nd_L_add_19 hl (by decide) (lv' := [(6, .ref q9), (0, .ref h), (1, .int a), (2, .int b), (3, .long v), (5, .ref out)]) rfl (fun ls hl => ?_)
      refine lv_iconst (v := 2) hx hb nd_L_add_21 (by decide) ?_
      exact g_iret hx hb hr hlocks hw hS (la_no hSt ho hR) (by exact Nat.le_of_ble_eq_true rfl) (by exact Nat.le_of_ble_eq_true rfl) nd_L_add_22
    · cases hE
  · have ho1 : w1 out = some (la_o G fo) := (hp.2.2.2 out hO).1.trans ho
    refine lv_i2l hx hb nd_L_add_10 rfl ?_
    refine xw_last hx hb hK.1 hB hw hS 0 ho1 rfl (by unfold vp_in; decide) nd_L_add_11 (fun H locs hw hS => ?_)
    obtain ⟨w2, ew3⟩ : ∃ z, z = va_up w1 out (some (la_o G (vp_updL fo 0 v9.toInt64))) := ⟨_, rfl⟩
    have hw : g_P G w2 H := by rw [ew3]; exact hw
    have ho1 : w2 out = some (la_o G (vp_updL fo 0 v9.toInt64)) := by rw [ew3]; exact va_up_self _ _ _
    refine lv_goto (tgt := 23) hx hb nd_L_add_12 (by decide) ?_
    refine lv_iconst (v := 0) hx hb nd_L_add_23 (by decide) ?_
    exact g_iret hx hb hr hlocks hw hS (la_yes (S := S) hO ho hp ew3) (by exact Nat.le_of_ble_eq_true rfl) (by exact Nat.le_of_ble_eq_true rfl) nd_L_add_24

set_option maxHeartbeats 4000000 in
set_option maxRecDepth 100000 in
theorem c_L_push (l : Launch) (hl9 : l.stackTraces = false) (G : g_G) (w : xw_W) (h e0 sl K : Nat) (S : sp_S) (hSt : sh_S G w h e0 sl S K) (hK9 : K + 1 < 2 ^ 31) (out : Nat) (fo : Nat → Int64) (hO : sh_O w h sl out) (ho : w out = some (la_o G fo)) (a b : Int32) (v : Int64) : Met l ny_L_push nw_L_push ({ frames := 9, cells := 16, slots := 200, locals := 200 }) (g_Pc G w [.ref h, .int a, .int b, .long v, .ref out]) (g_Qi G (fun k8 w' => la_P G w h e0 sl out K (sp_push S a b v) k8 w')) 16 200 (xw_A (g_b G)) := by
  refine g_wmet (by decide) (Nat.le_of_ble_eq_true rfl) rfl ?_
  intro p e s m below meth c ls hx hb hr hts hown hlocks htab hml hl hK hB hw hS
  have hT : ∀ w ∈ nw_T, w.before _ s = true := fun w h => hts w (List.mem_cons_of_mem _ h)
  have hown : s.vm.findClass "RadixShelfLaw" = some m.cls := hown
  have hl : lv_has ls 7 [(0, .ref h), (1, .int a), (2, .int b), (3, .long v), (5, .ref out)] := hl
  obtain ⟨L, bd, g, hLK, hI⟩ := id hSt
  have hh := hI.1
  refine lv_aload hx hb nd_L_push_0 (lv_at hl 4 rfl) ?_
  refine lv_iconst (v := 0) hx hb nd_L_push_2 (by decide) ?_
  refine lv_aload_n hx hb nd_L_push_3 rfl (lv_at hl 0 rfl) ?_
  refine lv_iload_n hx hb nd_L_push_4 rfl (lv_at hl 1 rfl) ?_
  refine lv_iload_n hx hb nd_L_push_5 rfl (lv_at hl 2 rfl) ?_
  refine lv_lload_n hx hb nd_L_push_6 rfl (lv_at hl 3 rfl) ?_
  refine g_xcalli (vx_runV (As := [.int a, .int b, .long v]) (rest := [.int 0, .ref out]) ⟨hx, hb, hml, hown, hts⟩ (c_S_push l hl9 G w h e0 sl K S hSt hK9 a b v) (cwV (C := nR_S) 3 hts (nw_of (nw_4 nh_ml_L_17 nh_im_S_push nh_se_S_push nh_in_S nh_co_S_push)) rfl rfl rfl (by decide +kernel) ⟨Nat.le_of_ble_eq_true rfl, Nat.le_of_ble_eq_true rfl⟩) (g_preV (ci := 4) (q := (nR_S, nT_S, 4)) hK hw hS rfl hh _) rfl rfl hl.1 rfl (lv_room (Nat.le_of_ble_eq_true rfl)) nd_L_push_7 ⟨by exact Nat.le_of_ble_eq_true rfl, by exact Nat.le_of_ble_eq_true rfl⟩) hS (fun E ce q9 w1 H locs hthr hw hS h1 h2 h3 => ?_) (fun v9 w1 H locs hp hw hS => ?_)
  · obtain ⟨hw9, k9, hE, hR⟩ := hthr
    rw [hw9] at hw
    rcases k9 with _ | _ | k9
    · obtain rfl : g_IAE = E := Option.some.inj hE
      refine vx_catch hown [] (⟨0, 12, 15, 13⟩ : ExceptionTableEntry) [(⟨0, 12, 19, 15⟩ : ExceptionTableEntry)] htab (fun z hz => by cases hz) (by decide) (by decide) (hT _ nh_cl_L_13) (hK.2.2.1 (g_IAE, g_IAE) (by decide)) h1 h2 h3 ?_
      refine lv_astore hx hb nd_L_push_15 hl (by decide) (lv' := [(6, .ref q9), (0, .ref h), (1, .int a), (2, .int b), (3, .long v), (5, .ref out)]) rfl (fun ls hl => ?_)
      refine lv_iconst (v := 1) hx hb nd_L_push_17 (by decide) ?_
      exact g_iret hx hb hr hlocks hw hS (la_no hSt ho hR) (by exact Nat.le_of_ble_eq_true rfl) (by exact Nat.le_of_ble_eq_true rfl) nd_L_push_18
    · obtain rfl : g_IOB = E := Option.some.inj hE
      have hpass : ∀ z ∈ [(⟨0, 12, 15, 13⟩ : ExceptionTableEntry)], covers z 7 = false ∨ (z.catchType ≠ 0 ∧ ∃ nm : String, (Cond.classLink "RadixShelfLaw" z.catchType nm).before [.ref h, .int a, .int b, .long v, .ref out].toArray s = true ∧ va_Nc g_IOB nm s) := by
        intro z hz
        simp only [List.mem_cons, List.not_mem_nil, or_false] at hz
        rcases hz with rfl
        · exact Or.inr ⟨by decide, g_IAE, hT _ nh_cl_L_13, hK.2.2.2.1 (g_IOB, g_IAE) (by decide)⟩
      refine vx_catch hown [(⟨0, 12, 15, 13⟩ : ExceptionTableEntry)] (⟨0, 12, 19, 15⟩ : ExceptionTableEntry) [] htab hpass (by decide) (by decide) (hT _ nh_cl_L_15) (hK.2.2.1 (g_IOB, g_IOB) (by decide)) h1 h2 h3 ?_
      refine lv_astore hx hb nd_L_push_19 hl (by decide) (lv' := [(6, .ref q9), (0, .ref h), (1, .int a), (2, .int b), (3, .long v), (5, .ref out)]) rfl (fun ls hl => ?_)
      refine lv_iconst (v := 2) hx hb nd_L_push_21 (by decide) ?_
      exact g_iret hx hb hr hlocks hw hS (la_no hSt ho hR) (by exact Nat.le_of_ble_eq_true rfl) (by exact Nat.le_of_ble_eq_true rfl) nd_L_push_22
    · cases hE
  · have ho1 : w1 out = some (la_o G fo) := (hp.2.2.2 out hO).1.trans ho
    refine lv_i2l hx hb nd_L_push_10 rfl ?_
    refine xw_last hx hb hK.1 hB hw hS 0 ho1 rfl (by unfold vp_in; decide) nd_L_push_11 (fun H locs hw hS => ?_)
    obtain ⟨w2, ew3⟩ : ∃ z, z = va_up w1 out (some (la_o G (vp_updL fo 0 v9.toInt64))) := ⟨_, rfl⟩
    have hw : g_P G w2 H := by rw [ew3]; exact hw
    have ho1 : w2 out = some (la_o G (vp_updL fo 0 v9.toInt64)) := by rw [ew3]; exact va_up_self _ _ _
    refine lv_goto (tgt := 23) hx hb nd_L_push_12 (by decide) ?_
    refine lv_iconst (v := 0) hx hb nd_L_push_23 (by decide) ?_
    exact g_iret hx hb hr hlocks hw hS (la_yes (S := S) hO ho hp ew3) (by exact Nat.le_of_ble_eq_true rfl) (by exact Nat.le_of_ble_eq_true rfl) nd_L_push_24

set_option maxHeartbeats 4000000 in
set_option maxRecDepth 100000 in
theorem c_L_set (l : Launch) (hl9 : l.stackTraces = false) (G : g_G) (w : xw_W) (h e0 sl K : Nat) (S : sp_S) (hSt : sh_S G w h e0 sl S K) (hK9 : K + 1 < 2 ^ 31) (out : Nat) (fo : Nat → Int64) (hO : sh_O w h sl out) (ho : w out = some (la_o G fo)) (a b k : Int32) (v : Int64) : Met l ny_L_set nw_L_set ({ frames := 9, cells := 16, slots := 200, locals := 200 }) (g_Pc G w [.ref h, .int a, .int b, .int k, .long v, .ref out]) (g_Qi G (fun k8 w' => la_P G w h e0 sl out K (sp_set S a b k v) k8 w')) 16 200 (xw_A (g_b G)) := by
  refine g_wmet (by decide) (Nat.le_of_ble_eq_true rfl) rfl ?_
  intro p e s m below meth c ls hx hb hr hts hown hlocks htab hml hl hK hB hw hS
  have hT : ∀ w ∈ nw_T, w.before _ s = true := fun w h => hts w (List.mem_cons_of_mem _ h)
  have hown : s.vm.findClass "RadixShelfLaw" = some m.cls := hown
  have hl : lv_has ls 8 [(0, .ref h), (1, .int a), (2, .int b), (3, .int k), (4, .long v), (6, .ref out)] := hl
  obtain ⟨L, bd, g, hLK, hI⟩ := id hSt
  have hh := hI.1
  refine lv_aload hx hb nd_L_set_0 (lv_at hl 5 rfl) ?_
  refine lv_iconst (v := 0) hx hb nd_L_set_2 (by decide) ?_
  refine lv_aload_n hx hb nd_L_set_3 rfl (lv_at hl 0 rfl) ?_
  refine lv_iload_n hx hb nd_L_set_4 rfl (lv_at hl 1 rfl) ?_
  refine lv_iload_n hx hb nd_L_set_5 rfl (lv_at hl 2 rfl) ?_
  refine lv_iload_n hx hb nd_L_set_6 rfl (lv_at hl 3 rfl) ?_
  refine lv_lload hx hb nd_L_set_7 (lv_at hl 4 rfl) ?_
  refine g_xcalll (vx_runV (As := [.int a, .int b, .int k, .long v]) (rest := [.int 0, .ref out]) ⟨hx, hb, hml, hown, hts⟩ (c_S_set l hl9 G w h e0 sl K S hSt hK9 a b k v) (cwV (C := nR_S) 4 hts (nw_of (nw_4 nh_ml_L_20 nh_im_S_set nh_se_S_set nh_in_S nh_co_S_set)) rfl rfl rfl (by decide +kernel) ⟨Nat.le_of_ble_eq_true rfl, Nat.le_of_ble_eq_true rfl⟩) (g_preV (ci := 4) (q := (nR_S, nT_S, 4)) hK hw hS rfl hh _) rfl rfl hl.1 rfl (lv_room (Nat.le_of_ble_eq_true rfl)) nd_L_set_9 ⟨by exact Nat.le_of_ble_eq_true rfl, by exact Nat.le_of_ble_eq_true rfl⟩) hS (fun E ce q9 w1 H locs hthr hw hS h1 h2 h3 => ?_) (fun v9 w1 H locs hp hw hS => ?_)
  · obtain ⟨hw9, k9, hE, hR⟩ := hthr
    rw [hw9] at hw
    rcases k9 with _ | _ | k9
    · obtain rfl : g_IAE = E := Option.some.inj hE
      refine vx_catch hown [] (⟨0, 13, 16, 13⟩ : ExceptionTableEntry) [(⟨0, 13, 20, 24⟩ : ExceptionTableEntry)] htab (fun z hz => by cases hz) (by decide) (by decide) (hT _ nh_cl_L_13) (hK.2.2.1 (g_IAE, g_IAE) (by decide)) h1 h2 h3 ?_
      refine lv_astore hx hb nd_L_set_16 hl (by decide) (lv' := [(7, .ref q9), (0, .ref h), (1, .int a), (2, .int b), (3, .int k), (4, .long v), (6, .ref out)]) rfl (fun ls hl => ?_)
      refine lv_iconst (v := 1) hx hb nd_L_set_18 (by decide) ?_
      exact g_iret hx hb hr hlocks hw hS (la_no hSt ho hR) (by exact Nat.le_of_ble_eq_true rfl) (by exact Nat.le_of_ble_eq_true rfl) nd_L_set_19
    · obtain rfl : g_NSE = E := Option.some.inj hE
      have hpass : ∀ z ∈ [(⟨0, 13, 16, 13⟩ : ExceptionTableEntry)], covers z 9 = false ∨ (z.catchType ≠ 0 ∧ ∃ nm : String, (Cond.classLink "RadixShelfLaw" z.catchType nm).before [.ref h, .int a, .int b, .int k, .long v, .ref out].toArray s = true ∧ va_Nc g_NSE nm s) := by
        intro z hz
        simp only [List.mem_cons, List.not_mem_nil, or_false] at hz
        rcases hz with rfl
        · exact Or.inr ⟨by decide, g_IAE, hT _ nh_cl_L_13, hK.2.2.2.1 (g_NSE, g_IAE) (by decide)⟩
      refine vx_catch hown [(⟨0, 13, 16, 13⟩ : ExceptionTableEntry)] (⟨0, 13, 20, 24⟩ : ExceptionTableEntry) [] htab hpass (by decide) (by decide) (hT _ nh_cl_L_24) (hK.2.2.1 (g_NSE, g_NSE) (by decide)) h1 h2 h3 ?_
      refine lv_astore hx hb nd_L_set_20 hl (by decide) (lv' := [(7, .ref q9), (0, .ref h), (1, .int a), (2, .int b), (3, .int k), (4, .long v), (6, .ref out)]) rfl (fun ls hl => ?_)
      refine lv_iconst (v := 2) hx hb nd_L_set_22 (by decide) ?_
      exact g_iret hx hb hr hlocks hw hS (la_no hSt ho hR) (by exact Nat.le_of_ble_eq_true rfl) (by exact Nat.le_of_ble_eq_true rfl) nd_L_set_23
    · cases hE
  · have ho1 : w1 out = some (la_o G fo) := (hp.2.2.2 out hO).1.trans ho
    refine xw_last hx hb hK.1 hB hw hS 0 ho1 rfl (by unfold vp_in; decide) nd_L_set_12 (fun H locs hw hS => ?_)
    obtain ⟨w2, ew3⟩ : ∃ z, z = va_up w1 out (some (la_o G (vp_updL fo 0 v9))) := ⟨_, rfl⟩
    have hw : g_P G w2 H := by rw [ew3]; exact hw
    have ho1 : w2 out = some (la_o G (vp_updL fo 0 v9)) := by rw [ew3]; exact va_up_self _ _ _
    refine lv_goto (tgt := 24) hx hb nd_L_set_13 (by decide) ?_
    refine lv_iconst (v := 0) hx hb nd_L_set_24 (by decide) ?_
    exact g_iret hx hb hr hlocks hw hS (la_yes (S := S) hO ho hp ew3) (by exact Nat.le_of_ble_eq_true rfl) (by exact Nat.le_of_ble_eq_true rfl) nd_L_set_25

set_option maxHeartbeats 4000000 in
set_option maxRecDepth 100000 in
theorem c_L_at (l : Launch) (hl9 : l.stackTraces = false) (G : g_G) (w : xw_W) (h e0 sl K : Nat) (S : sp_S) (hSt : sh_S G w h e0 sl S K) (hK9 : K + 1 < 2 ^ 31) (out : Nat) (fo : Nat → Int64) (hO : sh_O w h sl out) (ho : w out = some (la_o G fo)) (a k : Int32) : Met l ny_L_at nw_L_at ({ frames := 9, cells := 16, slots := 200, locals := 200 }) (g_Pc G w [.ref h, .int a, .int k, .ref out]) (g_Qi G (fun k8 w' => la_P G w h e0 sl out K (sp_at S a k) k8 w')) 16 200 (xw_A (g_b G)) := by
  refine g_wmet (by decide) (Nat.le_of_ble_eq_true rfl) rfl ?_
  intro p e s m below meth c ls hx hb hr hts hown hlocks htab hml hl hK hB hw hS
  have hT : ∀ w ∈ nw_T, w.before _ s = true := fun w h => hts w (List.mem_cons_of_mem _ h)
  have hown : s.vm.findClass "RadixShelfLaw" = some m.cls := hown
  have hl : lv_has ls 5 [(0, .ref h), (1, .int a), (2, .int k), (3, .ref out)] := hl
  obtain ⟨L, bd, g, hLK, hI⟩ := id hSt
  have hh := hI.1
  refine lv_aload_n hx hb nd_L_at_0 rfl (lv_at hl 3 rfl) ?_
  refine lv_iconst (v := 0) hx hb nd_L_at_1 (by decide) ?_
  refine lv_aload_n hx hb nd_L_at_2 rfl (lv_at hl 0 rfl) ?_
  refine lv_iload_n hx hb nd_L_at_3 rfl (lv_at hl 1 rfl) ?_
  refine lv_iload_n hx hb nd_L_at_4 rfl (lv_at hl 2 rfl) ?_
  refine g_xcalll (vx_runV (As := [.int a, .int k]) (rest := [.int 0, .ref out]) ⟨hx, hb, hml, hown, hts⟩ (c_S_at l hl9 G w h e0 sl K S hSt hK9 a k) (cwV (C := nR_S) 2 hts (nw_of (nw_4 nh_ml_L_26 nh_im_S_at nh_se_S_at nh_in_S nh_co_S_at)) rfl rfl rfl (by decide +kernel) ⟨Nat.le_of_ble_eq_true rfl, Nat.le_of_ble_eq_true rfl⟩) (g_preV (ci := 4) (q := (nR_S, nT_S, 4)) hK hw hS rfl hh _) rfl rfl hl.1 rfl (lv_room (Nat.le_of_ble_eq_true rfl)) nd_L_at_5 ⟨by exact Nat.le_of_ble_eq_true rfl, by exact Nat.le_of_ble_eq_true rfl⟩) hS (fun E ce q9 w1 H locs hthr hw hS h1 h2 h3 => ?_) (fun v9 w1 H locs hp hw hS => ?_)
  · obtain ⟨hw9, k9, hE, hR⟩ := hthr
    rw [hw9] at hw
    rcases k9 with _ | _ | k9
    · obtain rfl : g_IAE = E := Option.some.inj hE
      refine vx_catch hown [] (⟨0, 9, 12, 13⟩ : ExceptionTableEntry) [(⟨0, 9, 16, 24⟩ : ExceptionTableEntry)] htab (fun z hz => by cases hz) (by decide) (by decide) (hT _ nh_cl_L_13) (hK.2.2.1 (g_IAE, g_IAE) (by decide)) h1 h2 h3 ?_
      refine lv_astore hx hb nd_L_at_12 hl (by decide) (lv' := [(4, .ref q9), (0, .ref h), (1, .int a), (2, .int k), (3, .ref out)]) rfl (fun ls hl => ?_)
      refine lv_iconst (v := 1) hx hb nd_L_at_14 (by decide) ?_
      exact g_iret hx hb hr hlocks hw hS (la_no hSt ho hR) (by exact Nat.le_of_ble_eq_true rfl) (by exact Nat.le_of_ble_eq_true rfl) nd_L_at_15
    · obtain rfl : g_NSE = E := Option.some.inj hE
      have hpass : ∀ z ∈ [(⟨0, 9, 12, 13⟩ : ExceptionTableEntry)], covers z 5 = false ∨ (z.catchType ≠ 0 ∧ ∃ nm : String, (Cond.classLink "RadixShelfLaw" z.catchType nm).before [.ref h, .int a, .int k, .ref out].toArray s = true ∧ va_Nc g_NSE nm s) := by
        intro z hz
        simp only [List.mem_cons, List.not_mem_nil, or_false] at hz
        rcases hz with rfl
        · exact Or.inr ⟨by decide, g_IAE, hT _ nh_cl_L_13, hK.2.2.2.1 (g_NSE, g_IAE) (by decide)⟩
      refine vx_catch hown [(⟨0, 9, 12, 13⟩ : ExceptionTableEntry)] (⟨0, 9, 16, 24⟩ : ExceptionTableEntry) [] htab hpass (by decide) (by decide) (hT _ nh_cl_L_24) (hK.2.2.1 (g_NSE, g_NSE) (by decide)) h1 h2 h3 ?_
      refine lv_astore hx hb nd_L_at_16 hl (by decide) (lv' := [(4, .ref q9), (0, .ref h), (1, .int a), (2, .int k), (3, .ref out)]) rfl (fun ls hl => ?_)
      refine lv_iconst (v := 2) hx hb nd_L_at_18 (by decide) ?_
      exact g_iret hx hb hr hlocks hw hS (la_no hSt ho hR) (by exact Nat.le_of_ble_eq_true rfl) (by exact Nat.le_of_ble_eq_true rfl) nd_L_at_19
    · cases hE
  · have ho1 : w1 out = some (la_o G fo) := (hp.2.2.2 out hO).1.trans ho
    refine xw_last hx hb hK.1 hB hw hS 0 ho1 rfl (by unfold vp_in; decide) nd_L_at_8 (fun H locs hw hS => ?_)
    obtain ⟨w2, ew3⟩ : ∃ z, z = va_up w1 out (some (la_o G (vp_updL fo 0 v9))) := ⟨_, rfl⟩
    have hw : g_P G w2 H := by rw [ew3]; exact hw
    have ho1 : w2 out = some (la_o G (vp_updL fo 0 v9)) := by rw [ew3]; exact va_up_self _ _ _
    refine lv_goto (tgt := 20) hx hb nd_L_at_9 (by decide) ?_
    refine lv_iconst (v := 0) hx hb nd_L_at_20 (by decide) ?_
    exact g_iret hx hb hr hlocks hw hS (la_yes (S := S) hO ho hp ew3) (by exact Nat.le_of_ble_eq_true rfl) (by exact Nat.le_of_ble_eq_true rfl) nd_L_at_21

set_option maxHeartbeats 4000000 in
set_option maxRecDepth 100000 in
theorem c_L_cut (l : Launch) (hl9 : l.stackTraces = false) (G : g_G) (w : xw_W) (h e0 sl K : Nat) (S : sp_S) (hSt : sh_S G w h e0 sl S K) (hK9 : K + 1 < 2 ^ 31) (out : Nat) (fo : Nat → Int64) (hO : sh_O w h sl out) (ho : w out = some (la_o G fo)) (a b f k : Int32) : Met l ny_L_cut nw_L_cut ({ frames := 9, cells := 16, slots := 200, locals := 200 }) (g_Pc G w [.ref h, .int a, .int b, .int f, .int k, .ref out]) (g_Qi G (fun k8 w' => la_P G w h e0 sl out K (sp_cut S a b f k) k8 w')) 16 200 (xw_A (g_b G)) := by
  refine g_wmet (by decide) (Nat.le_of_ble_eq_true rfl) rfl ?_
  intro p e s m below meth c ls hx hb hr hts hown hlocks htab hml hl hK hB hw hS
  have hT : ∀ w ∈ nw_T, w.before _ s = true := fun w h => hts w (List.mem_cons_of_mem _ h)
  have hown : s.vm.findClass "RadixShelfLaw" = some m.cls := hown
  have hl : lv_has ls 7 [(0, .ref h), (1, .int a), (2, .int b), (3, .int f), (4, .int k), (5, .ref out)] := hl
  obtain ⟨L, bd, g, hLK, hI⟩ := id hSt
  have hh := hI.1
  refine lv_aload hx hb nd_L_cut_0 (lv_at hl 5 rfl) ?_
  refine lv_iconst (v := 0) hx hb nd_L_cut_2 (by decide) ?_
  refine lv_aload_n hx hb nd_L_cut_3 rfl (lv_at hl 0 rfl) ?_
  refine lv_iload_n hx hb nd_L_cut_4 rfl (lv_at hl 1 rfl) ?_
  refine lv_iload_n hx hb nd_L_cut_5 rfl (lv_at hl 2 rfl) ?_
  refine lv_iload_n hx hb nd_L_cut_6 rfl (lv_at hl 3 rfl) ?_
  refine lv_iload hx hb nd_L_cut_7 (lv_at hl 4 rfl) ?_
  refine g_xcalli (vx_runV (As := [.int a, .int b, .int f, .int k]) (rest := [.int 0, .ref out]) ⟨hx, hb, hml, hown, hts⟩ (c_S_cut l hl9 G w h e0 sl K S hSt hK9 a b f k) (cwV (C := nR_S) 4 hts (nw_of (nw_4 nh_ml_L_30 nh_im_S_cut nh_se_S_cut nh_in_S nh_co_S_cut)) rfl rfl rfl (by decide +kernel) ⟨Nat.le_of_ble_eq_true rfl, Nat.le_of_ble_eq_true rfl⟩) (g_preV (ci := 4) (q := (nR_S, nT_S, 4)) hK hw hS rfl hh _) rfl rfl hl.1 rfl (lv_room (Nat.le_of_ble_eq_true rfl)) nd_L_cut_9 ⟨by exact Nat.le_of_ble_eq_true rfl, by exact Nat.le_of_ble_eq_true rfl⟩) hS (fun E ce q9 w1 H locs hthr hw hS h1 h2 h3 => ?_) (fun v9 w1 H locs hp hw hS => ?_)
  · obtain ⟨hw9, k9, hE, hR⟩ := hthr
    rw [hw9] at hw
    rcases k9 with _ | _ | k9
    · obtain rfl : g_IAE = E := Option.some.inj hE
      refine vx_catch hown [] (⟨0, 14, 17, 13⟩ : ExceptionTableEntry) [(⟨0, 14, 21, 24⟩ : ExceptionTableEntry)] htab (fun z hz => by cases hz) (by decide) (by decide) (hT _ nh_cl_L_13) (hK.2.2.1 (g_IAE, g_IAE) (by decide)) h1 h2 h3 ?_
      refine lv_astore hx hb nd_L_cut_17 hl (by decide) (lv' := [(6, .ref q9), (0, .ref h), (1, .int a), (2, .int b), (3, .int f), (4, .int k), (5, .ref out)]) rfl (fun ls hl => ?_)
      refine lv_iconst (v := 1) hx hb nd_L_cut_19 (by decide) ?_
      exact g_iret hx hb hr hlocks hw hS (la_no hSt ho hR) (by exact Nat.le_of_ble_eq_true rfl) (by exact Nat.le_of_ble_eq_true rfl) nd_L_cut_20
    · obtain rfl : g_NSE = E := Option.some.inj hE
      have hpass : ∀ z ∈ [(⟨0, 14, 17, 13⟩ : ExceptionTableEntry)], covers z 9 = false ∨ (z.catchType ≠ 0 ∧ ∃ nm : String, (Cond.classLink "RadixShelfLaw" z.catchType nm).before [.ref h, .int a, .int b, .int f, .int k, .ref out].toArray s = true ∧ va_Nc g_NSE nm s) := by
        intro z hz
        simp only [List.mem_cons, List.not_mem_nil, or_false] at hz
        rcases hz with rfl
        · exact Or.inr ⟨by decide, g_IAE, hT _ nh_cl_L_13, hK.2.2.2.1 (g_NSE, g_IAE) (by decide)⟩
      refine vx_catch hown [(⟨0, 14, 17, 13⟩ : ExceptionTableEntry)] (⟨0, 14, 21, 24⟩ : ExceptionTableEntry) [] htab hpass (by decide) (by decide) (hT _ nh_cl_L_24) (hK.2.2.1 (g_NSE, g_NSE) (by decide)) h1 h2 h3 ?_
      refine lv_astore hx hb nd_L_cut_21 hl (by decide) (lv' := [(6, .ref q9), (0, .ref h), (1, .int a), (2, .int b), (3, .int f), (4, .int k), (5, .ref out)]) rfl (fun ls hl => ?_)
      refine lv_iconst (v := 2) hx hb nd_L_cut_23 (by decide) ?_
      exact g_iret hx hb hr hlocks hw hS (la_no hSt ho hR) (by exact Nat.le_of_ble_eq_true rfl) (by exact Nat.le_of_ble_eq_true rfl) nd_L_cut_24
    · cases hE
  · have ho1 : w1 out = some (la_o G fo) := (hp.2.2.2 out hO).1.trans ho
    refine lv_i2l hx hb nd_L_cut_12 rfl ?_
    refine xw_last hx hb hK.1 hB hw hS 0 ho1 rfl (by unfold vp_in; decide) nd_L_cut_13 (fun H locs hw hS => ?_)
    obtain ⟨w2, ew3⟩ : ∃ z, z = va_up w1 out (some (la_o G (vp_updL fo 0 v9.toInt64))) := ⟨_, rfl⟩
    have hw : g_P G w2 H := by rw [ew3]; exact hw
    have ho1 : w2 out = some (la_o G (vp_updL fo 0 v9.toInt64)) := by rw [ew3]; exact va_up_self _ _ _
    refine lv_goto (tgt := 25) hx hb nd_L_cut_14 (by decide) ?_
    refine lv_iconst (v := 0) hx hb nd_L_cut_25 (by decide) ?_
    exact g_iret hx hb hr hlocks hw hS (la_yes (S := S) hO ho hp ew3) (by exact Nat.le_of_ble_eq_true rfl) (by exact Nat.le_of_ble_eq_true rfl) nd_L_cut_26

set_option maxHeartbeats 4000000 in
set_option maxRecDepth 100000 in
theorem c_L_fill (l : Launch) (hl9 : l.stackTraces = false) (G : g_G) (w : xw_W) (h e0 sl K : Nat) (S : sp_S) (hSt : sh_S G w h e0 sl S K) (hK9 : K + 1 < 2 ^ 31) (out : Nat) (fo : Nat → Int64) (hO : sh_O w h sl out) (ho : w out = some (la_o G fo)) (a : Int32) (x0 st : Int64) (n : Int32) : Met l ny_L_fill nw_L_fill ({ frames := 9, cells := 400, slots := 6500, locals := 200 }) (g_Pc G w [.ref h, .int a, .long x0, .long st, .int n, .ref out]) (g_Qi G (fun k8 w' => la_P G w h e0 sl out K (sp_fill S a x0 st n) k8 w')) 400 6500 (xw_A (g_b G)) := by
  refine g_wmet (by decide) (Nat.le_of_ble_eq_true rfl) rfl ?_
  intro p e s m below meth c ls hx hb hr hts hown hlocks htab hml hl hK hB hw hS
  have hT : ∀ w ∈ nw_T, w.before _ s = true := fun w h => hts w (List.mem_cons_of_mem _ h)
  have hown : s.vm.findClass "RadixShelfLaw" = some m.cls := hown
  have hl : lv_has ls 9 [(0, .ref h), (1, .int a), (2, .long x0), (4, .long st), (6, .int n), (7, .ref out)] := hl
  obtain ⟨L, bd, g, hLK, hI⟩ := id hSt
  have hh := hI.1
  refine lv_aload hx hb nd_L_fill_0 (lv_at hl 5 rfl) ?_
  refine lv_iconst (v := 0) hx hb nd_L_fill_2 (by decide) ?_
  refine lv_aload_n hx hb nd_L_fill_3 rfl (lv_at hl 0 rfl) ?_
  refine lv_iload_n hx hb nd_L_fill_4 rfl (lv_at hl 1 rfl) ?_
  refine lv_lload_n hx hb nd_L_fill_5 rfl (lv_at hl 2 rfl) ?_
  refine lv_lload hx hb nd_L_fill_6 (lv_at hl 3 rfl) ?_
  refine lv_iload hx hb nd_L_fill_8 (lv_at hl 4 rfl) ?_
  refine g_xcalli (vx_runV (As := [.int a, .long x0, .long st, .int n]) (rest := [.int 0, .ref out]) ⟨hx, hb, hml, hown, hts⟩ (c_S_fill l hl9 G w h e0 sl K S hSt hK9 a x0 st n) (cwV (C := nR_S) 4 hts (nw_of (nw_4 nh_ml_L_34 nh_im_S_fill nh_se_S_fill nh_in_S nh_co_S_fill)) rfl rfl rfl (by decide +kernel) ⟨Nat.le_of_ble_eq_true rfl, Nat.le_of_ble_eq_true rfl⟩) (g_preV (ci := 4) (q := (nR_S, nT_S, 4)) hK hw hS rfl hh _) rfl rfl hl.1 rfl (lv_room (Nat.le_of_ble_eq_true rfl)) nd_L_fill_10 ⟨by exact Nat.le_of_ble_eq_true rfl, by exact Nat.le_of_ble_eq_true rfl⟩) hS (fun E ce q9 w1 H locs hthr hw hS h1 h2 h3 => ?_) (fun v9 w1 H locs hp hw hS => ?_)
  · obtain ⟨hw9, k9, hE, hR⟩ := hthr
    rw [hw9] at hw
    rcases k9 with _ | k9
    · obtain rfl : g_IAE = E := Option.some.inj hE
      refine vx_catch hown [] (⟨0, 15, 18, 13⟩ : ExceptionTableEntry) [] htab (fun z hz => by cases hz) (by decide) (by decide) (hT _ nh_cl_L_13) (hK.2.2.1 (g_IAE, g_IAE) (by decide)) h1 h2 h3 ?_
      refine lv_astore hx hb nd_L_fill_18 hl (by decide) (lv' := [(8, .ref q9), (0, .ref h), (1, .int a), (2, .long x0), (4, .long st), (6, .int n), (7, .ref out)]) rfl (fun ls hl => ?_)
      refine lv_iconst (v := 1) hx hb nd_L_fill_20 (by decide) ?_
      exact g_iret hx hb hr hlocks hw hS (la_no hSt ho hR) (by exact Nat.le_of_ble_eq_true rfl) (by exact Nat.le_of_ble_eq_true rfl) nd_L_fill_21
    · cases hE
  · have ho1 : w1 out = some (la_o G fo) := (hp.2.2.2 out hO).1.trans ho
    refine lv_i2l hx hb nd_L_fill_13 rfl ?_
    refine xw_last hx hb hK.1 hB hw hS 0 ho1 rfl (by unfold vp_in; decide) nd_L_fill_14 (fun H locs hw hS => ?_)
    obtain ⟨w2, ew3⟩ : ∃ z, z = va_up w1 out (some (la_o G (vp_updL fo 0 v9.toInt64))) := ⟨_, rfl⟩
    have hw : g_P G w2 H := by rw [ew3]; exact hw
    have ho1 : w2 out = some (la_o G (vp_updL fo 0 v9.toInt64)) := by rw [ew3]; exact va_up_self _ _ _
    refine lv_goto (tgt := 22) hx hb nd_L_fill_15 (by decide) ?_
    refine lv_iconst (v := 0) hx hb nd_L_fill_22 (by decide) ?_
    exact g_iret hx hb hr hlocks hw hS (la_yes (S := S) hO ho hp ew3) (by exact Nat.le_of_ble_eq_true rfl) (by exact Nat.le_of_ble_eq_true rfl) nd_L_fill_23

set_option maxHeartbeats 4000000 in
set_option maxRecDepth 100000 in
theorem c_L_size (l : Launch) (hl9 : l.stackTraces = false) (G : g_G) (w : xw_W) (h e0 sl K : Nat) (S : sp_S) (hSt : sh_S G w h e0 sl S K) (hK9 : K + 1 < 2 ^ 31) (out : Nat) (fo : Nat → Int64) (hO : sh_O w h sl out) (ho : w out = some (la_o G fo)) (a : Int32) : Met l ny_L_size nw_L_size ({ frames := 9, cells := 16, slots := 200, locals := 200 }) (g_Pc G w [.ref h, .int a, .ref out]) (g_Qi G (fun k8 w' => la_P G w h e0 sl out K (sp_size S a) k8 w')) 16 200 (xw_A (g_b G)) := by
  refine g_wmet (by decide) (Nat.le_of_ble_eq_true rfl) rfl ?_
  intro p e s m below meth c ls hx hb hr hts hown hlocks htab hml hl hK hB hw hS
  have hT : ∀ w ∈ nw_T, w.before _ s = true := fun w h => hts w (List.mem_cons_of_mem _ h)
  have hown : s.vm.findClass "RadixShelfLaw" = some m.cls := hown
  have hl : lv_has ls 4 [(0, .ref h), (1, .int a), (2, .ref out)] := hl
  obtain ⟨L, bd, g, hLK, hI⟩ := id hSt
  have hh := hI.1
  refine lv_aload_n hx hb nd_L_size_0 rfl (lv_at hl 2 rfl) ?_
  refine lv_iconst (v := 0) hx hb nd_L_size_1 (by decide) ?_
  refine lv_aload_n hx hb nd_L_size_2 rfl (lv_at hl 0 rfl) ?_
  refine lv_iload_n hx hb nd_L_size_3 rfl (lv_at hl 1 rfl) ?_
  refine g_xcalli (vx_runV (As := [.int a]) (rest := [.int 0, .ref out]) ⟨hx, hb, hml, hown, hts⟩ (c_S_size l hl9 G w h e0 sl K S hSt hK9 a) (cwV (C := nR_S) 1 hts (nw_of (nw_4 nh_ml_L_38 nh_im_S_size nh_se_S_size nh_in_S nh_co_S_size)) rfl rfl rfl (by decide +kernel) ⟨Nat.le_of_ble_eq_true rfl, Nat.le_of_ble_eq_true rfl⟩) (g_preV (ci := 4) (q := (nR_S, nT_S, 4)) hK hw hS rfl hh _) rfl rfl hl.1 rfl (lv_room (Nat.le_of_ble_eq_true rfl)) nd_L_size_4 ⟨by exact Nat.le_of_ble_eq_true rfl, by exact Nat.le_of_ble_eq_true rfl⟩) hS (fun E ce q9 w1 H locs hthr hw hS h1 h2 h3 => ?_) (fun v9 w1 H locs hp hw hS => ?_)
  · obtain ⟨hw9, k9, hE, hR⟩ := hthr
    rw [hw9] at hw
    rcases k9 with _ | k9
    · obtain rfl : g_IAE = E := Option.some.inj hE
      refine vx_catch hown [] (⟨0, 9, 12, 13⟩ : ExceptionTableEntry) [] htab (fun z hz => by cases hz) (by decide) (by decide) (hT _ nh_cl_L_13) (hK.2.2.1 (g_IAE, g_IAE) (by decide)) h1 h2 h3 ?_
      refine lv_astore_n hx hb nd_L_size_12 rfl hl (by decide) (lv' := [(3, .ref q9), (0, .ref h), (1, .int a), (2, .ref out)]) rfl (fun ls hl => ?_)
      refine lv_iconst (v := 1) hx hb nd_L_size_13 (by decide) ?_
      exact g_iret hx hb hr hlocks hw hS (la_no hSt ho hR) (by exact Nat.le_of_ble_eq_true rfl) (by exact Nat.le_of_ble_eq_true rfl) nd_L_size_14
    · cases hE
  · have ho1 : w1 out = some (la_o G fo) := (hp.2.2.2 out hO).1.trans ho
    refine lv_i2l hx hb nd_L_size_7 rfl ?_
    refine xw_last hx hb hK.1 hB hw hS 0 ho1 rfl (by unfold vp_in; decide) nd_L_size_8 (fun H locs hw hS => ?_)
    obtain ⟨w2, ew3⟩ : ∃ z, z = va_up w1 out (some (la_o G (vp_updL fo 0 v9.toInt64))) := ⟨_, rfl⟩
    have hw : g_P G w2 H := by rw [ew3]; exact hw
    have ho1 : w2 out = some (la_o G (vp_updL fo 0 v9.toInt64)) := by rw [ew3]; exact va_up_self _ _ _
    refine lv_goto (tgt := 15) hx hb nd_L_size_9 (by decide) ?_
    refine lv_iconst (v := 0) hx hb nd_L_size_15 (by decide) ?_
    exact g_iret hx hb hr hlocks hw hS (la_yes (S := S) hO ho hp ew3) (by exact Nat.le_of_ble_eq_true rfl) (by exact Nat.le_of_ble_eq_true rfl) nd_L_size_16

set_option maxHeartbeats 4000000 in
set_option maxRecDepth 100000 in
theorem c_L_hash (l : Launch) (hl9 : l.stackTraces = false) (G : g_G) (w : xw_W) (h e0 sl K : Nat) (S : sp_S) (hSt : sh_S G w h e0 sl S K) (hK9 : K + 1 < 2 ^ 31) (out : Nat) (fo : Nat → Int64) (hO : sh_O w h sl out) (ho : w out = some (la_o G fo)) (a : Int32) : Met l ny_L_hash nw_L_hash ({ frames := 9, cells := 16, slots := 200, locals := 200 }) (g_Pc G w [.ref h, .int a, .ref out]) (g_Qi G (fun k8 w' => la_P G w h e0 sl out K (sp_hash S a) k8 w')) 16 200 (xw_A (g_b G)) := by
  refine g_wmet (by decide) (Nat.le_of_ble_eq_true rfl) rfl ?_
  intro p e s m below meth c ls hx hb hr hts hown hlocks htab hml hl hK hB hw hS
  have hT : ∀ w ∈ nw_T, w.before _ s = true := fun w h => hts w (List.mem_cons_of_mem _ h)
  have hown : s.vm.findClass "RadixShelfLaw" = some m.cls := hown
  have hl : lv_has ls 4 [(0, .ref h), (1, .int a), (2, .ref out)] := hl
  obtain ⟨L, bd, g, hLK, hI⟩ := id hSt
  have hh := hI.1
  refine lv_aload_n hx hb nd_L_hash_0 rfl (lv_at hl 2 rfl) ?_
  refine lv_iconst (v := 0) hx hb nd_L_hash_1 (by decide) ?_
  refine lv_aload_n hx hb nd_L_hash_2 rfl (lv_at hl 0 rfl) ?_
  refine lv_iload_n hx hb nd_L_hash_3 rfl (lv_at hl 1 rfl) ?_
  refine g_xcalll (vx_runV (As := [.int a]) (rest := [.int 0, .ref out]) ⟨hx, hb, hml, hown, hts⟩ (c_S_hash l hl9 G w h e0 sl K S hSt hK9 a) (cwV (C := nR_S) 1 hts (nw_of (nw_4 nh_ml_L_42 nh_im_S_hash nh_se_S_hash nh_in_S nh_co_S_hash)) rfl rfl rfl (by decide +kernel) ⟨Nat.le_of_ble_eq_true rfl, Nat.le_of_ble_eq_true rfl⟩) (g_preV (ci := 4) (q := (nR_S, nT_S, 4)) hK hw hS rfl hh _) rfl rfl hl.1 rfl (lv_room (Nat.le_of_ble_eq_true rfl)) nd_L_hash_4 ⟨by exact Nat.le_of_ble_eq_true rfl, by exact Nat.le_of_ble_eq_true rfl⟩) hS (fun E ce q9 w1 H locs hthr hw hS h1 h2 h3 => ?_) (fun v9 w1 H locs hp hw hS => ?_)
  · obtain ⟨hw9, k9, hE, hR⟩ := hthr
    rw [hw9] at hw
    rcases k9 with _ | k9
    · obtain rfl : g_IAE = E := Option.some.inj hE
      refine vx_catch hown [] (⟨0, 8, 11, 13⟩ : ExceptionTableEntry) [] htab (fun z hz => by cases hz) (by decide) (by decide) (hT _ nh_cl_L_13) (hK.2.2.1 (g_IAE, g_IAE) (by decide)) h1 h2 h3 ?_
      refine lv_astore_n hx hb nd_L_hash_11 rfl hl (by decide) (lv' := [(3, .ref q9), (0, .ref h), (1, .int a), (2, .ref out)]) rfl (fun ls hl => ?_)
      refine lv_iconst (v := 1) hx hb nd_L_hash_12 (by decide) ?_
      exact g_iret hx hb hr hlocks hw hS (la_no hSt ho hR) (by exact Nat.le_of_ble_eq_true rfl) (by exact Nat.le_of_ble_eq_true rfl) nd_L_hash_13
    · cases hE
  · have ho1 : w1 out = some (la_o G fo) := (hp.2.2.2 out hO).1.trans ho
    refine xw_last hx hb hK.1 hB hw hS 0 ho1 rfl (by unfold vp_in; decide) nd_L_hash_7 (fun H locs hw hS => ?_)
    obtain ⟨w2, ew3⟩ : ∃ z, z = va_up w1 out (some (la_o G (vp_updL fo 0 v9))) := ⟨_, rfl⟩
    have hw : g_P G w2 H := by rw [ew3]; exact hw
    have ho1 : w2 out = some (la_o G (vp_updL fo 0 v9)) := by rw [ew3]; exact va_up_self _ _ _
    refine lv_goto (tgt := 14) hx hb nd_L_hash_8 (by decide) ?_
    refine lv_iconst (v := 0) hx hb nd_L_hash_14 (by decide) ?_
    exact g_iret hx hb hr hlocks hw hS (la_yes (S := S) hO ho hp ew3) (by exact Nat.le_of_ble_eq_true rfl) (by exact Nat.le_of_ble_eq_true rfl) nd_L_hash_15

set_option maxHeartbeats 4000000 in
set_option maxRecDepth 100000 in
theorem c_L_open (l : Launch) (hl9 : l.stackTraces = false) (G : g_G) (w : xw_W) (h e0 sl K : Nat) (S : sp_S) (hSt : sh_S G w h e0 sl S K) (hK9 : K + 1 < 2 ^ 31) (a : Int32) : Met l ny_L_open nw_L_open ({ frames := 9, cells := 16, slots := 200, locals := 200 }) (g_Pc G w [.ref h, .int a]) (g_Qi G (fun k8 w' => lo_P G w h e0 sl K (sp_opn S a) k8 w')) 16 200 (xw_A (g_b G)) := by
  refine g_wmet (by decide) (Nat.le_of_ble_eq_true rfl) rfl ?_
  intro p e s m below meth c ls hx hb hr hts hown hlocks htab hml hl hK hB hw hS
  have hT : ∀ w ∈ nw_T, w.before _ s = true := fun w h => hts w (List.mem_cons_of_mem _ h)
  have hown : s.vm.findClass "RadixShelfLaw" = some m.cls := hown
  have hl : lv_has ls 3 [(0, .ref h), (1, .int a)] := hl
  obtain ⟨L, bd, g, hLK, hI⟩ := id hSt
  have hh := hI.1
  refine lv_aload_n hx hb nd_L_open_0 rfl (lv_at hl 0 rfl) ?_
  refine lv_iload_n hx hb nd_L_open_1 rfl (lv_at hl 1 rfl) ?_
  refine g_xcallv (vx_runV (As := [.int a]) (rest := []) ⟨hx, hb, hml, hown, hts⟩ (c_S_open l hl9 G w h e0 sl K S hSt hK9 a) (cwV (C := nR_S) 1 hts (nw_of (nw_4 nh_ml_L_46 nh_im_S_open nh_se_S_open nh_in_S nh_co_S_open)) rfl rfl rfl (by decide +kernel) ⟨Nat.le_of_ble_eq_true rfl, Nat.le_of_ble_eq_true rfl⟩) (g_preV (ci := 4) (q := (nR_S, nT_S, 4)) hK hw hS rfl hh _) rfl rfl hl.1 rfl (lv_room (Nat.le_of_ble_eq_true rfl)) nd_L_open_2 ⟨by exact Nat.le_of_ble_eq_true rfl, by exact Nat.le_of_ble_eq_true rfl⟩) hS (fun E ce q9 w1 H locs hthr hw hS h1 h2 h3 => ?_) (fun w1 H locs hp hw hS => ?_)
  · obtain ⟨hw9, k9, hE, hR⟩ := hthr
    rw [hw9] at hw
    rcases k9 with _ | _ | k9
    · obtain rfl : g_IAE = E := Option.some.inj hE
      refine vx_catch hown [] (⟨0, 5, 8, 13⟩ : ExceptionTableEntry) [(⟨0, 5, 11, 50⟩ : ExceptionTableEntry)] htab (fun z hz => by cases hz) (by decide) (by decide) (hT _ nh_cl_L_13) (hK.2.2.1 (g_IAE, g_IAE) (by decide)) h1 h2 h3 ?_
      refine lv_astore_n hx hb nd_L_open_8 rfl hl (by decide) (lv' := [(2, .ref q9), (0, .ref h), (1, .int a)]) rfl (fun ls hl => ?_)
      refine lv_iconst (v := 1) hx hb nd_L_open_9 (by decide) ?_
      exact g_iret hx hb hr hlocks hw hS (lo_no hSt hR) (by exact Nat.le_of_ble_eq_true rfl) (by exact Nat.le_of_ble_eq_true rfl) nd_L_open_10
    · obtain rfl : g_ISE = E := Option.some.inj hE
      have hpass : ∀ z ∈ [(⟨0, 5, 8, 13⟩ : ExceptionTableEntry)], covers z 2 = false ∨ (z.catchType ≠ 0 ∧ ∃ nm : String, (Cond.classLink "RadixShelfLaw" z.catchType nm).before [.ref h, .int a].toArray s = true ∧ va_Nc g_ISE nm s) := by
        intro z hz
        simp only [List.mem_cons, List.not_mem_nil, or_false] at hz
        rcases hz with rfl
        · exact Or.inr ⟨by decide, g_IAE, hT _ nh_cl_L_13, hK.2.2.2.1 (g_ISE, g_IAE) (by decide)⟩
      refine vx_catch hown [(⟨0, 5, 8, 13⟩ : ExceptionTableEntry)] (⟨0, 5, 11, 50⟩ : ExceptionTableEntry) [] htab hpass (by decide) (by decide) (hT _ nh_cl_L_50) (hK.2.2.1 (g_ISE, g_ISE) (by decide)) h1 h2 h3 ?_
      refine lv_astore_n hx hb nd_L_open_11 rfl hl (by decide) (lv' := [(2, .ref q9), (0, .ref h), (1, .int a)]) rfl (fun ls hl => ?_)
      refine lv_iconst (v := 2) hx hb nd_L_open_12 (by decide) ?_
      exact g_iret hx hb hr hlocks hw hS (lo_no hSt hR) (by exact Nat.le_of_ble_eq_true rfl) (by exact Nat.le_of_ble_eq_true rfl) nd_L_open_13
    · cases hE
  · refine lv_goto (tgt := 14) hx hb nd_L_open_5 (by decide) ?_
    refine lv_iconst (v := 0) hx hb nd_L_open_14 (by decide) ?_
    exact g_iret hx hb hr hlocks hw hS (lo_yes hp) (by exact Nat.le_of_ble_eq_true rfl) (by exact Nat.le_of_ble_eq_true rfl) nd_L_open_15

set_option maxHeartbeats 4000000 in
set_option maxRecDepth 100000 in
theorem c_L_build (l : Launch) (hl9 : l.stackTraces = false) (G : g_G) (w : xw_W) (h e0 sl K : Nat) (S : sp_S) (hSt : sh_S G w h e0 sl S K) (hK9 : K + 1 < 2 ^ 31) (out : Nat) (fo : Nat → Int64) (hO : sh_O w h sl out) (ho : w out = some (la_o G fo)) (k a : Int32) (v : Int64) : Met l ny_L_build nw_L_build ({ frames := 9, cells := 16, slots := 200, locals := 200 }) (g_Pc G w [.ref h, .int k, .int a, .long v, .ref out]) (g_Qi G (fun k8 w' => la_P G w h e0 sl out K (sp_build S k a v) k8 w')) 16 200 (xw_A (g_b G)) := by
  refine g_wmet (by decide) (Nat.le_of_ble_eq_true rfl) rfl ?_
  intro p e s m below meth c ls hx hb hr hts hown hlocks htab hml hl hK hB hw hS
  have hT : ∀ w ∈ nw_T, w.before _ s = true := fun w h => hts w (List.mem_cons_of_mem _ h)
  have hown : s.vm.findClass "RadixShelfLaw" = some m.cls := hown
  have hl : lv_has ls 7 [(0, .ref h), (1, .int k), (2, .int a), (3, .long v), (5, .ref out)] := hl
  obtain ⟨L, bd, g, hLK, hI⟩ := id hSt
  have hh := hI.1
  refine lv_aload hx hb nd_L_build_0 (lv_at hl 4 rfl) ?_
  refine lv_iconst (v := 0) hx hb nd_L_build_2 (by decide) ?_
  refine lv_aload_n hx hb nd_L_build_3 rfl (lv_at hl 0 rfl) ?_
  refine lv_iload_n hx hb nd_L_build_4 rfl (lv_at hl 1 rfl) ?_
  refine lv_iload_n hx hb nd_L_build_5 rfl (lv_at hl 2 rfl) ?_
  refine lv_lload_n hx hb nd_L_build_6 rfl (lv_at hl 3 rfl) ?_
  refine g_xcalli (vx_runV (As := [.int k, .int a, .long v]) (rest := [.int 0, .ref out]) ⟨hx, hb, hml, hown, hts⟩ (c_S_build l hl9 G w h e0 sl K S hSt hK9 k a v) (cwV (C := nR_S) 3 hts (nw_of (nw_4 nh_ml_L_52 nh_im_S_build nh_se_S_build nh_in_S nh_co_S_build)) rfl rfl rfl (by decide +kernel) ⟨Nat.le_of_ble_eq_true rfl, Nat.le_of_ble_eq_true rfl⟩) (g_preV (ci := 4) (q := (nR_S, nT_S, 4)) hK hw hS rfl hh _) rfl rfl hl.1 rfl (lv_room (Nat.le_of_ble_eq_true rfl)) nd_L_build_7 ⟨by exact Nat.le_of_ble_eq_true rfl, by exact Nat.le_of_ble_eq_true rfl⟩) hS (fun E ce q9 w1 H locs hthr hw hS h1 h2 h3 => ?_) (fun v9 w1 H locs hp hw hS => ?_)
  · obtain ⟨hw9, k9, hE, hR⟩ := hthr
    rw [hw9] at hw
    rcases k9 with _ | _ | _ | _ | k9
    · obtain rfl : g_IAE = E := Option.some.inj hE
      refine vx_catch hown [] (⟨0, 12, 15, 13⟩ : ExceptionTableEntry) [(⟨0, 12, 19, 50⟩ : ExceptionTableEntry), (⟨0, 12, 23, 24⟩ : ExceptionTableEntry), (⟨0, 12, 27, 15⟩ : ExceptionTableEntry)] htab (fun z hz => by cases hz) (by decide) (by decide) (hT _ nh_cl_L_13) (hK.2.2.1 (g_IAE, g_IAE) (by decide)) h1 h2 h3 ?_
      refine lv_astore hx hb nd_L_build_15 hl (by decide) (lv' := [(6, .ref q9), (0, .ref h), (1, .int k), (2, .int a), (3, .long v), (5, .ref out)]) rfl (fun ls hl => ?_)
      refine lv_iconst (v := 1) hx hb nd_L_build_17 (by decide) ?_
      exact g_iret hx hb hr hlocks hw hS (la_no hSt ho hR) (by exact Nat.le_of_ble_eq_true rfl) (by exact Nat.le_of_ble_eq_true rfl) nd_L_build_18
    · obtain rfl : g_ISE = E := Option.some.inj hE
      have hpass : ∀ z ∈ [(⟨0, 12, 15, 13⟩ : ExceptionTableEntry)], covers z 7 = false ∨ (z.catchType ≠ 0 ∧ ∃ nm : String, (Cond.classLink "RadixShelfLaw" z.catchType nm).before [.ref h, .int k, .int a, .long v, .ref out].toArray s = true ∧ va_Nc g_ISE nm s) := by
        intro z hz
        simp only [List.mem_cons, List.not_mem_nil, or_false] at hz
        rcases hz with rfl
        · exact Or.inr ⟨by decide, g_IAE, hT _ nh_cl_L_13, hK.2.2.2.1 (g_ISE, g_IAE) (by decide)⟩
      refine vx_catch hown [(⟨0, 12, 15, 13⟩ : ExceptionTableEntry)] (⟨0, 12, 19, 50⟩ : ExceptionTableEntry) [(⟨0, 12, 23, 24⟩ : ExceptionTableEntry), (⟨0, 12, 27, 15⟩ : ExceptionTableEntry)] htab hpass (by decide) (by decide) (hT _ nh_cl_L_50) (hK.2.2.1 (g_ISE, g_ISE) (by decide)) h1 h2 h3 ?_
      refine lv_astore hx hb nd_L_build_19 hl (by decide) (lv' := [(6, .ref q9), (0, .ref h), (1, .int k), (2, .int a), (3, .long v), (5, .ref out)]) rfl (fun ls hl => ?_)
      refine lv_iconst (v := 2) hx hb nd_L_build_21 (by decide) ?_
      exact g_iret hx hb hr hlocks hw hS (la_no hSt ho hR) (by exact Nat.le_of_ble_eq_true rfl) (by exact Nat.le_of_ble_eq_true rfl) nd_L_build_22
    · obtain rfl : g_NSE = E := Option.some.inj hE
      have hpass : ∀ z ∈ [(⟨0, 12, 15, 13⟩ : ExceptionTableEntry), (⟨0, 12, 19, 50⟩ : ExceptionTableEntry)], covers z 7 = false ∨ (z.catchType ≠ 0 ∧ ∃ nm : String, (Cond.classLink "RadixShelfLaw" z.catchType nm).before [.ref h, .int k, .int a, .long v, .ref out].toArray s = true ∧ va_Nc g_NSE nm s) := by
        intro z hz
        simp only [List.mem_cons, List.not_mem_nil, or_false] at hz
        rcases hz with rfl | rfl
        · exact Or.inr ⟨by decide, g_IAE, hT _ nh_cl_L_13, hK.2.2.2.1 (g_NSE, g_IAE) (by decide)⟩
        · exact Or.inr ⟨by decide, g_ISE, hT _ nh_cl_L_50, hK.2.2.2.1 (g_NSE, g_ISE) (by decide)⟩
      refine vx_catch hown [(⟨0, 12, 15, 13⟩ : ExceptionTableEntry), (⟨0, 12, 19, 50⟩ : ExceptionTableEntry)] (⟨0, 12, 23, 24⟩ : ExceptionTableEntry) [(⟨0, 12, 27, 15⟩ : ExceptionTableEntry)] htab hpass (by decide) (by decide) (hT _ nh_cl_L_24) (hK.2.2.1 (g_NSE, g_NSE) (by decide)) h1 h2 h3 ?_
      refine lv_astore hx hb nd_L_build_23 hl (by decide) (lv' := [(6, .ref q9), (0, .ref h), (1, .int k), (2, .int a), (3, .long v), (5, .ref out)]) rfl (fun ls hl => ?_)
      refine lv_iconst (v := 3) hx hb nd_L_build_25 (by decide) ?_
      exact g_iret hx hb hr hlocks hw hS (la_no hSt ho hR) (by exact Nat.le_of_ble_eq_true rfl) (by exact Nat.le_of_ble_eq_true rfl) nd_L_build_26
    · obtain rfl : g_IOB = E := Option.some.inj hE
      have hpass : ∀ z ∈ [(⟨0, 12, 15, 13⟩ : ExceptionTableEntry), (⟨0, 12, 19, 50⟩ : ExceptionTableEntry), (⟨0, 12, 23, 24⟩ : ExceptionTableEntry)], covers z 7 = false ∨ (z.catchType ≠ 0 ∧ ∃ nm : String, (Cond.classLink "RadixShelfLaw" z.catchType nm).before [.ref h, .int k, .int a, .long v, .ref out].toArray s = true ∧ va_Nc g_IOB nm s) := by
        intro z hz
        simp only [List.mem_cons, List.not_mem_nil, or_false] at hz
        rcases hz with rfl | rfl | rfl
        · exact Or.inr ⟨by decide, g_IAE, hT _ nh_cl_L_13, hK.2.2.2.1 (g_IOB, g_IAE) (by decide)⟩
        · exact Or.inr ⟨by decide, g_ISE, hT _ nh_cl_L_50, hK.2.2.2.1 (g_IOB, g_ISE) (by decide)⟩
        · exact Or.inr ⟨by decide, g_NSE, hT _ nh_cl_L_24, hK.2.2.2.1 (g_IOB, g_NSE) (by decide)⟩
      refine vx_catch hown [(⟨0, 12, 15, 13⟩ : ExceptionTableEntry), (⟨0, 12, 19, 50⟩ : ExceptionTableEntry), (⟨0, 12, 23, 24⟩ : ExceptionTableEntry)] (⟨0, 12, 27, 15⟩ : ExceptionTableEntry) [] htab hpass (by decide) (by decide) (hT _ nh_cl_L_15) (hK.2.2.1 (g_IOB, g_IOB) (by decide)) h1 h2 h3 ?_
      refine lv_astore hx hb nd_L_build_27 hl (by decide) (lv' := [(6, .ref q9), (0, .ref h), (1, .int k), (2, .int a), (3, .long v), (5, .ref out)]) rfl (fun ls hl => ?_)
      refine lv_iconst (v := 4) hx hb nd_L_build_29 (by decide) ?_
      exact g_iret hx hb hr hlocks hw hS (la_no hSt ho hR) (by exact Nat.le_of_ble_eq_true rfl) (by exact Nat.le_of_ble_eq_true rfl) nd_L_build_30
    · cases hE
  · have ho1 : w1 out = some (la_o G fo) := (hp.2.2.2 out hO).1.trans ho
    refine lv_i2l hx hb nd_L_build_10 rfl ?_
    refine xw_last hx hb hK.1 hB hw hS 0 ho1 rfl (by unfold vp_in; decide) nd_L_build_11 (fun H locs hw hS => ?_)
    obtain ⟨w2, ew3⟩ : ∃ z, z = va_up w1 out (some (la_o G (vp_updL fo 0 v9.toInt64))) := ⟨_, rfl⟩
    have hw : g_P G w2 H := by rw [ew3]; exact hw
    have ho1 : w2 out = some (la_o G (vp_updL fo 0 v9.toInt64)) := by rw [ew3]; exact va_up_self _ _ _
    refine lv_goto (tgt := 31) hx hb nd_L_build_12 (by decide) ?_
    refine lv_iconst (v := 0) hx hb nd_L_build_31 (by decide) ?_
    exact g_iret hx hb hr hlocks hw hS (la_yes (S := S) hO ho hp ew3) (by exact Nat.le_of_ble_eq_true rfl) (by exact Nat.le_of_ble_eq_true rfl) nd_L_build_32

set_option maxHeartbeats 4000000 in
set_option maxRecDepth 100000 in
theorem c_L_freeze (l : Launch) (hl9 : l.stackTraces = false) (G : g_G) (w : xw_W) (h e0 sl K : Nat) (S : sp_S) (hSt : sh_S G w h e0 sl S K) (hK9 : K + 1 < 2 ^ 31) (out : Nat) (fo : Nat → Int64) (hO : sh_O w h sl out) (ho : w out = some (la_o G fo)) (a : Int32) : Met l ny_L_freeze nw_L_freeze ({ frames := 9, cells := 16, slots := 200, locals := 200 }) (g_Pc G w [.ref h, .int a, .ref out]) (g_Qi G (fun k8 w' => la_P G w h e0 sl out K (sp_freeze S a) k8 w')) 16 200 (xw_A (g_b G)) := by
  refine g_wmet (by decide) (Nat.le_of_ble_eq_true rfl) rfl ?_
  intro p e s m below meth c ls hx hb hr hts hown hlocks htab hml hl hK hB hw hS
  have hT : ∀ w ∈ nw_T, w.before _ s = true := fun w h => hts w (List.mem_cons_of_mem _ h)
  have hown : s.vm.findClass "RadixShelfLaw" = some m.cls := hown
  have hl : lv_has ls 4 [(0, .ref h), (1, .int a), (2, .ref out)] := hl
  obtain ⟨L, bd, g, hLK, hI⟩ := id hSt
  have hh := hI.1
  refine lv_aload_n hx hb nd_L_freeze_0 rfl (lv_at hl 2 rfl) ?_
  refine lv_iconst (v := 0) hx hb nd_L_freeze_1 (by decide) ?_
  refine lv_aload_n hx hb nd_L_freeze_2 rfl (lv_at hl 0 rfl) ?_
  refine lv_iload_n hx hb nd_L_freeze_3 rfl (lv_at hl 1 rfl) ?_
  refine g_xcalli (vx_runV (As := [.int a]) (rest := [.int 0, .ref out]) ⟨hx, hb, hml, hown, hts⟩ (c_S_freeze l hl9 G w h e0 sl K S hSt hK9 a) (cwV (C := nR_S) 1 hts (nw_of (nw_4 nh_ml_L_55 nh_im_S_freeze nh_se_S_freeze nh_in_S nh_co_S_freeze)) rfl rfl rfl (by decide +kernel) ⟨Nat.le_of_ble_eq_true rfl, Nat.le_of_ble_eq_true rfl⟩) (g_preV (ci := 4) (q := (nR_S, nT_S, 4)) hK hw hS rfl hh _) rfl rfl hl.1 rfl (lv_room (Nat.le_of_ble_eq_true rfl)) nd_L_freeze_4 ⟨by exact Nat.le_of_ble_eq_true rfl, by exact Nat.le_of_ble_eq_true rfl⟩) hS (fun E ce q9 w1 H locs hthr hw hS h1 h2 h3 => ?_) (fun v9 w1 H locs hp hw hS => ?_)
  · obtain ⟨hw9, k9, hE, hR⟩ := hthr
    rw [hw9] at hw
    rcases k9 with _ | _ | k9
    · obtain rfl : g_IAE = E := Option.some.inj hE
      refine vx_catch hown [] (⟨0, 9, 12, 13⟩ : ExceptionTableEntry) [(⟨0, 9, 15, 50⟩ : ExceptionTableEntry)] htab (fun z hz => by cases hz) (by decide) (by decide) (hT _ nh_cl_L_13) (hK.2.2.1 (g_IAE, g_IAE) (by decide)) h1 h2 h3 ?_
      refine lv_astore_n hx hb nd_L_freeze_12 rfl hl (by decide) (lv' := [(3, .ref q9), (0, .ref h), (1, .int a), (2, .ref out)]) rfl (fun ls hl => ?_)
      refine lv_iconst (v := 1) hx hb nd_L_freeze_13 (by decide) ?_
      exact g_iret hx hb hr hlocks hw hS (la_no hSt ho hR) (by exact Nat.le_of_ble_eq_true rfl) (by exact Nat.le_of_ble_eq_true rfl) nd_L_freeze_14
    · obtain rfl : g_ISE = E := Option.some.inj hE
      have hpass : ∀ z ∈ [(⟨0, 9, 12, 13⟩ : ExceptionTableEntry)], covers z 4 = false ∨ (z.catchType ≠ 0 ∧ ∃ nm : String, (Cond.classLink "RadixShelfLaw" z.catchType nm).before [.ref h, .int a, .ref out].toArray s = true ∧ va_Nc g_ISE nm s) := by
        intro z hz
        simp only [List.mem_cons, List.not_mem_nil, or_false] at hz
        rcases hz with rfl
        · exact Or.inr ⟨by decide, g_IAE, hT _ nh_cl_L_13, hK.2.2.2.1 (g_ISE, g_IAE) (by decide)⟩
      refine vx_catch hown [(⟨0, 9, 12, 13⟩ : ExceptionTableEntry)] (⟨0, 9, 15, 50⟩ : ExceptionTableEntry) [] htab hpass (by decide) (by decide) (hT _ nh_cl_L_50) (hK.2.2.1 (g_ISE, g_ISE) (by decide)) h1 h2 h3 ?_
      refine lv_astore_n hx hb nd_L_freeze_15 rfl hl (by decide) (lv' := [(3, .ref q9), (0, .ref h), (1, .int a), (2, .ref out)]) rfl (fun ls hl => ?_)
      refine lv_iconst (v := 2) hx hb nd_L_freeze_16 (by decide) ?_
      exact g_iret hx hb hr hlocks hw hS (la_no hSt ho hR) (by exact Nat.le_of_ble_eq_true rfl) (by exact Nat.le_of_ble_eq_true rfl) nd_L_freeze_17
    · cases hE
  · have ho1 : w1 out = some (la_o G fo) := (hp.2.2.2 out hO).1.trans ho
    refine lv_i2l hx hb nd_L_freeze_7 rfl ?_
    refine xw_last hx hb hK.1 hB hw hS 0 ho1 rfl (by unfold vp_in; decide) nd_L_freeze_8 (fun H locs hw hS => ?_)
    obtain ⟨w2, ew3⟩ : ∃ z, z = va_up w1 out (some (la_o G (vp_updL fo 0 v9.toInt64))) := ⟨_, rfl⟩
    have hw : g_P G w2 H := by rw [ew3]; exact hw
    have ho1 : w2 out = some (la_o G (vp_updL fo 0 v9.toInt64)) := by rw [ew3]; exact va_up_self _ _ _
    refine lv_goto (tgt := 18) hx hb nd_L_freeze_9 (by decide) ?_
    refine lv_iconst (v := 0) hx hb nd_L_freeze_18 (by decide) ?_
    exact g_iret hx hb hr hlocks hw hS (la_yes (S := S) hO ho hp ew3) (by exact Nat.le_of_ble_eq_true rfl) (by exact Nat.le_of_ble_eq_true rfl) nd_L_freeze_19
