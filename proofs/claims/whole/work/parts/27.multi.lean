/-! rows of rows; the reference's constructor -/
/-- a cell of the heap that no world's cell is may be counted in -/
theorem xw_add {D : va_G} {cl : List vw_C} {b : Nat} {w : xw_W} {H : Heap} {q : Nat} {e : ClassId × vp_A} (h : xw_P D cl b w H) (hq : w q = none) (hb : b ≤ q) (hc : H[q]? = some (vp_cell e.1 e.2)) : xw_P D cl b (va_up w q (some (.inl e))) H := by
  obtain ⟨hb0, ws, hP, hD, hw⟩ := h
  have hnot : ∀ (k : Nat) (x : Nat × va_E), ws[k]? = some x → x.1 ≠ q := fun k x hx z => by
    have := (hw x.1 x.2).mpr ⟨k, hx⟩
    rw [z, hq] at this
    cases this
  have last : ∀ (k : Nat) (x : Nat × va_E), (ws ++ [(q, Sum.inl e)])[k]? = some x → (k < ws.length ∧ ws[k]? = some x) ∨ (k = ws.length ∧ x = (q, .inl e)) := fun k x hx => by
    by_cases hl : k < ws.length
    · rw [List.getElem?_append_left hl] at hx
      exact Or.inl ⟨hl, hx⟩
    · have hl2 : k < (ws ++ [(q, Sum.inl e)]).length := (List.getElem?_eq_some_iff.mp hx).1
      simp at hl2
      have hk : k = ws.length := by omega
      rw [hk, List.getElem?_append_right (Nat.le_refl _), Nat.sub_self] at hx
      exact Or.inr ⟨hk, (Option.some.inj hx).symm⟩
  have hD' : va_D (xw_A b) (ws ++ [(q, .inl e)]) := by
    refine ⟨fun i j x y hi hj hxy => ?_, fun k x hx => ?_⟩
    · rcases last i x hi with ⟨h1, h2⟩ | ⟨h1, h2⟩ <;> rcases last j y hj with ⟨h3, h4⟩ | ⟨h3, h4⟩
      · exact hD.1 i j x y h2 h4 hxy
      · exact absurd (by rw [hxy, h4]) (hnot i x h2)
      · exact absurd (by rw [← hxy, h2]) (hnot j y h4)
      · rw [h1, h3]
    · rcases last k x hx with ⟨h1, h2⟩ | ⟨h1, h2⟩
      · exact hD.2 k x h2
      · rw [h2]; exact hb
  refine ⟨hb0, _, fun k x hx => ?_, hD', xw_push hD' hw⟩
  rcases last k x hx with ⟨h1, h2⟩ | ⟨h1, h2⟩
  · exact hP k x h2
  · rw [h2]; exact hc
/-- a world with rows of rows at q -/
def mo_W (w : xw_W) (q cA cB N M : Nat) : Nat → xw_W
  | 0 => va_up w q (some (.inl (cA, N, .inr (.inr (.inr (.inr (fun j => some (q + 1 + j))))))))
  | j + 1 => va_up (mo_W w q cA cB N M j) (q + 1 + j) (some (.inl (cB, M, .inr (.inl (fun _ => 0)))))
theorem mo_W_old {w : xw_W} {q cA cB N M : Nat} : ∀ (j a : Nat), (a < q ∨ q + 1 + j ≤ a) → mo_W w q cA cB N M j a = w a
  | 0, a, h => va_up_ne _ _ (by omega)
  | j + 1, a, h => by
    show va_up _ _ _ _ = _
    rw [va_up_ne _ _ (by omega)]
    exact mo_W_old j a (by omega)
theorem mo_W_out {w : xw_W} {q cA cB N M : Nat} : ∀ j, mo_W w q cA cB N M j q = some (.inl (cA, N, .inr (.inr (.inr (.inr (fun j => some (q + 1 + j)))))))
  | 0 => va_up_self _ _ _
  | j + 1 => by
    show va_up _ _ _ _ = _
    rw [va_up_ne _ _ (by omega)]
    exact mo_W_out j
theorem mo_W_in {w : xw_W} {q cA cB N M : Nat} : ∀ j k, k < j → mo_W w q cA cB N M j (q + 1 + k) = some (.inl (cB, M, .inr (.inl (fun _ => 0))))
  | 0, _, h => absurd h (by omega)
  | j + 1, k, h => by
    show va_up _ _ _ _ = _
    by_cases e : k = j
    · rw [e]; exact va_up_self _ _ _
    · rw [va_up_ne _ _ (by omega)]
      exact mo_W_in j k (by omega)
theorem mo_arr {cA : ClassId} {N : Nat} {f f' : Nat → Value} (h : ∀ j, j < N → f j = f' j) : arrV cA N f = arrV cA N f' := by
  unfold arrV
  rw [show (fun j : Fin N => f j.val) = (fun j : Fin N => f' j.val) from funext (fun j => h j.val j.isLt)]
section XWM
variable {p : Program} {l : Launch} {e : Env} {R : Room} {s : State} {m : MethodId} {args : Array Value} {below : List Frame} {meth : Method} {c : Code} {H : Heap} {locs : List Loc} {cells slots : Nat} {Q : State → Prop}
variable {cc : ByteArray} {pc : Nat} {ls : Array Slot} {rest : List Value} {G : g_G} {w : xw_W} {H0 : Heap}
theorem xw_multi (hx : p.tables.exec = Jvm.exec) (hb : c.code = cc) {own : String} {index : Nat} (hown : s.vm.findClass own = some m.cls) (hcl : (Cond.classLink own index "[[J").before args s = true) (harr : (Cond.arrayClass .long).before args s = true) (hK : g_K G s) (hB : g_b G ≤ H0.size) (hw : g_P G w H) (hS : g_S G H0 H locs)
    {n k : Int32} {N M : Nat} (hn : n = nI N) (hk : k = nI M) (hN : N * 4 ≤ 536870912) (hM : M * 8 ≤ 536870912) (hcells : cells + (1 + N) ≤ R.cells) (hslots : slots + (N + N * M) ≤ R.slots) (hdg : decode cc pc = .ok (.multianewarray index 2, 4))
    (kk : ∀ (q : Nat) (H1 : Heap), (∀ a, q ≤ a → w a = none) → g_P G (mo_W w q (G.2.1 5) (G.2.1 0) N M N) H1 → g_S G H0 H1 locs →
      W p l e R s m args below meth c H1 locs (cells + (1 + N)) (slots + (N + N * M)) Q (F0 m (pc + 4) ls (.ref q :: rest))) : W p l e R s m args below meth c H locs cells slots Q (F0 m pc ls (.int k :: .int n :: rest)) := by
  refine mz_row hx hb hown hcl harr hK.2.1.2.2.2 hn hk hN hM hcells hslots hdg (fun v1 cA cB V hA hBf hI => ?_)
  obtain ⟨X1, -, hz, ho, hi, hq⟩ := hI
  have ecA : cA = G.2.1 5 := Option.some.inj (hA.symm.trans (hK.1.2 5 _ rfl).2)
  have ecB : cB = G.2.1 0 := Option.some.inj (hBf.symm.trans (hK.1.2 0 _ rfl).2)
  have hnone : ∀ a, H.size ≤ a → w a = none := fun a ha => by
    cases h9 : w a with
    | none => rfl
    | some e9 => exact absurd (hw.lt h9) (by omega)
  have hw1 : g_P G w V.heap := hw.grow (by rw [hz]; omega) hq
  have hb0 : g_b G ≤ H.size := Nat.le_trans hB hS.1
  have hwj : ∀ j, j ≤ N → g_P G (mo_W w H.size (G.2.1 5) (G.2.1 0) N M j) V.heap := by
    intro j
    induction j with
    | zero =>
      intro _
      refine xw_add hw1 (hnone _ (Nat.le_refl _)) hb0 ?_
      rw [ho, ecA]
      exact congrArg some (show arrV (G.2.1 5) N (fun j => va_rf (if j < N then some (H.size + 1 + j) else none)) = arrV (G.2.1 5) N (fun j => va_rf (some (H.size + 1 + j))) from mo_arr (fun j hj => by rw [if_pos hj]))
    | succ j ih =>
      intro hj
      refine xw_add (ih (by omega)) (by rw [mo_W_old j _ (by omega)]; exact hnone _ (by omega)) (by omega) ?_
      rw [hi j (by omega), ecB]
      rfl
  have hS1 : g_S G H0 V.heap locs := ⟨by rw [hz]; exact Nat.le_trans hS.1 (by omega), fun q h1 h2 => (hq q (Nat.lt_of_lt_of_le h1 hS.1)).trans (hS.2.1 q h1 h2), hS.2.2⟩
  exact kk H.size V.heap hnone (hwj N (Nat.le_refl _)) hS1 V rfl X1
end XWM
/-- new cells, and cells that are none of the shelf's: the shelf stays -/
theorem sh_more {G : g_G} {w w2 : xw_W} {h e0 sl L : Nat} {op : Bool} {sz : Nat → Nat} {vs : Nat → Nat → Int64} {bd : Option (Nat × Nat)} {g : Nat → Option Nat} (hI : sh_I G w h e0 sl op sz vs L bd g) (hk : ∀ a, w a ≠ none → w2 a = w a) (hb : ∀ k m, tr_isN w2 k m → w2 m = w m) :
    sh_I G w2 h e0 sl op sz vs L bd g ∧ ∀ a, w a = none → (∃ e, w2 a = some e ∧ ∀ l, e ≠ .inr (tr_kS, l)) → sh_O w2 h sl a := by
  obtain ⟨hh, hsl, hW, hfr, hop, hsq, ⟨hne0, s0, r0, t0, h0⟩, hbd⟩ := hI
  have eq : ∀ a e, w a = some e → w2 a = w a := fun a e ha => hk a (by rw [ha]; exact fun z => by cases z)
  have nodes : ∀ k m, tr_isN w k m → tr_Same w w2 m := fun k m hm => by
    obtain ⟨e1, he1⟩ := hW.1 k m hm
    obtain ⟨s, x, hx⟩ := hm.2
    exact ⟨eq _ _ hx, eq _ _ he1⟩
  have back : ∀ k m, tr_isN w2 k m → tr_isN w k m := fun k m hm => tr_isN_eq (hb k m hm).symm hm
  have W2 := tr_Wi_all hW nodes back
  refine ⟨⟨(eq _ _ hh).trans hh, (eq _ _ hsl).trans hsl, W2, tr_Fre_all hfr nodes back, hop, fun k hk => ?_, ⟨hne0, s0, r0, t0, tr_So_same h0 (eq _ _ h0.1) (fun k m hm _ => nodes k m hm)⟩, fun q d hqd => ?_⟩, fun a ha hx => ⟨hx, fun z => ?_, fun z => ?_, fun k n hn => ?_⟩⟩
  · obtain ⟨q, hg, hb, s9, r9, t9, o9, hS⟩ := hsq k hk
    exact ⟨q, hg, hb, s9, r9, t9, o9, tr_So_same hS (eq _ _ hS.1) (fun k m hm _ => nodes k m hm)⟩
  · obtain ⟨r9, t9, o9, D9, v9⟩ := hbd q d hqd
    obtain ⟨D3, v3⟩ := tr_Df_all D9 W2 (Nat.le_refl _) (eq _ _ D9.2.2.1) nodes
    exact ⟨r9, t9, o9, D3, fun i hi => by rw [v3 _ (by omega)]; exact v9 i hi⟩
  · rw [z, hh] at ha; cases ha
  · rw [z, hsl] at ha; cases ha
  · obtain ⟨e1, he1⟩ := hW.1 k n (back k n hn)
    rw [(nodes _ _ (back k n hn)).arr]
    exact xw_nn he1 ha
