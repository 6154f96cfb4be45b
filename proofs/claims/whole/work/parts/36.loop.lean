/-! The law's loop; what is given at its entry. -/
theorem la_cmp {Ln i : Nat} (h1 : Ln ≤ 3584) (h2 : i ≤ 4000) : nI Ln - 7 < nI i ↔ Ln < i + 7 := by
  rw [Int32.lt_iff_toInt_lt, show (7 : Int32) = nI 7 from rfl, pk_sub_toInt (by omega) (by omega), nI_toInt (by omega)]
  omega
set_option maxHeartbeats 4000000 in
set_option maxRecDepth 100000 in
theorem k_loop {p : Program} {l : Launch} {e : Env} {s : State} {m : MethodId} {below : List Frame} {meth : Method} {c : Code} {Q : State → Prop} {b Ln : Nat} {xs : Nat → Int32} {G : g_G} {h e0 sl mo ra sa : Nat} {rr : Nat → Nat} {out : Nat}
    (hl9 : l.stackTraces = false) (hx : p.tables.exec = Jvm.exec) (hb : c.code = nb_L_law) (hml : c.maxLocals = 8) (hown : s.vm.findClass "RadixShelfLaw" = some m.cls) (hts : ∀ w ∈ Cond.initialized "RadixShelf" :: nw_T, w.before #[Value.ref b] s = true) (hX : va_X b Ln xs s s.heap) (hbl : b < s.heap.size) (hG : g_b G = s.heap.size) (hK : g_K G s) (hLn : Ln ≤ 3584)
    (kend : ∀ (H : Heap) (locs : List Loc) (ls : Array Slot) (cells slots : Nat), cells ≤ 601024 → slots ≤ 7293034 → g_S G s.heap H locs → W p l e room_1 s m #[Value.ref b] below meth c H locs cells slots Q (F0 m 1085 ls [])) :
    ∀ (m9 j : Nat) (S : sp_S) (cd : Int32) (w : xw_W) (H : Heap) (locs : List Loc) (ls : Array Slot) (cells slots : Nat), Ln < 7 * (m9 + j) + 7 → m9 + j ≤ 512 → cells + 400 * m9 ≤ 601024 → slots + 6500 * m9 ≤ 7293034 → la_I G w h e0 sl mo ra sa rr out S j cd → lv_has ls 8 [(4, .int (nI (7 * j))), (3, .ref out), (2, .ref mo), (1, .ref h), (0, .ref b)] → g_P G w H → g_S G s.heap H locs → W p l e room_1 s m #[Value.ref b] below meth c H locs cells slots Q (F0 m 23 ls []) := by
  have hnb : ¬ xw_A (g_b G) b := fun z => absurd (show g_b G ≤ b from z) (by omega)
  intro m9
  induction m9 with
  | zero =>
    intro j S cd w H locs ls cells slots h1 h2 h3 h4 hI hl hw hS
    refine lv_iload hx hb nd_L_law_23 (lv_at hl 0 rfl) ?_
    refine lv_aload_n hx hb nd_L_law_25 rfl (lv_at hl 4 rfl) ?_
    refine va_slen hx hb hX hbl hnb hS nd_L_law_26 ?_
    refine lv_bipush (v := 7) hx hb nd_L_law_27 (by decide) ?_
    refine lv_isub hx hb nd_L_law_29 ?_
    refine lv_icmp_gt (tgt := 1085) hx hb nd_L_law_30 (by decide) (fun hc => kend H locs ls cells slots (by omega) (by omega) hS) (fun hc => absurd ((la_cmp hLn (by omega)).mpr (by omega)) hc)
  | succ m9 ih =>
    intro j S cd w H locs ls cells slots h1 h2 h3 h4 hI hl hw hS
    refine lv_iload hx hb nd_L_law_23 (lv_at hl 0 rfl) ?_
    refine lv_aload_n hx hb nd_L_law_25 rfl (lv_at hl 4 rfl) ?_
    refine va_slen hx hb hX hbl hnb hS nd_L_law_26 ?_
    refine lv_bipush (v := 7) hx hb nd_L_law_27 (by decide) ?_
    refine lv_isub hx hb nd_L_law_29 ?_
    refine lv_icmp_gt (tgt := 1085) hx hb nd_L_law_30 (by decide) (fun hc => kend H locs ls cells slots (by omega) (by omega) hS) (fun hc => ?_)
    have hi : 7 * j + 7 ≤ Ln := Nat.not_lt.mp (fun z => hc ((la_cmp hLn (by omega)).mpr z))
    have go : ∀ (S' : sp_S) (cd' : Int32) (w' : xw_W) (H' : Heap) (locs' : List Loc) (ls' : Array Slot), la_I G w' h e0 sl mo ra sa rr out S' (j + 1) cd' → lv_has ls' 8 [(4, .int (nI (7 * j))), (3, .ref out), (2, .ref mo), (1, .ref h), (0, .ref b)] → g_P G w' H' → g_S G s.heap H' locs' → W p l e room_1 s m #[Value.ref b] below meth c H' locs' (cells + 400) (slots + 6500) Q (F0 m 1079 ls' []) := by
      intro S' cd' w' H' locs' ls' hI' hl' hw' hS'
      refine lv_iinc (k := 0) hx hb nd_L_law_1079 hl' rfl rfl (by decide) (lv' := [(4, .int (nI (7 * j) + 7)), (3, .ref out), (2, .ref mo), (1, .ref h), (0, .ref b)]) rfl (fun ls hl => ?_)
      rw [show nI (7 * j) + 7 = nI (7 * (j + 1)) from (nI_add (7 * j) 7).trans (congrArg nI (by omega))] at hl
      refine lv_goto (tgt := 23) hx hb nd_L_law_1082 (by decide) ?_
      exact ih (j + 1) S' cd' w' H' locs' ls _ _ (by omega) (by omega) (by omega) (by omega) hI' hl hw' hS'
    refine lv_aload_n hx hb nd_L_law_33 rfl (lv_at hl 4 rfl) ?_
    refine lv_iload hx hb nd_L_law_34 (lv_at hl 0 rfl) ?_
    refine va_sld hx hb hX hbl hnb hS (vp_in_nI (by omega) (by omega)) nd_L_law_36 ?_
    refine lv_bipush (v := 15) hx hb nd_L_law_37 (by decide) ?_
    refine lv_iand hx hb nd_L_law_39 ?_
    refine lv_topi (fun y ey => ?_)
    obtain ⟨q, hq, eq⟩ := pk_andE (xs (nI (7 * j)).toNatClampNeg) (m := 15) 4 (by decide)
    obtain rfl : nI q = y := eq.symm.trans ey.symm
    rcases (show q = 0 ∨ q = 1 ∨ q = 2 ∨ q = 3 ∨ q = 4 ∨ q = 5 ∨ q = 6 ∨ q = 7 ∨ q = 8 ∨ q = 9 ∨ q = 10 ∨ 11 ≤ q by omega) with rfl | rfl | rfl | rfl | rfl | rfl | rfl | rfl | rfl | rfl | rfl | h11
    · exact lv_tableIn (tgt := 100) hx hb nd_L_law_40 (by decide) (by decide) rfl (by decide) (k_add hl9 hx hb hml hown hts hX hbl hG hK hLn hi (by omega) hI hl hw hS (by omega) (by omega) go)
    · exact lv_tableIn (tgt := 212) hx hb nd_L_law_40 (by decide) (by decide) rfl (by decide) (k_push hl9 hx hb hml hown hts hX hbl hG hK hLn hi (by omega) hI hl hw hS (by omega) (by omega) go)
    · exact lv_tableIn (tgt := 324) hx hb nd_L_law_40 (by decide) (by decide) rfl (by decide) (k_set hl9 hx hb hml hown hts hX hbl hG hK hLn hi (by omega) hI hl hw hS (by omega) (by omega) go)
    · exact lv_tableIn (tgt := 447) hx hb nd_L_law_40 (by decide) (by decide) rfl (by decide) (k_at hl9 hx hb hml hown hts hX hbl hG hK hLn hi (by omega) hI hl hw hS (by omega) (by omega) go)
    · exact lv_tableIn (tgt := 514) hx hb nd_L_law_40 (by decide) (by decide) rfl (by decide) (k_cut hl9 hx hb hml hown hts hX hbl hG hK hLn hi (by omega) hI hl hw hS (by omega) (by omega) go)
    · exact lv_tableIn (tgt := 606) hx hb nd_L_law_40 (by decide) (by decide) rfl (by decide) (k_fill hl9 hx hb hml hown hts hX hbl hG hK hLn hi (by omega) hI hl hw hS (by omega) (by omega) go)
    · exact lv_tableIn (tgt := 764) hx hb nd_L_law_40 (by decide) (by decide) rfl (by decide) (k_size hl9 hx hb hml hown hts hX hbl hG hK hLn hi (by omega) hI hl hw hS (by omega) (by omega) go)
    · exact lv_tableIn (tgt := 820) hx hb nd_L_law_40 (by decide) (by decide) rfl (by decide) (k_hash hl9 hx hb hml hown hts hX hbl hG hK hLn hi (by omega) hI hl hw hS (by omega) (by omega) go)
    · exact lv_tableIn (tgt := 875) hx hb nd_L_law_40 (by decide) (by decide) rfl (by decide) (k_open hl9 hx hb hml hown hts hX hbl hG hK hLn hi (by omega) hI hl hw hS (by omega) (by omega) go)
    · exact lv_tableIn (tgt := 911) hx hb nd_L_law_40 (by decide) (by decide) rfl (by decide) (k_build hl9 hx hb hml hown hts hX hbl hG hK hLn hi (by omega) hI hl hw hS (by omega) (by omega) go)
    · exact lv_tableIn (tgt := 1023) hx hb nd_L_law_40 (by decide) (by decide) rfl (by decide) (k_freeze hl9 hx hb hml hown hts hX hbl hG hK hLn hi (by omega) hI hl hw hS (by omega) (by omega) go)
    · refine lv_tableOut (tgt := 1079) hx hb nd_L_law_40 (Or.inr (by rw [nI_toInt (by omega)]; omega)) (by decide) ?_
      exact W.widen (k := cells + 400) (n := slots + 6500) (by omega) (by omega) (go S cd w H locs ls ⟨hI.1.mono (by omega), hI.2⟩ hl hw hS)
theorem la_start {G : g_G} {w2 w3 w4 w5 : xw_W} {h e0 sl mo ra sa : Nat} {rr : Nat → Nat} {out : Nat} {c3 : List Value} {S : sp_S} {f : Nat → Int64} (hS : sh_S G w2 h e0 sl S 0) (hmo : w2 mo = none) (e3 : w3 = va_up w2 mo (some (.inr (5, c3)))) (hM : mo_I G w4 mo ra sa rr S 0) (hF1 : ∀ a, w3 a ≠ none → a ≠ mo → w4 a = w3 a) (hF2 : ∀ k n, tr_isN w4 k n → w4 n = w3 n) (hra : w3 ra = none) (hsa : w3 sa = none) (hrr : ∀ k, k < 17 → w3 (rr k) = none) (hout : w4 out = none) (e5 : w5 = va_up w4 out (some (la_o G f))) :
    la_I G w5 h e0 sl mo ra sa rr out S 0 0 := by
  obtain ⟨f1, ⟨hm, ⟨g, hra4, hg⟩, ⟨fs, hsa4, hfs⟩, hrow, hinj⟩, hv⟩ := id hM
  have k23 : ∀ a, a ≠ mo → w3 a = w2 a := fun a ha => by rw [e3, va_up_ne _ _ ha]
  have hm3 : w3 mo = some (.inr (5, c3)) := by rw [e3]; exact va_up_self _ _ _
  have k24 : ∀ a, w2 a ≠ none → w4 a = w2 a := fun a ha => by
    have n1 : a ≠ mo := fun z => ha (by rw [z]; exact hmo)
    rw [hF1 a (by rw [k23 a n1]; exact ha) n1, k23 a n1]
  have k45 : ∀ a e, w4 a = some e → w5 a = some e := fun a e9 ha => by rw [e5, va_up_ne _ _ (xw_nn ha hout)]; exact ha
  have ho5 : w5 out = some (la_o G f) := by rw [e5]; exact va_up_self _ _ _
  have hk : ∀ a, w2 a ≠ none → w5 a = w2 a := fun a ha => by
    cases h9 : w2 a with
    | none => exact absurd h9 ha
    | some e9 => exact k45 a e9 ((k24 a ha).trans h9)
  have hb : ∀ k n, tr_isN w5 k n → w5 n = w2 n := fun k n hn => by
    have n1 : n ≠ out := fun z => by
      obtain ⟨-, s, x, hx⟩ := hn
      rw [z, ho5] at hx
      cases hx
    have e9 : w5 n = w4 n := by rw [e5, va_up_ne _ _ n1]
    have hn4 := tr_isN_eq e9.symm hn
    have e8 := hF2 k n hn4
    have hn3 := tr_isN_eq e8.symm hn4
    rw [e9, e8, k23 n (tr_isN_ne hn3 hm3 (by decide))]
  obtain ⟨L, bd, gg, hL, hI⟩ := hS
  obtain ⟨hI5, hO5⟩ := sh_more hI hk hb
  have z3 : ∀ a, w3 a = none → w2 a = none := fun a ha => by
    have n1 : a ≠ mo := fun z => by rw [z, hm3] at ha; cases ha
    rw [← k23 a n1]; exact ha
  have zo : w2 out = none := by
    cases h9 : w2 out with
    | none => rfl
    | some e9 =>
      have h8 := k24 out (by rw [h9]; exact fun z => by cases z)
      rw [hout, h9] at h8
      cases h8
  have seqA : ∀ {w : xw_W} {a : Nat} {e : ClassId × vp_A}, w a = some (.inl e) → ∃ e, w a = some e ∧ ∀ l, e ≠ .inr (tr_kS, l) := fun {w a e} ha => ⟨_, ha, fun l z => by cases z⟩
  refine ⟨⟨L, bd, gg, hL, hI5⟩, ⟨f1, ⟨k45 _ _ hm, ⟨g, k45 _ _ hra4, hg⟩, ⟨fs, k45 _ _ hsa4, hfs⟩, fun k hk9 => ⟨(hrow k hk9).1, k45 _ _ (hrow k hk9).2⟩, hinj⟩, hv⟩, ⟨f, ho5⟩, ⟨hO5 _ zo (seqA ho5), hO5 _ hmo ⟨_, k45 _ _ hm, fun l z => by injection z with z; injection z with z; exact absurd z (by decide)⟩, hO5 _ (z3 _ hra) (seqA (k45 _ _ hra4)), hO5 _ (z3 _ hsa) (seqA (k45 _ _ hsa4)), fun k hk9 => hO5 _ (z3 _ (hrr k hk9)) (seqA (k45 _ _ (hrow k hk9).2))⟩, Ne.symm (xw_nn hm hout), Ne.symm (xw_nn hra4 hout), Ne.symm (xw_nn hsa4 hout), fun k hk9 => Ne.symm (xw_nn (hrow k hk9).2 hout)⟩
/-- the tables and what is given make the environment -/
theorem g_env {s : State} {b : Nat} (hts : ∀ w ∈ lw_tbl, w.before #[Value.ref b] s = true) (hgv : (Jvm.Cond.and given_1 narrow_1).before #[Value.ref b] s = true) : ∃ G : g_G, g_b G = s.heap.size ∧ g_K G s := by
  have hT : ∀ w ∈ nw_T, w.before #[Value.ref b] s = true := fun w h => hts w (List.mem_filter.mp h).1
  have fl := flat_of_before _ hgv
  obtain ⟨cB, iB, kB⟩ := u_known (C := nR_B) (T := nT_B) (N := 2) hT nu_B (hT _ nh_is_B)
  obtain ⟨cF, iF, kF⟩ := u_known (C := nR_F) (T := nT_F) (N := 2) hT nu_F (hT _ nh_is_F)
  obtain ⟨cR, iR, kR⟩ := u_known (C := nR_R) (T := nT_R) (N := 2) hT nu_R (hT _ nh_is_R)
  obtain ⟨cQ, iQ, kQ⟩ := u_known (C := nR_Q) (T := nT_Q) (N := 5) hT nu_Q (hT _ nh_is_Q)
  obtain ⟨cS, iS, kS⟩ := u_known (C := nR_S) (T := nT_S) (N := 4) hT nu_S (hT _ nh_is_S)
  obtain ⟨cM, iM, kM⟩ := u_known (C := nR_M) (T := nT_M) (N := 4) hT nu_M (hT _ nh_is_M)
  obtain ⟨a0, k0, p0, f0, c0, d0⟩ := Cond.arrayClass_spec (hT _ nh_ac_long)
  obtain ⟨a4, k4, p4, f4, c4, d4⟩ := Cond.arrayClass_spec (hT _ nh_ac_int)
  have w1 := hts (.arrayOver (.object "RadixShelf$Leaf")) (by decide +kernel)
  have w2 := hts (.arrayOver (.object "RadixShelf$Branch")) (by decide +kernel)
  have w3 := hts (.arrayOver (.object "RadixShelf$Sequence")) (by decide +kernel)
  have w5 : g_AL s := hts (.arrayOver (.array .long)) (by decide +kernel)
  obtain ⟨p1, a1, k1, f1, -, c1, d1, g1⟩ := Cond.arrayOver_spec w1
  obtain ⟨p2, a2, k2, f2, -, c2, d2, g2⟩ := Cond.arrayOver_spec w2
  obtain ⟨p3, a3, k3, f3, -, c3, d3, g3⟩ := Cond.arrayOver_spec w3
  obtain ⟨p5, a5, k5, f5, -, c5, d5, g5⟩ := g_AL.spec w5
  have st : ∀ i, ∃ a, i < 7 → vk_R "RadixShelf" (g_str i).1 (g_str i).2 a s := by
    intro i
    by_cases hi : i < 7
    · rcases (show i = 0 ∨ i = 1 ∨ i = 2 ∨ i = 3 ∨ i = 4 ∨ i = 5 ∨ i = 6 by omega) with rfl | rfl | rfl | rfl | rfl | rfl | rfl
      · obtain ⟨a, -, -, -, ha, -⟩ := Cond.exactly_spec (fl (.exactly (.string "RadixShelf" 110) "java/lang/String") (by decide +kernel))
        exact ⟨a, fun _ => vk_R.of (hts (.stringRef "RadixShelf" 110 "a number is out of range") (by decide +kernel)) ha⟩
      · obtain ⟨a, -, -, -, ha, -⟩ := Cond.exactly_spec (fl (.exactly (.string "RadixShelf" 119) "java/lang/String") (by decide +kernel))
        exact ⟨a, fun _ => vk_R.of (hts (.stringRef "RadixShelf" 119 "the sequence is full") (by decide +kernel)) ha⟩
      · obtain ⟨a, -, -, -, ha, -⟩ := Cond.exactly_spec (fl (.exactly (.string "RadixShelf" 115) "java/lang/String") (by decide +kernel))
        exact ⟨a, fun _ => vk_R.of (hts (.stringRef "RadixShelf" 115 "there is no such element") (by decide +kernel)) ha⟩
      · obtain ⟨a, -, -, -, ha, -⟩ := Cond.exactly_spec (fl (.exactly (.string "RadixShelf" 113) "java/lang/String") (by decide +kernel))
        exact ⟨a, fun _ => vk_R.of (hts (.stringRef "RadixShelf" 113 "a number is less than 0") (by decide +kernel)) ha⟩
      · obtain ⟨a, -, -, -, ha, -⟩ := Cond.exactly_spec (fl (.exactly (.string "RadixShelf" 69) "java/lang/String") (by decide +kernel))
        exact ⟨a, fun _ => vk_R.of (hts (.stringRef "RadixShelf" 69 "fewer elements than are to be cut") (by decide +kernel)) ha⟩
      · obtain ⟨a, -, -, -, ha, -⟩ := Cond.exactly_spec (fl (.exactly (.string "RadixShelf" 86) "java/lang/String") (by decide +kernel))
        exact ⟨a, fun _ => vk_R.of (hts (.stringRef "RadixShelf" 86 "the builder is there already") (by decide +kernel)) ha⟩
      · obtain ⟨a, -, -, -, ha, -⟩ := Cond.exactly_spec (fl (.exactly (.string "RadixShelf" 92) "java/lang/String") (by decide +kernel))
        exact ⟨a, fun _ => vk_R.of (hts (.stringRef "RadixShelf" 92 "the builder is not there") (by decide +kernel)) ha⟩
    · exact ⟨0, fun z => absurd z hi⟩
  refine ⟨((fun c => match c with | 0 => cB | 1 => cF | 2 => cR | 3 => cQ | 4 => cS | _ => cM, fun c => match c with | 0 => iB | 1 => iF | 2 => iR | 3 => iQ | 4 => iS | _ => iM), (fun t => match t with | 0 => a0 | 1 => a1 | 2 => a2 | 3 => a3 | 4 => a4 | _ => a5), s.heap.size, fun i => Classical.choose (st i)), rfl, ⟨⟨fun c q hq => ?_, fun k q hq => ?_⟩, ⟨va_AO.of w1, va_AO.of w2, va_AO.of w3, w5⟩, fun q hq => ?_, fun q hq => ?_, fun i hi => Classical.choose_spec (st i) hi, ?_, ?_, fun x hx => ?_⟩⟩
  · rcases c with _ | _ | _ | _ | _ | _ | c
    · cases (Option.some.inj hq : (nR_B, nT_B, 2) = q); exact kB
    · cases (Option.some.inj hq : (nR_F, nT_F, 2) = q); exact kF
    · cases (Option.some.inj hq : (nR_R, nT_R, 2) = q); exact kR
    · cases (Option.some.inj hq : (nR_Q, nT_Q, 5) = q); exact kQ
    · cases (Option.some.inj hq : (nR_S, nT_S, 4) = q); exact kS
    · cases (Option.some.inj hq : (nR_M, nT_M, 4) = q); exact kM
    · exact absurd (show (none : Option vw_C) = some q from hq) (fun z => by cases z)
  · rcases k with _ | _ | _ | _ | _ | _ | k
    · cases (Option.some.inj hq : (a0, FieldType.long) = q); exact ⟨fun n z => ⟨fun k h => (by cases h), k0, c0, p0, d0⟩, f0⟩
    · cases (Option.some.inj hq : (a1, FieldType.object "RadixShelf$Leaf") = q); exact ⟨fun n z => ⟨fun k h => (by cases h), k1, c1, p1, d1⟩, ⟨k1, p1, c1, d1, f1, g1⟩⟩
    · cases (Option.some.inj hq : (a2, FieldType.object "RadixShelf$Branch") = q); exact ⟨fun n z => ⟨fun k h => (by cases h), k2, c2, p2, d2⟩, ⟨k2, p2, c2, d2, f2, g2⟩⟩
    · cases (Option.some.inj hq : (a3, FieldType.object "RadixShelf$Sequence") = q); exact ⟨fun n z => ⟨fun k h => (by cases h), k3, c3, p3, d3⟩, ⟨k3, p3, c3, d3, f3, g3⟩⟩
    · cases (Option.some.inj hq : (a4, FieldType.int) = q); exact ⟨fun n z => ⟨fun k h => (by cases h), k4, c4, p4, d4⟩, f4⟩
    · cases (Option.some.inj hq : (a5, FieldType.array .long) = q); exact ⟨fun n z => ⟨fun k h => (by cases h), k5, c5, p5, d5⟩, g5⟩
    · exact absurd (show (none : Option (ClassId × FieldType)) = some q from hq) (fun z => by cases z)
  · exact hts _ ((by decide +kernel : ∀ q ∈ g_cast, Cond.castable q.1 q.2 ∈ lw_tbl) q hq)
  · exact va_Nc.of (fl _ ((by decide +kernel : ∀ q ∈ g_not, Cond.not (.castable q.1 q.2) ∈ flatC (Jvm.Cond.and given_1 narrow_1)) q hq))
  · exact vx_Zqof (hts (.laysStatic Bundle.tN "UNASSIGNED_STACK" Bundle.steD) (by decide +kernel)) (hts (.initialized Bundle.tN) (by decide +kernel)) (fl (.isRef (.static Bundle.tN "UNASSIGNED_STACK" Bundle.steD)) (by decide +kernel)) (fun a ha z => absurd (show s.heap.size ≤ a from z) (by omega))
  · exact vx_Zqof (hts (.laysStatic Bundle.tN "SUPPRESSED_SENTINEL" Bundle.listD) (by decide +kernel)) (hts (.initialized Bundle.tN) (by decide +kernel)) (fl (.isRef (.static Bundle.tN "SUPPRESSED_SENTINEL" Bundle.listD)) (by decide +kernel)) (fun a ha z => absurd (show s.heap.size ≤ a from z) (by omega))
  · exact hts _ ((by decide +kernel : ∀ x ∈ g_decl, Cond.declares x ∈ lw_tbl) x hx)
