/-! The law's state between two calls: class and reference hold the same. -/
def la_I (G : g_G) (w : xw_W) (h e0 sl mo ra sa : Nat) (rr : Nat → Nat) (out : Nat) (S : sp_S) (K : Nat) (cd : Int32) : Prop :=
  sh_S G w h e0 sl S K ∧ mo_I G w mo ra sa rr S cd ∧ (∃ fo, w out = some (la_o G fo)) ∧ (sh_O w h sl out ∧ sh_O w h sl mo ∧ sh_O w h sl ra ∧ sh_O w h sl sa ∧ ∀ k, k < 17 → sh_O w h sl (rr k)) ∧ out ≠ mo ∧ out ≠ ra ∧ out ≠ sa ∧ ∀ k, k < 17 → out ≠ rr k
theorem la_1 {G : g_G} {w w1 : xw_W} {h e0 sl mo ra sa : Nat} {rr : Nat → Nat} {out K : Nat} {S : sp_S} {cd k : Int32} {R : sp_R} (hI : la_I G w h e0 sl mo ra sa rr out S K cd) (hp : la_P G w h e0 sl out K R k w1) :
    sh_S G w1 h e0 sl R.2.2 (K + 1) ∧ mo_I G w1 mo ra sa rr S cd ∧ (∃ fo, w1 out = some (la_o G fo) ∧ (R.1 = 0 → fo 0 = R.2.1)) ∧ sh_O w1 h sl out ∧ sh_O w1 h sl mo ∧ sh_O w1 h sl ra ∧ sh_O w1 h sl sa ∧ ∀ k, k < 17 → sh_O w1 h sl (rr k) := by
  obtain ⟨-, ⟨f, ⟨hm, ⟨g, hra, hg⟩, ⟨fs, hsa, hfs⟩, hrow, hinj⟩, hv⟩, -, ⟨o1, o2, o3, o4, o5⟩, n1, n2, n3, n4⟩ := hI
  obtain ⟨-, hS, ho, hF⟩ := hp
  refine ⟨hS, ⟨f, ⟨((hF _ o2).2 (Ne.symm n1)).trans hm, ⟨g, ((hF _ o3).2 (Ne.symm n2)).trans hra, hg⟩, ⟨fs, ((hF _ o4).2 (Ne.symm n3)).trans hsa, hfs⟩, fun k hk => ⟨(hrow k hk).1, ((hF _ (o5 k hk)).2 (Ne.symm (n4 k hk))).trans (hrow k hk).2⟩, hinj⟩, hv⟩, ho, (hF _ o1).1, (hF _ o2).1, (hF _ o3).1, (hF _ o4).1, fun k hk => (hF _ (o5 k hk)).1⟩
theorem la_2 {G : g_G} {w1 w2 : xw_W} {h e0 sl mo ra sa : Nat} {rr : Nat → Nat} {out K : Nat} {S : sp_S} {cd : Int32} {R : sp_R} {x : Int64} {fo : Nat → Int64} (hS : sh_S G w1 h e0 sl R.2.2 K) (hM : mo_I G w1 mo ra sa rr S cd) (ho : w1 out = some (la_o G fo)) (hO : sh_O w1 h sl out ∧ sh_O w1 h sl mo ∧ sh_O w1 h sl ra ∧ sh_O w1 h sl sa ∧ ∀ k, k < 17 → sh_O w1 h sl (rr k)) (hn : out ≠ mo ∧ out ≠ ra ∧ out ≠ sa ∧ ∀ k, k < 17 → out ≠ rr k) (hp : mo_Post G w1 mo ra sa rr R x w2) :
    la_I G w2 h e0 sl mo ra sa rr out R.2.2 K (nI R.1) ∧ w2 out = some (la_o G fo) := by
  obtain ⟨f1, ⟨hm, ⟨g, hra, hg⟩, ⟨fs, hsa, hfs⟩, hrow, hinj⟩, hv⟩ := hM
  obtain ⟨hI2, -, hF⟩ := hp
  obtain ⟨f2, ⟨hm2, ⟨g2, hra2, hg2⟩, ⟨fs2, hsa2, hfs2⟩, hrow2, hinj2⟩, hv2⟩ := id hI2
  obtain ⟨o1, o2, o3, o4, o5⟩ := hO
  obtain ⟨n1, n2, n3, n4⟩ := hn
  have ch : ∀ a, w2 a ≠ w1 a → a = mo ∨ a = sa ∨ ∃ k, k < 17 ∧ a = rr k := fun a ha => Classical.byContradiction (fun z => ha (hF a (fun e => z (Or.inl e)) (fun e => z (Or.inr (Or.inl e))) (fun k hk e => z (Or.inr (Or.inr ⟨k, hk, e⟩)))))
  have noA : ∀ {w : xw_W} {a : Nat} {e : ClassId × vp_A}, w a = some (.inl e) → ∀ k, ¬ tr_isN w k a := fun {w a e} ha k hn => by
    obtain ⟨-, s, x, hx⟩ := hn
    rw [ha] at hx
    cases hx
  obtain ⟨L, bd, gg, hL, hI⟩ := hS
  obtain ⟨hI3, hO3⟩ := sh_stays (w2 := w2) hI (fun a ha => by
    rcases ch a ha with rfl | rfl | ⟨k, hk, rfl⟩
    · exact ⟨o2, fun k hn => tr_isN_ne hn hm (by decide) rfl⟩
    · exact ⟨o4, noA hsa⟩
    · exact ⟨o5 k hk, noA (hrow k hk).2⟩) (fun k m hmn => Classical.byContradiction (fun z => by
      rcases ch m z with rfl | rfl | ⟨k', hk', rfl⟩
      · exact tr_isN_ne hmn hm2 (by decide) rfl
      · exact noA hsa2 _ hmn
      · exact noA (hrow2 k' hk').2 _ hmn))
  have eo : w2 out = w1 out := hF out n1 n3 n4
  have er : w2 ra = w1 ra := hF ra (tr_ne_kind hra hm) (Ne.symm (mo_ne2 hsa hra)) (fun k hk => Ne.symm (mo_ne3 (hrow k hk).2 hra))
  have seqA : ∀ {w : xw_W} {a : Nat} {e : ClassId × vp_A}, w a = some (.inl e) → ∃ e, w a = some e ∧ ∀ l, e ≠ .inr (tr_kS, l) := fun {w a e} ha => ⟨_, ha, fun l z => by cases z⟩
  refine ⟨⟨⟨L, bd, gg, hL, hI3⟩, hI2, ⟨fo, eo.trans ho⟩, ⟨hO3 _ o1 (seqA (eo.trans ho)), hO3 _ o2 ⟨_, hm2, fun l z => by injection z with z; injection z with z; exact absurd z (by decide)⟩, hO3 _ o3 (seqA (er.trans hra)), hO3 _ o4 (seqA hsa2), fun k hk => hO3 _ (o5 k hk) (seqA (hrow2 k hk).2)⟩, n1, n2, n3, n4⟩, eo.trans ho⟩
/-- .. of a call that answers nothing -/
theorem la_3 {G : g_G} {w w1 : xw_W} {h e0 sl mo ra sa : Nat} {rr : Nat → Nat} {out K : Nat} {S : sp_S} {cd k : Int32} {R : sp_R} (hI : la_I G w h e0 sl mo ra sa rr out S K cd) (hp : lo_P G w h e0 sl K R k w1) :
    sh_S G w1 h e0 sl R.2.2 (K + 1) ∧ mo_I G w1 mo ra sa rr S cd ∧ (∃ fo, w1 out = some (la_o G fo)) ∧ sh_O w1 h sl out ∧ sh_O w1 h sl mo ∧ sh_O w1 h sl ra ∧ sh_O w1 h sl sa ∧ ∀ k, k < 17 → sh_O w1 h sl (rr k) := by
  obtain ⟨-, ⟨f, ⟨hm, ⟨g, hra, hg⟩, ⟨fs, hsa, hfs⟩, hrow, hinj⟩, hv⟩, ⟨fo, ho⟩, ⟨o1, o2, o3, o4, o5⟩, n1, n2, n3, n4⟩ := hI
  obtain ⟨-, hS, hF⟩ := hp
  exact ⟨hS, ⟨f, ⟨(hF _ o2).2.trans hm, ⟨g, (hF _ o3).2.trans hra, hg⟩, ⟨fs, (hF _ o4).2.trans hsa, hfs⟩, fun k hk => ⟨(hrow k hk).1, (hF _ (o5 k hk)).2.trans (hrow k hk).2⟩, hinj⟩, hv⟩, ⟨fo, (hF _ o1).2.trans ho⟩, (hF _ o1).1, (hF _ o2).1, (hF _ o3).1, (hF _ o4).1, fun k hk => (hF _ (o5 k hk)).1⟩
section SPB
variable {S : sp_S} {a b k : Int32} {v x : Int64} {f g n : Int32}
theorem sp_b2 {c1 c2 : Prop} [Decidable c1] [Decidable c2] {x : Int64} {T : sp_S} : (if c1 then (if c2 then ((0, x, T) : sp_R) else (2, 0, S)) else (1, 0, S)).1 ≤ 4 := by
  by_cases h1 : c1
  · by_cases h2 : c2
    · rw [if_pos h1, if_pos h2]; show 0 ≤ 4; omega
    · rw [if_pos h1, if_neg h2]; show 2 ≤ 4; omega
  · rw [if_neg h1]; show 1 ≤ 4; omega
theorem sp_b1 {c1 : Prop} [Decidable c1] {x : Int64} {T : sp_S} : (if c1 then ((0, x, T) : sp_R) else (1, 0, S)).1 ≤ 4 := by
  by_cases h1 : c1
  · rw [if_pos h1]; show 0 ≤ 4; omega
  · rw [if_neg h1]; show 1 ≤ 4; omega
theorem sp_add_b : (sp_add S a b v).1 ≤ 4 := sp_b2
theorem sp_push_b : (sp_push S a b v).1 ≤ 4 := sp_b2
theorem sp_set_b : (sp_set S a b k v).1 ≤ 4 := sp_b2
theorem sp_at_b : (sp_at S a k).1 ≤ 4 := sp_b2
theorem sp_cut_b : (sp_cut S a b f g).1 ≤ 4 := sp_b2
theorem sp_fill_b : (sp_fill S a v x n).1 ≤ 4 := sp_b1
theorem sp_size_b : (sp_size S a).1 ≤ 4 := sp_b1
theorem sp_hash_b : (sp_hash S a).1 ≤ 4 := sp_b1
theorem sp_opn_b : (sp_opn S a).1 ≤ 4 := sp_b2
theorem sp_freeze_b : (sp_freeze S a).1 ≤ 4 := sp_b2
theorem sp_build_b : (sp_build S k a v).1 ≤ 4 := by
  unfold sp_build
  repeat' split
  all_goals (first | (show 0 ≤ 4; omega) | (show 1 ≤ 4; omega) | (show 2 ≤ 4; omega) | (show 3 ≤ 4; omega) | (show 4 ≤ 4; omega))
end SPB
theorem lg_cmp_rf (x : Int64) : lg_cmp x x = 0 := by
  unfold lg_cmp
  rw [if_neg (fun h => Int64.lt_irrefl h), if_pos rfl]
