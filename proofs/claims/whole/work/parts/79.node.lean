/-! one step more: what the reference does with it -/
theorem pre_cong {st st' : Nat → Nat} (pc tc wd : Nat → Nat) (wr : Nat) : ∀ n, (∀ i, i < n → st i = st' i) → cpt st n = cpt st' n ∧ ctk st n = ctk st' n ∧ cps st n = cps st' n ∧ csm pc tc wd wr st n = csm pc tc wd wr st' n ∧ ow wd wr st n = ow wd wr st' n
  | 0, _ => ⟨rfl, rfl, rfl, rfl, rfl⟩
  | n + 1, h => by
    obtain ⟨h1, h2, h3, h4, h5⟩ := pre_cong pc tc wd wr n (fun i hi => h i (by omega))
    have h0 := h n (by omega)
    refine ⟨by simp only [cpt, h1, h0], by simp only [ctk, h2, h0], by simp only [cps, h3, h0], by simp only [csm, h4, h0, h2], ?_⟩
    funext j
    simp only [ow, h0, h1, h2, h5]
theorem rok_cong {l wr n : Nat} {st st' : Nat → Nat} (h : rok l wr n st) (he : ∀ i, i < n → st i = st' i) : rok l wr n st' := by
  obtain ⟨h1, h2, h3⟩ := h
  refine ⟨fun i hi => ?_, fun i hi => ?_, ?_⟩
  · have e := pre_cong (fun _ => 0) (fun _ => 0) (fun _ => 0) 0 i (fun j hj => he j (by omega))
    rw [← he i hi, ← e.2.1]; exact h1 i hi
  · rw [← he i (by omega), ← he (i + 1) hi]; exact h2 i hi
  · have e := pre_cong (fun _ => 0) (fun _ => 0) (fun _ => 0) 0 n he
    rw [← e.2.2.1]; exact h3
/-- the step d may be taken -/
def gdS (g : LRD) (l wr : Nat) (wd pc tc : Nat → Nat) (B d : Nat) (st : Nat → Nat) (S : List Nat) : Prop :=
  (6 ≤ st d → wr + ctk st d < l) ∧ (st d < 6 → 0 < d → st (d - 1) ≠ 6) ∧ (st d = 7 → cps st d < 3) ∧ csm pc tc wd wr st (d + 1) ≤ B ∧ (st d ≠ 6 → g.cm (if st d < 6 then st d else wd (wr + ctk st d)) S)
theorem i_dec (a : Nat) : nI (a + 1) + -nI 1 = nI a := by
  rw [← Int32.sub_eq_add_neg, pk_sub (by omega), Nat.add_sub_cancel]
section
variable {g : LRD} {l : Nat} {wd pc tc : Nat → Nat} {X : Int32} {lef siz red tgt txt put tak lem len fol nxt wrd mput mtak : Nat → Int32} {wr d B : Nat} {st : Nat → Nat} {S : List Nat}
theorem RX_c (hX : RX g l wd pc tc X lef siz red tgt txt put tak lem len fol nxt wrd mput mtak) : (∀ j, j < 6 → 1 ≤ pc j ∧ 1 ≤ tc j) ∧ (∀ j, j < l → wd j < 6) :=
  ⟨fun j hj => ⟨(hX.2.2.2.2.2.1 j hj).1.1, (hX.2.2.2.2.2.1 j hj).2.1⟩, fun j hj => (hX.2.2.2.2.1 j hj).1⟩
theorem gd_rok (hr : rok l wr d st) (h8 : st d < 8) (hgd : gdS g l wr wd pc tc B d st S) : rok l wr (d + 1) st := by
  obtain ⟨h1, h2, h3⟩ := hr
  obtain ⟨g1, g2, g3, g4, g5⟩ := hgd
  refine ⟨fun i hi => ?_, fun i hi h6 => ?_, ?_⟩
  · by_cases e : i = d
    · rw [e]; exact ⟨h8, g1⟩
    · exact h1 i (by omega)
  · by_cases e : i + 1 = d
    · rw [e]
      apply Classical.byContradiction
      intro h
      exact g2 (by omega) (by omega) (by rw [show d - 1 = i by omega]; exact h6)
    · exact h2 i (by omega) h6
  · simp only [cps]
    by_cases e : st d = 7
    · rw [if_pos e]; have := g3 e; omega
    · rw [if_neg e]; omega
theorem low_sz (hX : RX g l wd pc tc X lef siz red tgt txt put tak lem len fol nxt wrd mput mtak) (hwr : wr ≤ l) (hr : rok l wr d st) : wr + ctk st d ≤ l ∧ wr + cpt st d ≤ wr + ctk st d + csm pc tc wd wr st d ∧ d ≤ 3 + csm pc tc wd wr st d := by
  obtain ⟨c1, c2⟩ := RX_c hX
  have h1 := ctk_le hr hwr d (Nat.le_refl _)
  have h2 := cpt_csm c1 c2 hr.1 d (Nat.le_refl _)
  have h3 := hr.2.2
  omega
/-- the stack behind it -/
theorem gd_S (hX : RX g l wd pc tc X lef siz red tgt txt put tak lem len fol nxt wrd mput mtak) (hwr : wr ≤ l) (hB : B ≤ 3) (hr : rok l wr d st) (h8 : st d < 8) (hS : g.rdS (ow wd wr st d) (wr + cpt st d) S) (hgd : gdS g l wr wd pc tc B d st S) :
    ∃ S', g.rdS (ow wd wr st (d + 1)) (wr + cpt st (d + 1)) S' ∧ (st d = 6 → S' = S) ∧ (st d ≠ 6 → g.fd (if st d < 6 then st d else wd (wr + ctk st d)) S S') := by
  have hr' := gd_rok hr h8 hgd
  obtain ⟨c1, c2⟩ := RX_c hX
  obtain ⟨g1, g2, g3, g4, g5⟩ := hgd
  by_cases e : st d = 6
  · refine ⟨S, ?_, fun _ => rfl, fun h => absurd e h⟩
    have e1 : cpt st (d + 1) = cpt st d := by simp only [cpt, if_pos e, Nat.add_zero]
    rw [e1]
    refine LRD.rdS_cong _ _ (fun i hi => ?_) hS
    simp only [ow]
    rw [if_neg (show ¬ (st d ≠ 6 ∧ i = wr + cpt st d) from fun h => h.1 e)]
  · have hcs : csm pc tc wd wr st d ≤ csm pc tc wd wr st (d + 1) := by simp only [csm]; omega
    have hlz := low_sz hX hwr hr
    have hl := hX.2.2.2.1
    have hlt := ow_lt (fun j hj => c2 j hj) hwr hr d (Nat.le_refl _)
    have hst := LRD.rdS_st hX.1 (wr + cpt st d) S hlt hS
    have ht : (if st d < 6 then st d else wd (wr + ctk st d)) < 6 := by
      by_cases h6 : st d < 6
      · rw [if_pos h6]; exact h6
      · rw [if_neg h6]; exact c2 _ (g1 (by omega))
    obtain ⟨S', hf⟩ := LRD.step hX.1 ht (by omega) hst (g5 e)
    have e1 : wr + cpt st (d + 1) = wr + cpt st d + 1 := by simp only [cpt, if_neg e]; omega
    refine ⟨S', ?_, fun h => absurd h e, fun _ => hf⟩
    rw [e1]
    refine ⟨S, LRD.rdS_cong _ _ (fun i hi => ?_) hS, ?_⟩
    · simp only [ow]
      rw [if_neg (show ¬ (st d ≠ 6 ∧ i = wr + cpt st d) from fun h => by omega)]
    · have e2 : ow wd wr st (d + 1) (wr + cpt st d) = if st d < 6 then st d else wd (wr + ctk st d) := by
        simp only [ow]
        rw [if_pos (show st d ≠ 6 ∧ True from ⟨e, trivial⟩)]
      rw [e2]; exact hf
/-- the reference's follows, at a row whose last step may be wrong -/
theorem m_fbad (hX : RX g l wd pc tc X lef siz red tgt txt put tak lem len fol nxt wrd mput mtak) (hwr : wr ≤ l) (hd : d ≤ 5) (hr : rok l wr d st) (h8 : st d < 8) {row F0 : Nat → Int32} (hrow : ∀ j, j ≤ d → row j = nI (st j)) (y27 y28 : Int32)
    (hbad : ¬ ((6 ≤ st d → wr + ctk st d < l) ∧ (st d < 6 → 0 < d → st (d - 1) ≠ 6) ∧ (st d = 7 → cps st d < 3))) :
    ∃ z27 z28 F, S_Model_follows (nI (d + 1)) (nI l) (nI wr) y27 y28 F0 mput row mtak wrd = some (-nI 1, z27, z28, F) := by
  have hl := hX.2.2.2.1
  have hw : ∀ j, j < l → wd j < 6 ∧ wrd j = nI (wd j) := fun j hj => ⟨(hX.2.2.2.2.1 j hj).1, (hX.2.2.2.2.1 j hj).2.2⟩
  have hc := hX.2.2.2.2.2.2
  obtain ⟨F, hF, e⟩ := m_fi (f3 := row) (st := st) (n := d + 1) hl hw hc (by omega) hwr y27 y28 F0 d (by omega) (fun j hj => ⟨hrow j (by omega), hr.1 j hj⟩) (fun j hj => hr.2.1 j hj)
  have hlz := low_sz hX hwr hr
  have b2 := cpt_le st d
  have b4 := cps_le st d
  have hrd := hrow d (Nat.le_refl _)
  by_cases h1 : 6 ≤ st d → wr + ctk st d < l
  · by_cases h2 : st d < 6 → 0 < d → st (d - 1) ≠ 6
    · have h3 : st d = 7 ∧ ¬ cps st d < 3 := by
        apply Classical.byContradiction
        intro h3
        exact hbad ⟨h1, h2, fun h4 => Classical.byContradiction fun h5 => h3 ⟨h4, h5⟩⟩
      obtain ⟨F', hF', e'⟩ := m_fi (f3 := row) (st := st) (n := d + 1) hl hw hc (by omega) hwr y27 y28 F0 (d + 1) (by omega) (fun j hj => by
        by_cases ej : j = d
        · rw [ej]; exact ⟨hrd, h8, h1⟩
        · exact ⟨hrow j (by omega), hr.1 j (by omega)⟩) (fun j hj h6 => by
        by_cases ej : j + 1 = d
        · rw [ej]; omega
        · exact hr.2.1 j (by omega) h6)
      obtain ⟨m, hm⟩ := fuelled (k := 1 + 5 * (d + 1) + 1 + wr) (by omega)
      refine ⟨nI (wr + cpt st (d + 1)), nI (wr + ctk st (d + 1)), F', ?_⟩
      rw [e' (m + 1) (by omega)]
      show B_Model_follows_1 (F_Model_follows (nI l) (nI wr) mput row mtak wrd m) (nI l) (nI wr) mput row mtak wrd (nI (d + 1)) (nI (csm pc tc wd wr st (d + 1))) (nI (cps st (d + 1))) (nI (d + 1)) (nI 0) (nI 0) (nI 0) (nI (wr + cpt st (d + 1))) (nI (wr + ctk st (d + 1))) F' = _
      have hcp : cps st (d + 1) = cps st d + 1 := by simp only [cps, if_pos h3.1]
      have hcp4 : 3 < cps st (d + 1) := by omega
      have hcp8 : cps st (d + 1) < 100 := by omega
      simp (disch := omega) only [B_Model_follows_1, i_lit, nI_ltI, nI_leI, nI_eq, nI_add, pk_mul, pk_sub, nI_clamp, if_pos, if_neg, if_true, if_false, Option.bind_some, true_or, or_true, false_or, or_false, or_self, not_true_eq_false, not_false_eq_true, i_m1lt, i_m1le, i_nlt1, i_nle1, i_ne1, i_1ne]
    · have h3 : st d < 6 ∧ 0 < d ∧ st (d - 1) = 6 := by
        apply Classical.byContradiction
        intro h3
        exact h2 (fun h4 h5 h6 => h3 ⟨h4, h5, h6⟩)
      obtain ⟨h31, h32, h33⟩ := h3
      obtain ⟨m, hm⟩ := fuelled (k := 2 + 5 * d + 1 + wr) (by omega)
      refine ⟨nI (wr + cpt st d), nI (wr + ctk st d), F, ?_⟩
      rw [e (m + 2) (by omega)]
      have s1 : F_Model_follows (nI l) (nI wr) mput row mtak wrd (m + 2) 1 (nI (d + 1)) (nI (csm pc tc wd wr st d)) (nI (cps st d)) (nI d) (nI 0) (nI 0) (nI 0) (nI (wr + cpt st d)) (nI (wr + ctk st d)) F = F_Model_follows (nI l) (nI wr) mput row mtak wrd (m + 1) 2 (nI (d + 1)) (nI (csm pc tc wd wr st d)) (nI (cps st d)) (nI d) (nI (st d)) (nI 0) (nI 0) (nI (wr + cpt st d)) (nI (wr + ctk st d)) F := by
        show B_Model_follows_1 (F_Model_follows (nI l) (nI wr) mput row mtak wrd (m + 1)) (nI l) (nI wr) mput row mtak wrd (nI (d + 1)) (nI (csm pc tc wd wr st d)) (nI (cps st d)) (nI d) (nI 0) (nI 0) (nI 0) (nI (wr + cpt st d)) (nI (wr + ctk st d)) F = _
        simp (disch := omega) only [B_Model_follows_1, hrd, i_lit, nI_ltI, nI_leI, nI_eq, nI_add, pk_mul, pk_sub, nI_clamp, if_pos, if_neg, if_true, if_false, Option.bind_some, true_or, or_true, false_or, or_false, or_self, not_true_eq_false, not_false_eq_true, i_m1lt, i_m1le, i_nlt1, i_nle1, i_ne1, i_1ne]
      rw [s1]
      show B_Model_follows_2 (F_Model_follows (nI l) (nI wr) mput row mtak wrd m) (nI l) (nI wr) mput row mtak wrd (nI (d + 1)) (nI (csm pc tc wd wr st d)) (nI (cps st d)) (nI d) (nI (st d)) (nI 0) (nI 0) (nI (wr + cpt st d)) (nI (wr + ctk st d)) F = _
      have hrd1 := hrow (d - 1) (by omega)
      rw [h33] at hrd1
      simp (disch := omega) only [B_Model_follows_2, hrd1, i_lit, nI_ltI, nI_leI, nI_eq, nI_add, pk_mul, pk_sub, nI_clamp, if_pos, if_neg, if_true, if_false, Option.bind_some, true_or, or_true, false_or, or_false, or_self, not_true_eq_false, not_false_eq_true, i_m1lt, i_m1le, i_nlt1, i_nle1, i_ne1, i_1ne]
  · have h3 : 6 ≤ st d ∧ ¬ wr + ctk st d < l := by
      apply Classical.byContradiction
      intro h3
      exact h1 (fun h4 => Classical.byContradiction fun h5 => h3 ⟨h4, h5⟩)
    obtain ⟨h31, h32⟩ := h3
    obtain ⟨m, hm⟩ := fuelled (k := 1 + 5 * d + 1 + wr) (by omega)
    refine ⟨nI (wr + cpt st d), nI (wr + ctk st d), F, ?_⟩
    rw [e (m + 1) (by omega)]
    show B_Model_follows_1 (F_Model_follows (nI l) (nI wr) mput row mtak wrd m) (nI l) (nI wr) mput row mtak wrd (nI (d + 1)) (nI (csm pc tc wd wr st d)) (nI (cps st d)) (nI d) (nI 0) (nI 0) (nI 0) (nI (wr + cpt st d)) (nI (wr + ctk st d)) F = _
    simp (disch := omega) only [B_Model_follows_1, hrd, i_lit, nI_ltI, nI_leI, nI_eq, nI_add, pk_mul, pk_sub, nI_clamp, if_pos, if_neg, if_true, if_false, Option.bind_some, true_or, or_true, false_or, or_false, or_self, not_true_eq_false, not_false_eq_true, i_m1lt, i_m1le, i_nlt1, i_nle1, i_ne1, i_1ne]
theorem m_node (hX : RX g l wd pc tc X lef siz red tgt txt put tak lem len fol nxt wrd mput mtak) (hwr : wr ≤ l) (hB : B ≤ 3) (hd : d ≤ 5) (hr : rok l wr d st) (h8 : st d < 8) (hS : g.rdS (ow wd wr st d) (wr + cpt st d) S) (hlt : csm pc tc wd wr st d < B) {row : Nat → Int32} (hrow : ∀ j, j < d → row j = nI (st j)) (hrd : row d + nI 1 = nI (st d)) {G : Int32} {y22 y27 y28 : Int32} {f2 g46 stk g45 : Nat → Int32} :
    (¬ gdS g l wr wd pc tc B d st S → ∃ z27 z28 F' stk', ∀ k, F_Model_search (nI l) (nI wr) fol lem len nxt mput mtak wrd (k + 3) 0 (nI B) G (nI (d + 1)) (nI 0) (nI 0) y22 y27 y28 f2 g46 row stk g45 = F_Model_search (nI l) (nI wr) fol lem len nxt mput mtak wrd k 0 (nI B) G (nI (d + 1)) (nI 0) (nI 0) y22 z27 z28 F' g46 (upd row d (nI (st d))) stk' g45) ∧
    (gdS g l wr wd pc tc B d st S → ∃ F' stk', rep F' (ow wd wr st (d + 1)) (wr + cpt st (d + 1)) ∧ ∀ k, F_Model_search (nI l) (nI wr) fol lem len nxt mput mtak wrd (k + 2) 0 (nI B) G (nI (d + 1)) (nI 0) (nI 0) y22 y27 y28 f2 g46 row stk g45 = F_Model_search (nI l) (nI wr) fol lem len nxt mput mtak wrd k 3 (nI B) G (nI (d + 1)) (nI (csm pc tc wd wr st (d + 1))) (nI 1) y22 (nI (wr + cpt st (d + 1))) (nI (wr + ctk st (d + 1))) F' g46 (upd row d (nI (st d))) stk' g45) := by
  have hl := hX.2.2.2.1
  have hw : ∀ j, j < l → wd j < 6 ∧ wrd j = nI (wd j) := fun j hj => ⟨(hX.2.2.2.2.1 j hj).1, (hX.2.2.2.2.1 j hj).2.2⟩
  have hc := hX.2.2.2.2.2.2
  obtain ⟨k1, k2⟩ := RX_c hX
  have hrow' : ∀ j, j ≤ d → upd row d (nI (st d)) j = nI (st j) := by
    intro j hj
    by_cases e : j = d
    · rw [e, pk_us]
    · rw [pk_un e]; exact hrow j (by omega)
  have hus : upd row d (nI (st d)) d = nI (st d) := pk_us
  have ed : d + 1 - 1 = d := by omega
  -- from head 2 back
  have bad2 : ∀ (l4 z27 z28 : Int32) (F' stk' : Nat → Int32) k, F_Model_search (nI l) (nI wr) fol lem len nxt mput mtak wrd (k + 2) 2 (nI B) G (nI (d + 1)) l4 (nI 0) y22 z27 z28 F' g46 (upd row d (nI (st d))) stk' g45 = F_Model_search (nI l) (nI wr) fol lem len nxt mput mtak wrd k 0 (nI B) G (nI (d + 1)) (nI 0) (nI 0) y22 z27 z28 F' g46 (upd row d (nI (st d))) stk' g45 := by
    intro l4 z27 z28 F' stk' k
    show B_Model_search_3 (F_Model_search (nI l) (nI wr) fol lem len nxt mput mtak wrd k) (nI l) (nI wr) fol lem len nxt mput mtak wrd (nI B) G (nI (d + 1)) l4 (nI 0) y22 z27 z28 F' g46 (upd row d (nI (st d))) stk' g45 = _
    simp (disch := omega) only [B_Model_search_3, i_lit, nI_ltI, nI_leI, nI_eq, nI_add, pk_mul, pk_sub, nI_clamp, if_pos, if_neg, if_true, if_false, Option.bind_some, true_or, or_true, false_or, or_false, or_self, not_true_eq_false, not_false_eq_true, i_m1lt, i_m1le, i_nlt1, i_nle1, i_ne1, i_1ne]
  by_cases hb3 : (6 ≤ st d → wr + ctk st d < l) ∧ (st d < 6 → 0 < d → st (d - 1) ≠ 6) ∧ (st d = 7 → cps st d < 3)
  · obtain ⟨b1, b2, b3⟩ := hb3
    have hr' : rok l wr (d + 1) st := by
      refine ⟨fun i hi => ?_, fun i hi h6 => ?_, ?_⟩
      · by_cases e : i = d
        · rw [e]; exact ⟨h8, b1⟩
        · exact hr.1 i (by omega)
      · by_cases e : i + 1 = d
        · rw [e]
          apply Classical.byContradiction
          intro h
          exact b2 (by omega) (by omega) (by rw [show d - 1 = i by omega]; exact h6)
        · exact hr.2.1 i (by omega) h6
      · simp only [cps]
        by_cases e : st d = 7
        · rw [if_pos e]; have := b3 e; omega
        · rw [if_neg e]; have := hr.2.2; omega
    obtain ⟨F, hF, hfo⟩ := m_follows (n := d + 1) hl hw hc (by omega) hwr y27 y28 f2 (fun j hj => hrow' j (by omega)) hr'
    have hcle := csm_le (pc := pc) (tc := tc) (fun j hj => ⟨(hc j hj).1.2.1, (hc j hj).2.2.1⟩) k2 hr'.1 (d + 1) (Nat.le_refl _)
    have hlz := low_sz hX hwr hr'
    have hlz0 := low_sz hX hwr hr
    by_cases hb4 : csm pc tc wd wr st (d + 1) ≤ B
    · by_cases e6 : st d = 6
      · refine ⟨fun hn => absurd ⟨b1, b2, b3, hb4, fun h => absurd e6 h⟩ hn, fun _ => ⟨F, stk, hF, fun k => ?_⟩⟩
        show B_Model_search_0 (F_Model_search (nI l) (nI wr) fol lem len nxt mput mtak wrd (k + 1)) (nI l) (nI wr) fol lem len nxt mput mtak wrd (nI B) G (nI (d + 1)) (nI 0) (nI 0) y22 y27 y28 f2 g46 row stk g45 = _
        have hpos : ¬ nI (csm pc tc wd wr st (d + 1)) < nI 0 := nI_pos (by omega)
        rw [e6] at hrd hus hfo ⊢
        simp (disch := omega) only [B_Model_search_0, ed, hrd, hus, hfo, hpos, i_lit, nI_ltI, nI_leI, nI_eq, nI_add, pk_mul, pk_sub, nI_clamp, if_pos, if_neg, if_true, if_false, Option.bind_some, true_or, or_true, false_or, or_false, or_self, not_true_eq_false, not_false_eq_true, i_m1lt, i_m1le, i_nlt1, i_nle1, i_ne1, i_1ne]
        rfl
      · -- the word up to here
        have ht : (if st d < 6 then st d else wd (wr + ctk st d)) < 6 := by
          by_cases h6 : st d < 6
          · rw [if_pos h6]; exact h6
          · rw [if_neg h6]; exact k2 _ (b1 (by omega))
        have e1 : wr + cpt st (d + 1) = wr + cpt st d + 1 := by simp only [cpt, if_neg e6]; omega
        have hlto := ow_lt k2 hwr hr' (d + 1) (Nat.le_refl _)
        have hwo : ∀ j, j < wr + cpt st (d + 1) → ow wd wr st (d + 1) j < 6 ∧ F j = nI (ow wd wr st (d + 1) j) := fun j hj => ⟨hlto j hj, hF j hj⟩
        have hS0 : g.rdS (ow wd wr st (d + 1)) (wr + cpt st d) S := LRD.rdS_cong _ _ (fun i hi => by
          simp only [ow]
          rw [if_neg (show ¬ (st d ≠ 6 ∧ i = wr + cpt st d) from fun h => by omega)]) hS
        have hlast : ow wd wr st (d + 1) (wr + cpt st d) = if st d < 6 then st d else wd (wr + ctk st d) := by
          simp only [ow]
          rw [if_pos (show st d ≠ 6 ∧ True from ⟨e6, trivial⟩)]
        have hwp := m_wrongP hX.1 (A := stk) hX.2.2.1 (show wr + cpt st (d + 1) ≤ 20 by omega) hwo
        have hpos : ¬ nI (csm pc tc wd wr st (d + 1)) < nI 0 := nI_pos (by omega)
        by_cases hcm : g.cm (if st d < 6 then st d else wd (wr + ctk st d)) S
        · have hgd : gdS g l wr wd pc tc B d st S := ⟨b1, b2, b3, hb4, fun _ => hcm⟩
          refine ⟨fun hn => absurd hgd hn, fun _ => ?_⟩
          obtain ⟨S', hS', -, -⟩ := gd_S hX hwr hB hr h8 hS hgd
          obtain ⟨A, hA⟩ := hwp.1 S' hS'
          refine ⟨F, A, hF, fun k => ?_⟩
          show B_Model_search_0 (F_Model_search (nI l) (nI wr) fol lem len nxt mput mtak wrd (k + 1)) (nI l) (nI wr) fol lem len nxt mput mtak wrd (nI B) G (nI (d + 1)) (nI 0) (nI 0) y22 y27 y28 f2 g46 row stk g45 = _
          simp (disch := omega) only [B_Model_search_0, ed, hrd, hus, hfo, hpos, hA, i_lit, nI_ltI, nI_leI, nI_eq, nI_add, pk_mul, pk_sub, nI_clamp, if_pos, if_neg, if_true, if_false, Option.bind_some, true_or, or_true, false_or, or_false, or_self, not_true_eq_false, not_false_eq_true, i_m1lt, i_m1le, i_nlt1, i_nle1, i_ne1, i_1ne]
          rfl
        · refine ⟨fun _ => ?_, fun hgd => absurd (hgd.2.2.2.2 e6) hcm⟩
          obtain ⟨A, hA⟩ := hwp.2 (wr + cpt st d) S (by omega) hS0 (by rw [hlast]; exact hcm)
          refine ⟨nI (wr + cpt st (d + 1)), nI (wr + ctk st (d + 1)), F, A, fun k => ?_⟩
          rw [← bad2 (nI (csm pc tc wd wr st (d + 1))) (nI (wr + cpt st (d + 1))) (nI (wr + ctk st (d + 1))) F A k]
          show B_Model_search_0 (F_Model_search (nI l) (nI wr) fol lem len nxt mput mtak wrd (k + 2)) (nI l) (nI wr) fol lem len nxt mput mtak wrd (nI B) G (nI (d + 1)) (nI 0) (nI 0) y22 y27 y28 f2 g46 row stk g45 = _
          simp (disch := omega) only [B_Model_search_0, ed, hrd, hus, hfo, hpos, hA, i_lit, nI_ltI, nI_leI, nI_eq, nI_add, pk_mul, pk_sub, nI_clamp, if_pos, if_neg, if_true, if_false, Option.bind_some, true_or, or_true, false_or, or_false, or_self, not_true_eq_false, not_false_eq_true, i_m1lt, i_m1le, i_nlt1, i_nle1, i_ne1, i_1ne]
    · refine ⟨fun _ => ⟨nI (wr + cpt st (d + 1)), nI (wr + ctk st (d + 1)), F, stk, fun k => ?_⟩, fun hgd => absurd hgd.2.2.2.1 hb4⟩
      rw [← bad2 (nI (csm pc tc wd wr st (d + 1))) (nI (wr + cpt st (d + 1))) (nI (wr + ctk st (d + 1))) F stk k]
      show B_Model_search_0 (F_Model_search (nI l) (nI wr) fol lem len nxt mput mtak wrd (k + 2)) (nI l) (nI wr) fol lem len nxt mput mtak wrd (nI B) G (nI (d + 1)) (nI 0) (nI 0) y22 y27 y28 f2 g46 row stk g45 = _
      have hpos : ¬ nI (csm pc tc wd wr st (d + 1)) < nI 0 := nI_pos (by omega)
      simp (disch := omega) only [B_Model_search_0, ed, hrd, hus, hfo, hpos, i_lit, nI_ltI, nI_leI, nI_eq, nI_add, pk_mul, pk_sub, nI_clamp, if_pos, if_neg, if_true, if_false, Option.bind_some, true_or, or_true, false_or, or_false, or_self, not_true_eq_false, not_false_eq_true, i_m1lt, i_m1le, i_nlt1, i_nle1, i_ne1, i_1ne]
  · obtain ⟨z27, z28, F, hfo⟩ := m_fbad (F0 := f2) hX hwr hd hr h8 hrow' y27 y28 hb3
    refine ⟨fun _ => ⟨z27, z28, F, stk, fun k => ?_⟩, fun hgd => absurd ⟨hgd.1, hgd.2.1, hgd.2.2.1⟩ hb3⟩
    rw [← bad2 (-nI 1) z27 z28 F stk k]
    show B_Model_search_0 (F_Model_search (nI l) (nI wr) fol lem len nxt mput mtak wrd (k + 2)) (nI l) (nI wr) fol lem len nxt mput mtak wrd (nI B) G (nI (d + 1)) (nI 0) (nI 0) y22 y27 y28 f2 g46 row stk g45 = _
    simp (disch := omega) only [B_Model_search_0, ed, hrd, hus, hfo, i_m1neg, i_lit, nI_ltI, nI_leI, nI_eq, nI_add, pk_mul, pk_sub, nI_clamp, if_pos, if_neg, if_true, if_false, Option.bind_some, true_or, or_true, false_or, or_false, or_self, not_true_eq_false, not_false_eq_true, i_m1lt, i_m1le, i_nlt1, i_nle1, i_ne1, i_1ne]
end
