/-! the call apply -/
def csm (pc tc wd : Nat → Nat) (wr : Nat) (st : Nat → Nat) : Nat → Nat
  | 0 => 0
  | i + 1 => csm pc tc wd wr st i + (if st i < 6 then pc (st i) else if st i = 6 then tc (wd (wr + ctk st i)) else 0)
def cst (pc tc : Nat → Nat) (a b : Nat → Int32) : Prop := ∀ j, j < 6 → (1 ≤ pc j ∧ pc j ≤ 3 ∧ a j = nI (pc j)) ∧ 1 ≤ tc j ∧ tc j ≤ 3 ∧ b j = nI (tc j)
theorem ic_fun {a f b g : Nat → Int32} (h : IC a f b g) : ∃ pc tc : Nat → Nat, cst pc tc a f ∧ cst pc tc b g := by
  refine ⟨fun j => (a j).toNatClampNeg, fun j => (f j).toNatClampNeg, ?_, ?_⟩
  · intro j hj
    obtain ⟨⟨c, h1, h2, h3, h4⟩, d, k1, k2, k3, k4⟩ := h j hj
    have e1 : (a j).toNatClampNeg = c := by rw [h3, nI_clamp (by omega)]
    have e2 : (f j).toNatClampNeg = d := by rw [k3, nI_clamp (by omega)]
    exact ⟨⟨by show 1 ≤ (a j).toNatClampNeg; omega, by show (a j).toNatClampNeg ≤ 3; omega, by show a j = nI (a j).toNatClampNeg; rw [e1, h3]⟩, by show 1 ≤ (f j).toNatClampNeg; omega, by show (f j).toNatClampNeg ≤ 3; omega, by show f j = nI (f j).toNatClampNeg; rw [e2, k3]⟩
  · intro j hj
    obtain ⟨⟨c, h1, h2, h3, h4⟩, d, k1, k2, k3, k4⟩ := h j hj
    have e1 : (a j).toNatClampNeg = c := by rw [h3, nI_clamp (by omega)]
    have e2 : (f j).toNatClampNeg = d := by rw [k3, nI_clamp (by omega)]
    exact ⟨⟨by show 1 ≤ (a j).toNatClampNeg; omega, by show (a j).toNatClampNeg ≤ 3; omega, by show b j = nI (a j).toNatClampNeg; rw [e1, h4]⟩, by show 1 ≤ (f j).toNatClampNeg; omega, by show (f j).toNatClampNeg ≤ 3; omega, by show g j = nI (f j).toNatClampNeg; rw [e2, k4]⟩
theorem csm_le {pc tc wd : Nat → Nat} {wr l n : Nat} {st : Nat → Nat} (hp : ∀ j, j < 6 → pc j ≤ 3 ∧ tc j ≤ 3) (hw : ∀ j, j < l → wd j < 6) (h : ∀ i, i < n → st i < 8 ∧ (6 ≤ st i → wr + ctk st i < l)) : ∀ i, i ≤ n → csm pc tc wd wr st i ≤ 3 * i
  | 0, _ => Nat.le_refl _
  | i + 1, hi => by
    have h1 := csm_le hp hw h i (by omega)
    have h2 := h i (by omega)
    simp only [csm]
    by_cases h6 : st i < 6
    · rw [if_pos h6]; have := (hp _ h6).1; omega
    · rw [if_neg h6]
      by_cases h7 : st i = 6
      · rw [if_pos h7]; have := (hp _ (hw _ (h2.2 (by omega)))).2; omega
      · rw [if_neg h7]; omega
theorem cps_le (st : Nat → Nat) : ∀ i, cps st i ≤ i
  | 0 => Nat.le_refl _
  | i + 1 => by have := cps_le st i; simp only [cps]; split <;> omega
theorem ctk_le' (st : Nat → Nat) : ∀ i, ctk st i ≤ i
  | 0 => Nat.le_refl _
  | i + 1 => by have := ctk_le' st i; simp only [ctk]; split <;> omega
/-- F holds the first z letters of u -/
def rep (F : Nat → Int32) (u : Nat → Nat) (z : Nat) : Prop := ∀ j, j < z → F j = nI (u j)
theorem rep_up {F : Nat → Int32} {wd : Nat → Nat} {wr i : Nat} {st : Nat → Nat} (h : rep F (ow wd wr st i) (wr + cpt st i)) (h6 : st i ≠ 6) : rep (upd F (wr + cpt st i) (nI (if st i < 6 then st i else wd (wr + ctk st i)))) (ow wd wr st (i + 1)) (wr + cpt st (i + 1)) := by
  intro j hj
  simp only [cpt, if_neg h6] at hj
  simp only [ow]
  by_cases e : j = wr + cpt st i
  · rw [if_pos (show st i ≠ 6 ∧ j = wr + cpt st i from ⟨h6, e⟩)]; subst e; rw [pk_us]
  · rw [if_neg (show ¬ (st i ≠ 6 ∧ j = wr + cpt st i) from fun hh => e hh.2), pk_un e]; exact h j (by omega)
theorem rep_same {F : Nat → Int32} {wd : Nat → Nat} {wr i : Nat} {st : Nat → Nat} (h : rep F (ow wd wr st i) (wr + cpt st i)) (h6 : st i = 6) : rep F (ow wd wr st (i + 1)) (wr + cpt st (i + 1)) := by
  intro j hj
  simp only [cpt, if_pos h6, Nat.add_zero] at hj
  simp only [ow]
  rw [if_neg (show ¬ (st i ≠ 6 ∧ j = wr + cpt st i) from fun hh => hh.1 h6)]; exact h j hj
section
variable {l wr n : Nat} {wd st pc tc : Nat → Nat} {f2 f3 f4 f5 : Nat → Int32}
/-- one step of the reference's follows -/
theorem m_f1 (hl : l ≤ 16) (hw : ∀ j, j < l → wd j < 6 ∧ f5 j = nI (wd j)) (hc : cst pc tc f2 f4) (hn : n ≤ 7) (hwr : wr ≤ l) {i : Nat} (hi : i < n) (hrow : ∀ j, j ≤ i → f3 j = nI (st j)) (h8 : ∀ j, j ≤ i → st j < 8)
    (hok : ∀ j, j ≤ i → 6 ≤ st j → wr + ctk st j < l) (hto : 0 < i → st i < 6 → st (i - 1) ≠ 6) {F : Nat → Int32} (hF : rep F (ow wd wr st i) (wr + cpt st i)) :
    ∃ F', rep F' (ow wd wr st (i + 1)) (wr + cpt st (i + 1)) ∧ ∀ m, F_Model_follows (nI l) (nI wr) f2 f3 f4 f5 (m + 5) 1 (nI n) (nI (csm pc tc wd wr st i)) (nI (cps st i)) (nI i) (nI 0) (nI 0) (nI 0) (nI (wr + cpt st i)) (nI (wr + ctk st i)) F =
      F_Model_follows (nI l) (nI wr) f2 f3 f4 f5 m 1 (nI n) (nI (csm pc tc wd wr st (i + 1))) (nI (cps st (i + 1))) (nI (i + 1)) (nI 0) (nI 0) (nI 0) (nI (wr + cpt st (i + 1))) (nI (wr + ctk st (i + 1))) F' := by
  have hri := hrow i (Nat.le_refl _)
  have h8i := h8 i (Nat.le_refl _)
  have hoki := hok i (Nat.le_refl _)
  have b1 := csm_le (pc := pc) (tc := tc) (n := i) (fun j hj => ⟨(hc j hj).1.2.1, (hc j hj).2.2.1⟩) (fun j hj => (hw j hj).1) (fun j hj => ⟨h8 j (by omega), hok j (by omega)⟩) i (Nat.le_refl _)
  have b2 := cpt_le st i
  have b3 := ctk_le' st i
  have b4 := cps_le st i
  have e1 : ∀ m, F_Model_follows (nI l) (nI wr) f2 f3 f4 f5 (m + 5) 1 (nI n) (nI (csm pc tc wd wr st i)) (nI (cps st i)) (nI i) (nI 0) (nI 0) (nI 0) (nI (wr + cpt st i)) (nI (wr + ctk st i)) F = F_Model_follows (nI l) (nI wr) f2 f3 f4 f5 (m + 3) 3 (nI n) (nI (csm pc tc wd wr st i)) (nI (cps st i)) (nI i) (nI (st i)) (nI 0) (nI 0) (nI (wr + cpt st i)) (nI (wr + ctk st i)) F := by
    intro m
    have a1 : F_Model_follows (nI l) (nI wr) f2 f3 f4 f5 (m + 5) 1 (nI n) (nI (csm pc tc wd wr st i)) (nI (cps st i)) (nI i) (nI 0) (nI 0) (nI 0) (nI (wr + cpt st i)) (nI (wr + ctk st i)) F = F_Model_follows (nI l) (nI wr) f2 f3 f4 f5 (m + 4) 2 (nI n) (nI (csm pc tc wd wr st i)) (nI (cps st i)) (nI i) (nI (st i)) (nI 0) (nI 0) (nI (wr + cpt st i)) (nI (wr + ctk st i)) F := by
      show B_Model_follows_1 (F_Model_follows (nI l) (nI wr) f2 f3 f4 f5 (m + 4)) (nI l) (nI wr) f2 f3 f4 f5 (nI n) _ _ (nI i) (nI 0) (nI 0) (nI 0) _ _ F = _
      by_cases h6 : st i < 6
      · simp (disch := omega) only [B_Model_follows_1, hri, i_lit, nI_ltI, nI_leI, nI_eq, nI_add, pk_mul, pk_sub, nI_clamp, if_pos, if_neg, if_true, if_false, Option.bind_some, true_or, or_true, false_or, or_false, or_self, not_true_eq_false, not_false_eq_true, i_m1lt, i_m1le, i_nlt1, i_nle1, i_ne1, i_1ne]
      · have := hoki (by omega)
        simp (disch := omega) only [B_Model_follows_1, hri, i_lit, nI_ltI, nI_leI, nI_eq, nI_add, pk_mul, pk_sub, nI_clamp, if_pos, if_neg, if_true, if_false, Option.bind_some, true_or, or_true, false_or, or_false, or_self, not_true_eq_false, not_false_eq_true, i_m1lt, i_m1le, i_nlt1, i_nle1, i_ne1, i_1ne]
    rw [a1]
    show B_Model_follows_2 (F_Model_follows (nI l) (nI wr) f2 f3 f4 f5 (m + 3)) (nI l) (nI wr) f2 f3 f4 f5 (nI n) _ _ (nI i) (nI (st i)) (nI 0) (nI 0) _ _ F = _
    by_cases h6 : st i < 6
    · by_cases h0 : i = 0
      · subst h0; simp (disch := omega) only [B_Model_follows_2, i_lit, nI_ltI, nI_leI, nI_eq, nI_add, pk_mul, pk_sub, nI_clamp, if_pos, if_neg, if_true, if_false, Option.bind_some, true_or, or_true, false_or, or_false, or_self, not_true_eq_false, not_false_eq_true, i_m1lt, i_m1le, i_nlt1, i_nle1, i_ne1, i_1ne]
      · have h7 := hto (by omega) h6
        have h9 := h8 (i - 1) (by omega)
        simp (disch := omega) only [B_Model_follows_2, hrow (i - 1) (by omega), i_lit, nI_ltI, nI_leI, nI_eq, nI_add, pk_mul, pk_sub, nI_clamp, if_pos, if_neg, if_true, if_false, Option.bind_some, true_or, or_true, false_or, or_false, or_self, not_true_eq_false, not_false_eq_true, i_m1lt, i_m1le, i_nlt1, i_nle1, i_ne1, i_1ne]
    · simp (disch := omega) only [B_Model_follows_2, i_lit, nI_ltI, nI_leI, nI_eq, nI_add, pk_mul, pk_sub, nI_clamp, if_pos, if_neg, if_true, if_false, Option.bind_some, true_or, or_true, false_or, or_false, or_self, not_true_eq_false, not_false_eq_true, i_m1lt, i_m1le, i_nlt1, i_nle1, i_ne1, i_1ne]
  by_cases h6 : st i < 6
  · have hci := (hc (st i) h6).1
    refine ⟨_, rep_up hF (by omega), fun m => ?_⟩
    rw [e1]
    have a3 : F_Model_follows (nI l) (nI wr) f2 f3 f4 f5 (m + 3) 3 (nI n) (nI (csm pc tc wd wr st i)) (nI (cps st i)) (nI i) (nI (st i)) (nI 0) (nI 0) (nI (wr + cpt st i)) (nI (wr + ctk st i)) F = F_Model_follows (nI l) (nI wr) f2 f3 f4 f5 (m + 2) 4 (nI n) (nI (csm pc tc wd wr st i)) (nI (cps st i)) (nI i) (nI (st i)) (nI (csm pc tc wd wr st i)) (nI (pc (st i))) (nI (wr + cpt st i)) (nI (wr + ctk st i)) F := by
      show B_Model_follows_3 (F_Model_follows (nI l) (nI wr) f2 f3 f4 f5 (m + 2)) (nI l) (nI wr) f2 f3 f4 f5 (nI n) _ _ (nI i) (nI (st i)) (nI 0) (nI 0) _ _ F = _
      simp (disch := omega) only [B_Model_follows_3, hci.2.2, i_lit, nI_ltI, nI_leI, nI_eq, nI_add, pk_mul, pk_sub, nI_clamp, if_pos, if_neg, if_true, if_false, Option.bind_some, true_or, or_true, false_or, or_false, or_self, not_true_eq_false, not_false_eq_true, i_m1lt, i_m1le, i_nlt1, i_nle1, i_ne1, i_1ne]
    have a4 : F_Model_follows (nI l) (nI wr) f2 f3 f4 f5 (m + 2) 4 (nI n) (nI (csm pc tc wd wr st i)) (nI (cps st i)) (nI i) (nI (st i)) (nI (csm pc tc wd wr st i)) (nI (pc (st i))) (nI (wr + cpt st i)) (nI (wr + ctk st i)) F = F_Model_follows (nI l) (nI wr) f2 f3 f4 f5 (m + 1) 5 (nI n) (nI (csm pc tc wd wr st i + pc (st i))) (nI (cps st i)) (nI i) (nI (st i)) (nI (cps st i)) (nI 0) (nI (wr + cpt st i)) (nI (wr + ctk st i)) F := by
      show B_Model_follows_4 (F_Model_follows (nI l) (nI wr) f2 f3 f4 f5 (m + 1)) (nI l) (nI wr) f2 f3 f4 f5 (nI n) (nI (csm pc tc wd wr st i)) _ (nI i) (nI (st i)) _ _ _ _ F = _
      simp (disch := omega) only [B_Model_follows_4, i_lit, nI_ltI, nI_leI, nI_eq, nI_add, pk_mul, pk_sub, nI_clamp, if_pos, if_neg, if_true, if_false, Option.bind_some, true_or, or_true, false_or, or_false, or_self, not_true_eq_false, not_false_eq_true, i_m1lt, i_m1le, i_nlt1, i_nle1, i_ne1, i_1ne]
    rw [a3, a4]
    show B_Model_follows_5 (F_Model_follows (nI l) (nI wr) f2 f3 f4 f5 m) (nI l) (nI wr) f2 f3 f4 f5 (nI n) _ (nI (cps st i)) (nI i) (nI (st i)) _ (nI 0) _ _ F = _
    simp (disch := omega) only [B_Model_follows_5, csm, cps, cpt, ctk, Nat.add_zero, Nat.add_assoc, i_lit, nI_ltI, nI_leI, nI_eq, nI_add, pk_mul, pk_sub, nI_clamp, if_pos, if_neg, if_true, if_false, Option.bind_some, true_or, or_true, false_or, or_false, or_self, not_true_eq_false, not_false_eq_true, i_m1lt, i_m1le, i_nlt1, i_nle1, i_ne1, i_1ne]
  · by_cases h7 : st i = 6
    · have hlt := hoki (by omega)
      have hwi := hw _ hlt
      have hci := (hc _ hwi.1).2
      refine ⟨F, rep_same hF h7, fun m => ?_⟩
      rw [e1]
      have a3 : F_Model_follows (nI l) (nI wr) f2 f3 f4 f5 (m + 3) 3 (nI n) (nI (csm pc tc wd wr st i)) (nI (cps st i)) (nI i) (nI (st i)) (nI 0) (nI 0) (nI (wr + cpt st i)) (nI (wr + ctk st i)) F = F_Model_follows (nI l) (nI wr) f2 f3 f4 f5 (m + 2) 4 (nI n) (nI (csm pc tc wd wr st i)) (nI (cps st i)) (nI i) (nI (st i)) (nI (csm pc tc wd wr st i)) (nI (tc (wd (wr + ctk st i)))) (nI (wr + cpt st i)) (nI (wr + ctk st i)) F := by
        show B_Model_follows_3 (F_Model_follows (nI l) (nI wr) f2 f3 f4 f5 (m + 2)) (nI l) (nI wr) f2 f3 f4 f5 (nI n) _ _ (nI i) (nI (st i)) (nI 0) (nI 0) _ _ F = _
        have hlt16 : wr + ctk st i < 16 := by omega
        have hw6 := hwi.1
        simp (disch := omega) only [B_Model_follows_3, h7, hwi.2, hci.2.2, i_lit, nI_ltI, nI_leI, nI_eq, nI_add, pk_mul, pk_sub, nI_clamp, if_pos, if_neg, if_true, if_false, Option.bind_some, true_or, or_true, false_or, or_false, or_self, not_true_eq_false, not_false_eq_true, i_m1lt, i_m1le, i_nlt1, i_nle1, i_ne1, i_1ne]
      have a4 : F_Model_follows (nI l) (nI wr) f2 f3 f4 f5 (m + 2) 4 (nI n) (nI (csm pc tc wd wr st i)) (nI (cps st i)) (nI i) (nI (st i)) (nI (csm pc tc wd wr st i)) (nI (tc (wd (wr + ctk st i)))) (nI (wr + cpt st i)) (nI (wr + ctk st i)) F = F_Model_follows (nI l) (nI wr) f2 f3 f4 f5 (m + 1) 5 (nI n) (nI (csm pc tc wd wr st i + tc (wd (wr + ctk st i)))) (nI (cps st i)) (nI i) (nI (st i)) (nI (cps st i)) (nI 0) (nI (wr + cpt st i)) (nI (wr + ctk st i)) F := by
        show B_Model_follows_4 (F_Model_follows (nI l) (nI wr) f2 f3 f4 f5 (m + 1)) (nI l) (nI wr) f2 f3 f4 f5 (nI n) (nI (csm pc tc wd wr st i)) _ (nI i) (nI (st i)) _ _ _ _ F = _
        simp (disch := omega) only [B_Model_follows_4, i_lit, nI_ltI, nI_leI, nI_eq, nI_add, pk_mul, pk_sub, nI_clamp, if_pos, if_neg, if_true, if_false, Option.bind_some, true_or, or_true, false_or, or_false, or_self, not_true_eq_false, not_false_eq_true, i_m1lt, i_m1le, i_nlt1, i_nle1, i_ne1, i_1ne]
      rw [a3, a4]
      show B_Model_follows_5 (F_Model_follows (nI l) (nI wr) f2 f3 f4 f5 m) (nI l) (nI wr) f2 f3 f4 f5 (nI n) _ (nI (cps st i)) (nI i) (nI (st i)) _ (nI 0) _ _ F = _
      simp (disch := omega) only [B_Model_follows_5, csm, cps, cpt, ctk, Nat.add_zero, Nat.add_assoc, i_lit, nI_ltI, nI_leI, nI_eq, nI_add, pk_mul, pk_sub, nI_clamp, if_pos, if_neg, if_true, if_false, Option.bind_some, true_or, or_true, false_or, or_false, or_self, not_true_eq_false, not_false_eq_true, i_m1lt, i_m1le, i_nlt1, i_nle1, i_ne1, i_1ne]
    · have h77 : st i = 7 := by omega
      have hlt := hoki (by omega)
      have hwi := hw _ hlt
      refine ⟨_, rep_up hF (by omega), fun m => ?_⟩
      rw [e1]
      have a3 : F_Model_follows (nI l) (nI wr) f2 f3 f4 f5 (m + 3) 3 (nI n) (nI (csm pc tc wd wr st i)) (nI (cps st i)) (nI i) (nI (st i)) (nI 0) (nI 0) (nI (wr + cpt st i)) (nI (wr + ctk st i)) F = F_Model_follows (nI l) (nI wr) f2 f3 f4 f5 (m + 2) 4 (nI n) (nI (csm pc tc wd wr st i)) (nI (cps st i)) (nI i) (nI (st i)) (nI (csm pc tc wd wr st i)) (nI 0) (nI (wr + cpt st i)) (nI (wr + ctk st i)) F := by
        show B_Model_follows_3 (F_Model_follows (nI l) (nI wr) f2 f3 f4 f5 (m + 2)) (nI l) (nI wr) f2 f3 f4 f5 (nI n) _ _ (nI i) (nI (st i)) (nI 0) (nI 0) _ _ F = _
        simp (disch := omega) only [B_Model_follows_3, i_lit, nI_ltI, nI_leI, nI_eq, nI_add, pk_mul, pk_sub, nI_clamp, if_pos, if_neg, if_true, if_false, Option.bind_some, true_or, or_true, false_or, or_false, or_self, not_true_eq_false, not_false_eq_true, i_m1lt, i_m1le, i_nlt1, i_nle1, i_ne1, i_1ne]
      have a4 : F_Model_follows (nI l) (nI wr) f2 f3 f4 f5 (m + 2) 4 (nI n) (nI (csm pc tc wd wr st i)) (nI (cps st i)) (nI i) (nI (st i)) (nI (csm pc tc wd wr st i)) (nI 0) (nI (wr + cpt st i)) (nI (wr + ctk st i)) F = F_Model_follows (nI l) (nI wr) f2 f3 f4 f5 (m + 1) 5 (nI n) (nI (csm pc tc wd wr st i)) (nI (cps st i)) (nI i) (nI (st i)) (nI (cps st i + 1)) (nI 0) (nI (wr + cpt st i)) (nI (wr + ctk st i)) F := by
        show B_Model_follows_4 (F_Model_follows (nI l) (nI wr) f2 f3 f4 f5 (m + 1)) (nI l) (nI wr) f2 f3 f4 f5 (nI n) (nI (csm pc tc wd wr st i)) _ (nI i) (nI (st i)) _ _ _ _ F = _
        simp (disch := omega) only [B_Model_follows_4, Nat.add_zero, i_lit, nI_ltI, nI_leI, nI_eq, nI_add, pk_mul, pk_sub, nI_clamp, if_pos, if_neg, if_true, if_false, Option.bind_some, true_or, or_true, false_or, or_false, or_self, not_true_eq_false, not_false_eq_true, i_m1lt, i_m1le, i_nlt1, i_nle1, i_ne1, i_1ne]
      rw [a3, a4]
      show B_Model_follows_5 (F_Model_follows (nI l) (nI wr) f2 f3 f4 f5 m) (nI l) (nI wr) f2 f3 f4 f5 (nI n) _ (nI (cps st i)) (nI i) (nI (st i)) _ (nI 0) _ _ F = _
      have hlt16 : wr + ctk st i < 16 := by omega
      simp (disch := omega) only [B_Model_follows_5, csm, cps, cpt, ctk, Nat.add_zero, Nat.add_assoc, hwi.2, i_lit, nI_ltI, nI_leI, nI_eq, nI_add, pk_mul, pk_sub, nI_clamp, if_pos, if_neg, if_true, if_false, Option.bind_some, true_or, or_true, false_or, or_false, or_self, not_true_eq_false, not_false_eq_true, i_m1lt, i_m1le, i_nlt1, i_nle1, i_ne1, i_1ne]
theorem m_f0 (hl : l ≤ 16) (hw : ∀ j, j < l → wd j < 6 ∧ f5 j = nI (wd j)) (hwr : wr ≤ l) (F0 : Nat → Int32) (x1 x2 x3 : Int32) : ∀ k i m, i + k ≤ wr → F_Model_follows (nI l) (nI wr) f2 f3 f4 f5 (m + k) 0 x1 x2 x3 (nI i) (nI 0) (nI 0) (nI 0) (nI wr) (nI wr) (fl F0 (fun j => nI (wd j)) 0 i) = F_Model_follows (nI l) (nI wr) f2 f3 f4 f5 m 0 x1 x2 x3 (nI (i + k)) (nI 0) (nI 0) (nI 0) (nI wr) (nI wr) (fl F0 (fun j => nI (wd j)) 0 (i + k)) := by
  intro k
  induction k with
  | zero => intro i m h; rfl
  | succ k ih =>
    intro i m h
    show B_Model_follows_0 (F_Model_follows (nI l) (nI wr) f2 f3 f4 f5 (m + k)) (nI l) (nI wr) f2 f3 f4 f5 x1 x2 x3 (nI i) (nI 0) (nI 0) (nI 0) (nI wr) (nI wr) _ = _
    have hi := hw i (by omega)
    have hu := fl_up F0 (fun j => nI (wd j)) 0 i
    rw [Nat.zero_add] at hu
    simp (disch := omega) only [B_Model_follows_0, hi.2, hu, i_lit, nI_ltI, nI_leI, nI_eq, nI_add, pk_mul, pk_sub, nI_clamp, if_pos, if_neg, if_true, if_false, Option.bind_some, true_or, or_true, false_or, or_false, or_self, not_true_eq_false, not_false_eq_true, i_m1lt, i_m1le, i_nlt1, i_nle1, i_ne1, i_1ne]
    rw [ih (i + 1) m (by omega), show i + 1 + k = i + (k + 1) by omega]
/-- follows comes to its step i, if all before is in order -/
theorem m_fi (hl : l ≤ 16) (hw : ∀ j, j < l → wd j < 6 ∧ f5 j = nI (wd j)) (hc : cst pc tc f2 f4) (hn : n ≤ 7) (hwr : wr ≤ l) (x27 x28 : Int32) (F0 : Nat → Int32) : ∀ i, i ≤ n → (∀ j, j < i → f3 j = nI (st j) ∧ st j < 8 ∧ (6 ≤ st j → wr + ctk st j < l)) → (∀ j, j + 1 < i → st j = 6 → 6 ≤ st (j + 1)) →
    ∃ F, rep F (ow wd wr st i) (wr + cpt st i) ∧ ∀ m, m + 5 * i + 1 + wr = fuel_ → S_Model_follows (nI n) (nI l) (nI wr) x27 x28 F0 f2 f3 f4 f5 = F_Model_follows (nI l) (nI wr) f2 f3 f4 f5 m 1 (nI n) (nI (csm pc tc wd wr st i)) (nI (cps st i)) (nI i) (nI 0) (nI 0) (nI 0) (nI (wr + cpt st i)) (nI (wr + ctk st i)) F := by
  intro i
  induction i with
  | zero =>
    intro _ _ _
    refine ⟨fl F0 (fun j => nI (wd j)) 0 wr, fun j hj => fl_in (by omega) (by simp only [cpt] at hj; omega), fun m hm => ?_⟩
    have e := m_f0 (f2 := f2) (f3 := f3) (f4 := f4) hl hw hwr F0 (nI n) (nI 0) (nI 0) wr 0 (m + 1) (by omega)
    rw [Nat.zero_add, fl_0] at e
    have hS : S_Model_follows (nI n) (nI l) (nI wr) x27 x28 F0 f2 f3 f4 f5 = F_Model_follows (nI l) (nI wr) f2 f3 f4 f5 (m + 1 + wr) 0 (nI n) (nI 0) (nI 0) (nI 0) (nI 0) (nI 0) (nI 0) (nI wr) (nI wr) F0 := by
      rw [show m + 1 + wr = fuel_ by omega]; rfl
    rw [hS, e]
    show B_Model_follows_0 (F_Model_follows (nI l) (nI wr) f2 f3 f4 f5 m) (nI l) (nI wr) f2 f3 f4 f5 (nI n) (nI 0) (nI 0) (nI wr) (nI 0) (nI 0) (nI 0) (nI wr) (nI wr) _ = _
    simp (disch := omega) only [B_Model_follows_0, csm, cps, cpt, ctk, Nat.add_zero, i_lit, nI_ltI, nI_leI, nI_eq, nI_add, pk_mul, pk_sub, nI_clamp, if_pos, if_neg, if_true, if_false, Option.bind_some, true_or, or_true, false_or, or_false, or_self, not_true_eq_false, not_false_eq_true, i_m1lt, i_m1le, i_nlt1, i_nle1, i_ne1, i_1ne]
  | succ i ih =>
    intro hi h1 h2
    obtain ⟨F, hF, e⟩ := ih (by omega) (fun j hj => h1 j (by omega)) (fun j hj => h2 j (by omega))
    obtain ⟨F', hF', e'⟩ := m_f1 (f2 := f2) (f3 := f3) (f4 := f4) hl hw hc hn hwr (i := i) (by omega) (fun j hj => (h1 j (by omega)).1) (fun j hj => (h1 j (by omega)).2.1) (fun j hj => (h1 j (by omega)).2.2) (fun h0 h6 h7 => by
      have := h2 (i - 1) (by omega) h7
      rw [show i - 1 + 1 = i by omega] at this
      omega) hF
    exact ⟨F', hF', fun m hm => by rw [e (m + 5) (by omega), e']⟩
theorem m_follows (hl : l ≤ 16) (hw : ∀ j, j < l → wd j < 6 ∧ f5 j = nI (wd j)) (hc : cst pc tc f2 f4) (hn : n ≤ 7) (hwr : wr ≤ l) (x27 x28 : Int32) (F0 : Nat → Int32) (hr : ∀ j, j < n → f3 j = nI (st j)) (hok : rok l wr n st) :
    ∃ F, rep F (ow wd wr st n) (wr + cpt st n) ∧ S_Model_follows (nI n) (nI l) (nI wr) x27 x28 F0 f2 f3 f4 f5 = some (nI (csm pc tc wd wr st n), nI (wr + cpt st n), nI (wr + ctk st n), F) := by
  obtain ⟨F, hF, e⟩ := m_fi (f2 := f2) (f3 := f3) (f4 := f4) (pc := pc) (tc := tc) hl hw hc hn hwr x27 x28 F0 n (Nat.le_refl _) (fun j hj => ⟨hr j hj, hok.1 j hj⟩) hok.2.1
  refine ⟨F, hF, ?_⟩
  obtain ⟨m, hm⟩ := fuelled (k := 1 + 5 * n + 1 + wr) (by omega)
  rw [e (m + 1) (by omega)]
  show B_Model_follows_1 (F_Model_follows (nI l) (nI wr) f2 f3 f4 f5 m) (nI l) (nI wr) f2 f3 f4 f5 (nI n) _ _ (nI n) (nI 0) (nI 0) (nI 0) _ _ F = _
  have := hok.2.2
  simp (disch := omega) only [B_Model_follows_1, i_lit, nI_ltI, nI_leI, nI_eq, nI_add, pk_mul, pk_sub, nI_clamp, if_pos, if_neg, if_true, if_false, Option.bind_some, true_or, or_true, false_or, or_false, or_self, not_true_eq_false, not_false_eq_true, i_m1lt, i_m1le, i_nlt1, i_nle1, i_ne1, i_1ne]
end
