/-! the call apply: the class, and both together -/
theorem i_gr1 (a b : Nat) : nI a - nI b + -nI 1 = nI a - nI (b + 1) := by
  rw [← nI_add]; grind
theorem i_gr2 (a b : Nat) : nI a - nI b + nI 1 = nI (a + 1) - nI b := by
  rw [← nI_add]; grind
theorem i_gr3 (a b : Nat) : nI (a + 1) - nI (b + 1) = nI a - nI b := by
  rw [← nI_add, ← nI_add]; grind
theorem i_gr4 {l a b : Nat} (h : b ≤ l + a) : nI l + (nI a - nI b) = nI (l + a - b) := by
  rw [← pk_sub h, ← nI_add]; grind
/-- the text behind the row is put on -/
def fw (wd : Nat → Nat) (wr : Nat) (st : Nat → Nat) (n : Nat) : Nat → Nat := fun j => if j < wr + cpt st n then ow wd wr st n j else wd (j - (wr + cpt st n) + (wr + ctk st n))
theorem ow_lt {wd : Nat → Nat} {l wr n : Nat} {st : Nat → Nat} (hw : ∀ j, j < l → wd j < 6) (hwr : wr ≤ l) (h : rok l wr n st) : ∀ i, i ≤ n → ∀ j, j < wr + cpt st i → ow wd wr st i j < 6
  | 0, _, j, hj => hw j (by simp only [cpt] at hj; omega)
  | i + 1, hi, j, hj => by
    simp only [ow]
    by_cases e : st i ≠ 6 ∧ j = wr + cpt st i
    · rw [if_pos e]
      by_cases h6 : st i < 6
      · rw [if_pos h6]; exact h6
      · rw [if_neg h6]; exact hw _ ((h.1 i (by omega)).2 (by omega))
    · rw [if_neg e]
      refine ow_lt hw hwr h i (by omega) j ?_
      simp only [cpt] at hj
      by_cases h6 : st i = 6
      · rw [if_pos h6] at hj; omega
      · rw [if_neg h6] at hj
        have : j ≠ wr + cpt st i := fun e2 => e ⟨h6, e2⟩
        omega
theorem fw_lt {wd : Nat → Nat} {l wr n : Nat} {st : Nat → Nat} (hw : ∀ j, j < l → wd j < 6) (hwr : wr ≤ l) (h : rok l wr n st) {j : Nat} (hj : j < wr + cpt st n + (l - (wr + ctk st n))) : fw wd wr st n j < 6 := by
  simp only [fw]
  by_cases e : j < wr + cpt st n
  · rw [if_pos e]; exact ow_lt hw hwr h n (Nat.le_refl _) j e
  · rw [if_neg e]; exact hw _ (by omega)
theorem t_copy0 {l b e a : Nat} (hl : l ≤ 16) (he : e ≤ l) (L M : Nat → Int32) (ha : a + (e - b) ≤ 16) (hb : b ≤ e) (x1 x2 : Int32) : ∀ k i m, i + k ≤ e - b → F_Text_copyInto (nI l) L (m + k) 0 x1 x2 (nI e) (nI (a + i)) (nI (b + i)) (fl M (fun j => L (b + (j - a))) a i) = F_Text_copyInto (nI l) L m 0 x1 x2 (nI e) (nI (a + (i + k))) (nI (b + (i + k))) (fl M (fun j => L (b + (j - a))) a (i + k)) := by
  intro k
  induction k with
  | zero => intro i m h; rfl
  | succ k ih =>
    intro i m h
    show B_Text_copyInto_0 (F_Text_copyInto (nI l) L (m + k)) (nI l) L x1 x2 (nI e) (nI (a + i)) (nI (b + i)) _ = _
    have hu := fl_up M (fun j => L (b + (j - a))) a i
    have e1 : a + i - a = i := by omega
    simp only [e1] at hu
    simp (disch := omega) only [B_Text_copyInto_0, hu, i_lit, nI_ltI, nI_leI, nI_eq, nI_add, pk_mul, pk_sub, nI_clamp, if_pos, if_neg, if_true, if_false, Option.bind_some, true_or, or_true, false_or, or_false, or_self, not_true_eq_false, not_false_eq_true, i_m1lt, i_m1le, i_nlt1, i_nle1, i_ne1, i_1ne]
    rw [show a + i + 1 = a + (i + 1) by omega, show b + i + 1 = b + (i + 1) by omega, ih (i + 1) m (by omega), show i + 1 + k = i + (k + 1) by omega]
theorem t_copy {l b e a : Nat} (hl : l ≤ 16) (he : e ≤ l) (L M : Nat → Int32) (ha : a + (e - b) ≤ 16) (hb : b ≤ e) : S_Text_copyInto (nI a) (nI b) (nI e) (nI l) L M = some (nI (a + (e - b)), fl M (fun j => L (b + (j - a))) a (e - b)) := by
  obtain ⟨m, hm⟩ := fuelled (k := 1 + (e - b)) (by omega)
  have e0 := t_copy0 hl he L M ha hb (nI a) (nI b) (e - b) 0 (m + 1) (by omega)
  simp only [fl_0, Nat.add_zero, Nat.zero_add] at e0
  rw [S_Text_copyInto, hm, show m + (1 + (e - b)) = m + 1 + (e - b) by omega, e0]
  show B_Text_copyInto_0 (F_Text_copyInto (nI l) L m) (nI l) L (nI a) (nI b) (nI e) (nI (a + (e - b))) (nI (b + (e - b))) _ = _
  simp (disch := omega) only [B_Text_copyInto_0, i_lit, nI_ltI, nI_leI, nI_eq, nI_add, pk_mul, pk_sub, nI_clamp, if_pos, if_neg, if_true, if_false, Option.bind_some, true_or, or_true, false_or, or_false, or_self, not_true_eq_false, not_false_eq_true, i_m1lt, i_m1le, i_nlt1, i_nle1, i_ne1, i_1ne]
section
variable {f wr l : Nat} {len : Nat → Nat} {st : Nat → Nat → Nat} {a3 a4 a5 b16 b22 b23 : Int32} {f24 f25 f26 g45 g46 : Nat → Int32}
theorem d_growth (h : IF f wr l len st a3 a4 a5 f24 f25 f26 b16 b22 b23 g45 g46) {k : Nat} (hk : k < f) : S_Finds_growthBy (nI k) a3 f25 f24 = some (nI (cpt (st k) (len k)) - nI (ctk (st k) (len k))) := by
  have hlen := s_lengthOf h hk
  obtain ⟨hf, rfl, rfl, -, -, hh⟩ := id h
  obtain ⟨c1, c2, c3, c4, c5, c6⟩ := hh k hk
  have scan : ∀ j i m, i + j ≤ len k → F_Finds_growthBy (nI f) f25 f24 (m + j) 0 (nI k) (nI (cpt (st k) i) - nI (ctk (st k) i)) (nI i) = F_Finds_growthBy (nI f) f25 f24 m 0 (nI k) (nI (cpt (st k) (i + j)) - nI (ctk (st k) (i + j))) (nI (i + j)) := by
    intro j
    induction j with
    | zero => intro i m h; rfl
    | succ j ih =>
      intro i m h
      show B_Finds_growthBy_0 (F_Finds_growthBy (nI f) f25 f24 (m + j)) (nI f) f25 f24 (nI k) _ (nI i) = _
      have hi := c4 i (by omega)
      have step : B_Finds_growthBy_0 (F_Finds_growthBy (nI f) f25 f24 (m + j)) (nI f) f25 f24 (nI k) (nI (cpt (st k) i) - nI (ctk (st k) i)) (nI i) = F_Finds_growthBy (nI f) f25 f24 (m + j) 0 (nI k) (nI (cpt (st k) (i + 1)) - nI (ctk (st k) (i + 1))) (nI (i + 1)) := by
        have hlt := hi.1
        by_cases h6 : st k i = 6
        · simp (disch := omega) only [B_Finds_growthBy_0, hlen, hi.2.1, i_gr1, cpt, ctk, h6, Nat.add_zero, Nat.le_refl, i_lit, nI_ltI, nI_leI, nI_eq, nI_add, pk_mul, pk_sub, nI_clamp, if_pos, if_neg, if_true, if_false, Option.bind_some, true_or, or_true, false_or, or_false, or_self, not_true_eq_false, not_false_eq_true, i_m1lt, i_m1le, i_nlt1, i_nle1, i_ne1, i_1ne]
        · by_cases h7 : st k i = 7
          · simp (disch := omega) only [B_Finds_growthBy_0, hlen, hi.2.1, cpt, ctk, h7, i_gr3, i_lit, nI_ltI, nI_leI, nI_eq, nI_add, pk_mul, pk_sub, nI_clamp, if_pos, if_neg, if_true, if_false, Option.bind_some, true_or, or_true, false_or, or_false, or_self, not_true_eq_false, not_false_eq_true, i_m1lt, i_m1le, i_nlt1, i_nle1, i_ne1, i_1ne]
          · simp (disch := omega) only [B_Finds_growthBy_0, hlen, hi.2.1, i_gr2, cpt, ctk, Nat.add_zero, i_lit, nI_ltI, nI_leI, nI_eq, nI_add, pk_mul, pk_sub, nI_clamp, if_pos, if_neg, if_true, if_false, Option.bind_some, true_or, or_true, false_or, or_false, or_self, not_true_eq_false, not_false_eq_true, i_m1lt, i_m1le, i_nlt1, i_nle1, i_ne1, i_1ne]
      rw [step, ih (i + 1) m (by omega), show i + 1 + j = i + (j + 1) by omega]
  obtain ⟨m, hm⟩ := fuelled (k := 1 + len k) (by omega)
  have e := scan (len k) 0 (m + 1) (by omega)
  rw [Nat.zero_add] at e
  have e0 : nI (cpt (st k) 0) - nI (ctk (st k) 0) = 0 := by show nI 0 - nI 0 = nI 0; decide
  rw [e0] at e
  rw [S_Finds_growthBy, hm, show m + (1 + len k) = m + 1 + len k by omega]
  refine e.trans ?_
  show B_Finds_growthBy_0 (F_Finds_growthBy (nI f) f25 f24 m) (nI f) f25 f24 (nI k) _ (nI (len k)) = _
  simp (disch := omega) only [B_Finds_growthBy_0, hlen, i_lit, nI_ltI, nI_leI, nI_eq, nI_add, pk_mul, pk_sub, nI_clamp, if_pos, if_neg, if_true, if_false, Option.bind_some, true_or, or_true, false_or, or_false, or_self, not_true_eq_false, not_false_eq_true, i_m1lt, i_m1le, i_nlt1, i_nle1, i_ne1, i_1ne]
/-- one step of the class's mend -/
theorem d_m1 (h : IF f wr l len st a3 a4 a5 f24 f25 f26 b16 b22 b23 g45 g46) {k : Nat} (hk : k < f) (hl : l ≤ 16) {wd : Nat → Nat} {L : Nat → Int32} (hw : ∀ j, j < l → wd j < 6 ∧ L j = nI (wd j)) (x5 : Int32) {i : Nat} (hi : i < len k) (h16 : wr + cpt (st k) (len k) ≤ 16) (hwr : wr ≤ l)
    {M : Nat → Int32} (hM : rep M (ow wd wr (st k) i) (wr + cpt (st k) i)) : ∃ M', rep M' (ow wd wr (st k) (i + 1)) (wr + cpt (st k) (i + 1)) ∧ ∀ m, F_Text_mend a3 x5 f25 f24 (m + 2) 0 (nI k) (nI (wr + ctk (st k) i)) (nI (wr + cpt (st k) i)) (nI i) (nI 0) (nI l) L M = F_Text_mend a3 x5 f25 f24 m 0 (nI k) (nI (wr + ctk (st k) (i + 1))) (nI (wr + cpt (st k) (i + 1))) (nI (i + 1)) (nI 0) (nI l) L M' := by
  have hlen := s_lengthOf h hk
  have hstep := s_stepAt h hk hi
  obtain ⟨hf, rfl, rfl, -, -, hh⟩ := id h
  obtain ⟨c1, c2, c3, c4, c5, c6⟩ := hh k hk
  have h8 := (c6.1 i hi).1
  have hok := (c6.1 i hi).2
  have hmono := cpt_mono (st k) (show i + 1 ≤ len k by omega)
  by_cases h6 : st k i = 6
  · refine ⟨M, rep_same hM h6, fun m => ?_⟩
    have a1 : F_Text_mend (nI f) x5 f25 f24 (m + 2) 0 (nI k) (nI (wr + ctk (st k) i)) (nI (wr + cpt (st k) i)) (nI i) (nI 0) (nI l) L M = F_Text_mend (nI f) x5 f25 f24 (m + 1) 1 (nI k) (nI (wr + ctk (st k) i)) (nI (wr + cpt (st k) i)) (nI i) (nI (st k i)) (nI l) L M := by
      show B_Text_mend_0 (F_Text_mend (nI f) x5 f25 f24 (m + 1)) (nI f) x5 f25 f24 (nI k) (nI (wr + ctk (st k) i)) (nI (wr + cpt (st k) i)) (nI i) (nI 0) (nI l) L M = _
      simp (disch := omega) only [B_Text_mend_0, hlen, hstep, h6, i_lit, nI_ltI, nI_leI, nI_eq, nI_add, pk_mul, pk_sub, nI_clamp, if_pos, if_neg, if_true, if_false, Option.bind_some, true_or, or_true, false_or, or_false, or_self, not_true_eq_false, not_false_eq_true, i_m1lt, i_m1le, i_nlt1, i_nle1, i_ne1, i_1ne]
    rw [a1]
    show B_Text_mend_1 (F_Text_mend (nI f) x5 f25 f24 m) (nI f) x5 f25 f24 (nI k) (nI (wr + ctk (st k) i)) (nI (wr + cpt (st k) i)) (nI i) (nI (st k i)) (nI l) L M = _
    simp (disch := omega) only [B_Text_mend_1, h6, cpt, ctk, Nat.add_zero, Nat.add_assoc, Nat.le_refl, i_lit, nI_ltI, nI_leI, nI_eq, nI_add, pk_mul, pk_sub, nI_clamp, if_pos, if_neg, if_true, if_false, Option.bind_some, true_or, or_true, false_or, or_false, or_self, not_true_eq_false, not_false_eq_true, i_m1lt, i_m1le, i_nlt1, i_nle1, i_ne1, i_1ne]
  · have hcp : cpt (st k) (i + 1) = cpt (st k) i + 1 := by simp only [cpt, if_neg h6]
    by_cases h7 : st k i = 7
    · have hlt := hok (by omega)
      have hc := t_copy (l := l) (b := wr + ctk (st k) i) (e := wr + ctk (st k) i + 1) (a := wr + cpt (st k) i) hl (by omega) L M (by omega) (by omega)
      rw [show wr + ctk (st k) i + 1 - (wr + ctk (st k) i) = 1 by omega] at hc
      refine ⟨fl M (fun j => L (wr + ctk (st k) i + (j - (wr + cpt (st k) i)))) (wr + cpt (st k) i) 1, ?_, fun m => ?_⟩
      · have := rep_up hM h6
        have e : upd M (wr + cpt (st k) i) (nI (if st k i < 6 then st k i else wd (wr + ctk (st k) i))) = fl M (fun j => L (wr + ctk (st k) i + (j - (wr + cpt (st k) i)))) (wr + cpt (st k) i) 1 := by
          rw [if_neg (by omega), ← (hw _ hlt).2]
          have hu := fl_up M (fun j => L (wr + ctk (st k) i + (j - (wr + cpt (st k) i)))) (wr + cpt (st k) i) 0
          rw [fl_0, Nat.add_zero, Nat.sub_self, Nat.add_zero] at hu
          exact hu
        rwa [e] at this
      · have a1 : F_Text_mend (nI f) x5 f25 f24 (m + 2) 0 (nI k) (nI (wr + ctk (st k) i)) (nI (wr + cpt (st k) i)) (nI i) (nI 0) (nI l) L M = F_Text_mend (nI f) x5 f25 f24 (m + 1) 1 (nI k) (nI (wr + ctk (st k) i)) (nI (wr + cpt (st k) i + 1)) (nI i) (nI (st k i)) (nI l) L (fl M (fun j => L (wr + ctk (st k) i + (j - (wr + cpt (st k) i)))) (wr + cpt (st k) i) 1) := by
          show B_Text_mend_0 (F_Text_mend (nI f) x5 f25 f24 (m + 1)) (nI f) x5 f25 f24 (nI k) (nI (wr + ctk (st k) i)) (nI (wr + cpt (st k) i)) (nI i) (nI 0) (nI l) L M = _
          simp (disch := omega) only [B_Text_mend_0, hlen, hstep, h7, hc, i_lit, nI_ltI, nI_leI, nI_eq, nI_add, pk_mul, pk_sub, nI_clamp, if_pos, if_neg, if_true, if_false, Option.bind_some, true_or, or_true, false_or, or_false, or_self, not_true_eq_false, not_false_eq_true, i_m1lt, i_m1le, i_nlt1, i_nle1, i_ne1, i_1ne]
        rw [a1]
        show B_Text_mend_1 (F_Text_mend (nI f) x5 f25 f24 m) (nI f) x5 f25 f24 (nI k) (nI (wr + ctk (st k) i)) (nI (wr + cpt (st k) i + 1)) (nI i) (nI (st k i)) (nI l) L _ = _
        simp (disch := omega) only [B_Text_mend_1, h7, hcp, ctk, Nat.add_zero, Nat.add_assoc, i_lit, nI_ltI, nI_leI, nI_eq, nI_add, pk_mul, pk_sub, nI_clamp, if_pos, if_neg, if_true, if_false, Option.bind_some, true_or, or_true, false_or, or_false, or_self, not_true_eq_false, not_false_eq_true, i_m1lt, i_m1le, i_nlt1, i_nle1, i_ne1, i_1ne]
    · have h66 : st k i < 6 := by omega
      refine ⟨_, rep_up hM h6, fun m => ?_⟩
      have a1 : F_Text_mend (nI f) x5 f25 f24 (m + 2) 0 (nI k) (nI (wr + ctk (st k) i)) (nI (wr + cpt (st k) i)) (nI i) (nI 0) (nI l) L M = F_Text_mend (nI f) x5 f25 f24 (m + 1) 1 (nI k) (nI (wr + ctk (st k) i)) (nI (wr + cpt (st k) i + 1)) (nI i) (nI (st k i)) (nI l) L (upd M (wr + cpt (st k) i) (nI (if st k i < 6 then st k i else wd (wr + ctk (st k) i)))) := by
        show B_Text_mend_0 (F_Text_mend (nI f) x5 f25 f24 (m + 1)) (nI f) x5 f25 f24 (nI k) (nI (wr + ctk (st k) i)) (nI (wr + cpt (st k) i)) (nI i) (nI 0) (nI l) L M = _
        simp (disch := omega) only [B_Text_mend_0, hlen, hstep, i_lit, nI_ltI, nI_leI, nI_eq, nI_add, pk_mul, pk_sub, nI_clamp, if_pos, if_neg, if_true, if_false, Option.bind_some, true_or, or_true, false_or, or_false, or_self, not_true_eq_false, not_false_eq_true, i_m1lt, i_m1le, i_nlt1, i_nle1, i_ne1, i_1ne]
      rw [a1]
      show B_Text_mend_1 (F_Text_mend (nI f) x5 f25 f24 m) (nI f) x5 f25 f24 (nI k) (nI (wr + ctk (st k) i)) (nI (wr + cpt (st k) i + 1)) (nI i) (nI (st k i)) (nI l) L _ = _
      simp (disch := omega) only [B_Text_mend_1, hcp, ctk, Nat.add_zero, Nat.add_assoc, i_lit, nI_ltI, nI_leI, nI_eq, nI_add, pk_mul, pk_sub, nI_clamp, if_pos, if_neg, if_true, if_false, Option.bind_some, true_or, or_true, false_or, or_false, or_self, not_true_eq_false, not_false_eq_true, i_m1lt, i_m1le, i_nlt1, i_nle1, i_ne1, i_1ne]
theorem d_mend (h : IF f wr l len st a3 a4 a5 f24 f25 f26 b16 b22 b23 g45 g46) {k : Nat} (hk : k < f) (hl : l ≤ 16) {wd : Nat → Nat} {L M0 : Nat → Int32} (hw : ∀ j, j < l → wd j < 6 ∧ L j = nI (wd j)) (h16 : wr + cpt (st k) (len k) + (l - (wr + ctk (st k) (len k))) ≤ 16) :
    ∃ L' M', rep L' (fw wd wr (st k) (len k)) (wr + cpt (st k) (len k) + (l - (wr + ctk (st k) (len k)))) ∧ S_Text_mend (nI k) (nI l) L M0 a3 a5 f25 f24 = some (nI (wr + cpt (st k) (len k) + (l - (wr + ctk (st k) (len k)))), L', M') := by
  have hlen := s_lengthOf h hk
  obtain ⟨hf, rfl, rfl, -, h5, hh⟩ := id h
  obtain ⟨c1, c2, c3, c4, c5, c6⟩ := hh k hk
  obtain ⟨h5, -, hwr⟩ := h5 (by omega)
  have hc0 := t_copy (l := l) (b := 0) (e := wr) (a := 0) hl hwr L M0 (by omega) (by omega)
  rw [Nat.zero_add, Nat.sub_zero] at hc0
  have scan : ∀ i, i ≤ len k → ∃ M, rep M (ow wd wr (st k) i) (wr + cpt (st k) i) ∧ ∀ m, m + 2 * i = fuel_ → S_Text_mend (nI k) (nI l) L M0 (nI f) a5 f25 f24 = F_Text_mend (nI f) (nI wr) f25 f24 m 0 (nI k) (nI (wr + ctk (st k) i)) (nI (wr + cpt (st k) i)) (nI i) (nI 0) (nI l) L M := by
    intro i
    induction i with
    | zero =>
      intro _
      refine ⟨fl M0 (fun j => L (0 + (j - 0))) 0 wr, fun j hj => ?_, fun m hm => ?_⟩
      · simp only [cpt] at hj
        rw [fl_in (by omega) (by omega), Nat.sub_zero, Nat.zero_add, (hw j (by omega)).2]; rfl
      · rw [Nat.mul_zero, Nat.add_zero] at hm
        simp (disch := omega) only [S_Text_mend, S_Finds_wrongPlace, h5, hc0, hm, cpt, ctk, Nat.add_zero, i_lit, nI_ltI, nI_leI, nI_eq, nI_add, pk_mul, pk_sub, nI_clamp, if_pos, if_neg, if_true, if_false, Option.bind_some, true_or, or_true, false_or, or_false, or_self, not_true_eq_false, not_false_eq_true, i_m1lt, i_m1le, i_nlt1, i_nle1, i_ne1, i_1ne]
    | succ i ih =>
      intro hi
      obtain ⟨M, hM, e⟩ := ih (by omega)
      obtain ⟨M', hM', e'⟩ := d_m1 h hk hl hw (nI wr) (i := i) (by omega) (by omega) hwr hM
      exact ⟨M', hM', fun m hm => by rw [e (m + 2) (by omega), e']⟩
  obtain ⟨M, hM, e⟩ := scan (len k) (Nat.le_refl _)
  have hct := ctk_le c6 hwr (len k) (Nat.le_refl _)
  generalize hN : wr + cpt (st k) (len k) + (l - (wr + ctk (st k) (len k))) = N at h16 ⊢
  have hc := t_copy (l := l) (b := wr + ctk (st k) (len k)) (e := l) (a := wr + cpt (st k) (len k)) hl (Nat.le_refl _) L M (by omega) hct
  generalize hM2 : fl M (fun j => L (wr + ctk (st k) (len k) + (j - (wr + cpt (st k) (len k))))) (wr + cpt (st k) (len k)) (l - (wr + ctk (st k) (len k))) = M2 at hc
  have hr2 : rep M2 (fw wd wr (st k) (len k)) N := by
    intro j hj
    rw [← hM2]
    simp only [fw]
    by_cases ej : j < wr + cpt (st k) (len k)
    · rw [fl_out (Or.inl ej), if_pos ej]; exact hM j ej
    · rw [fl_in (by omega) (by omega), if_neg ej, (hw _ (by omega)).2, Nat.add_comm]
  have cp : ∀ j i m, i + j ≤ N → F_Text_mend (nI f) (nI wr) f25 f24 (m + j) 2 (nI k) (nI (wr + ctk (st k) (len k))) (nI (wr + cpt (st k) (len k))) (nI i) (nI 0) (nI N) (fl L M2 0 i) M2 = F_Text_mend (nI f) (nI wr) f25 f24 m 2 (nI k) (nI (wr + ctk (st k) (len k))) (nI (wr + cpt (st k) (len k))) (nI (i + j)) (nI 0) (nI N) (fl L M2 0 (i + j)) M2 := by
    intro j
    induction j with
    | zero => intro i m h; rfl
    | succ j ih =>
      intro i m h
      show B_Text_mend_2 (F_Text_mend (nI f) (nI wr) f25 f24 (m + j)) (nI f) (nI wr) f25 f24 (nI k) (nI (wr + ctk (st k) (len k))) (nI (wr + cpt (st k) (len k))) (nI i) (nI 0) (nI N) (fl L M2 0 i) M2 = _
      have hu := fl_up L M2 0 i
      rw [Nat.zero_add] at hu
      simp (disch := omega) only [B_Text_mend_2, hu, i_lit, nI_ltI, nI_leI, nI_eq, nI_add, pk_mul, pk_sub, nI_clamp, if_pos, if_neg, if_true, if_false, Option.bind_some, true_or, or_true, false_or, or_false, or_self, not_true_eq_false, not_false_eq_true, i_m1lt, i_m1le, i_nlt1, i_nle1, i_ne1, i_1ne]
      rw [ih (i + 1) m (by omega), show i + 1 + j = i + (j + 1) by omega]
  refine ⟨fl L M2 0 N, M2, fun j hj => by rw [fl_in (by omega) (by omega)]; exact hr2 j hj, ?_⟩
  obtain ⟨m, hm⟩ := fuelled (k := 1 + N + 1 + 2 * len k) (by omega)
  rw [e (m + 1 + N + 1) (by omega)]
  have a1 : F_Text_mend (nI f) (nI wr) f25 f24 (m + 1 + N + 1) 0 (nI k) (nI (wr + ctk (st k) (len k))) (nI (wr + cpt (st k) (len k))) (nI (len k)) (nI 0) (nI l) L M = F_Text_mend (nI f) (nI wr) f25 f24 (m + 1 + N) 2 (nI k) (nI (wr + ctk (st k) (len k))) (nI (wr + cpt (st k) (len k))) (nI 0) (nI 0) (nI N) L M2 := by
    show B_Text_mend_0 (F_Text_mend (nI f) (nI wr) f25 f24 (m + 1 + N)) (nI f) (nI wr) f25 f24 (nI k) (nI (wr + ctk (st k) (len k))) (nI (wr + cpt (st k) (len k))) (nI (len k)) (nI 0) (nI l) L M = _
    simp (disch := omega) only [B_Text_mend_0, hlen, hc, hN, i_lit, nI_ltI, nI_leI, nI_eq, nI_add, pk_mul, pk_sub, nI_clamp, if_pos, if_neg, if_true, if_false, Option.bind_some, true_or, or_true, false_or, or_false, or_self, not_true_eq_false, not_false_eq_true, i_m1lt, i_m1le, i_nlt1, i_nle1, i_ne1, i_1ne]
  have e2 := cp N 0 (m + 1) (by omega)
  rw [fl_0, Nat.zero_add] at e2
  rw [a1, e2]
  show B_Text_mend_2 (F_Text_mend (nI f) (nI wr) f25 f24 m) (nI f) (nI wr) f25 f24 (nI k) (nI (wr + ctk (st k) (len k))) (nI (wr + cpt (st k) (len k))) (nI N) (nI 0) (nI N) (fl L M2 0 N) M2 = _
  simp (disch := omega) only [B_Text_mend_2, i_lit, nI_ltI, nI_leI, nI_eq, nI_add, pk_mul, pk_sub, nI_clamp, if_pos, if_neg, if_true, if_false, Option.bind_some, true_or, or_true, false_or, or_false, or_self, not_true_eq_false, not_false_eq_true, i_m1lt, i_m1le, i_nlt1, i_nle1, i_ne1, i_1ne]
end
theorem m_a0 {l1 : Nat} (hl : l1 < 40) {n : Nat} {st : Nat → Nat} {g45 : Nat → Int32} (hn : n ≤ 6) (hs : ∀ i, i < n → st i < 8 ∧ g45 (7 * l1 + i) = nI (st i)) (x16 : Int32) (f2 f5 : Nat → Int32) (x0 x15 x22 x23 x27 x28 : Int32) (f1 R f6 : Nat → Int32) :
    ∀ k i m, i + k ≤ n → F_Model_apply x16 f2 g45 f5 (m + k) 0 (nI l1) (nI i) (nI 0) (nI 0) x0 x15 x22 x23 x27 x28 f1 (fl R (fun j => nI (st j)) 0 i) f6 = F_Model_apply x16 f2 g45 f5 m 0 (nI l1) (nI (i + k)) (nI 0) (nI 0) x0 x15 x22 x23 x27 x28 f1 (fl R (fun j => nI (st j)) 0 (i + k)) f6 := by
  intro k
  induction k with
  | zero => intro i m h; rfl
  | succ k ih =>
    intro i m h
    show B_Model_apply_0 (F_Model_apply x16 f2 g45 f5 (m + k)) x16 f2 g45 f5 (nI l1) (nI i) (nI 0) (nI 0) x0 x15 x22 x23 x27 x28 f1 _ f6 = _
    have hi := hs i (by omega)
    have hlt := hi.1
    have hu := fl_up R (fun j => nI (st j)) 0 i
    rw [Nat.zero_add] at hu
    simp (disch := omega) only [B_Model_apply_0, hi.2, hu, i_lit, nI_ltI, nI_leI, nI_eq, nI_add, pk_mul, pk_sub, nI_clamp, if_pos, if_neg, if_true, if_false, Option.bind_some, true_or, or_true, false_or, or_false, or_self, not_true_eq_false, not_false_eq_true, i_m1lt, i_m1le, i_nlt1, i_nle1, i_ne1, i_1ne]
    rw [ih (i + 1) m (by omega), show i + 1 + k = i + (k + 1) by omega]
theorem m_a2 {l a b : Nat} (hl : l ≤ 16) (ha : a + (l - b) ≤ 24) (hb : b ≤ l) (x16 : Int32) (f2 f4 f5 : Nat → Int32) (l1 l2 l3 x0 x22 x23 x28 : Int32) (F R wd : Nat → Int32) :
    ∀ k i m, i + k ≤ l - b → F_Model_apply x16 f2 f4 f5 (m + k) 2 l1 l2 l3 (nI (b + i)) x0 (nI l) x22 x23 (nI (a + i)) x28 (fl F (fun j => wd (b + (j - a))) a i) R wd = F_Model_apply x16 f2 f4 f5 m 2 l1 l2 l3 (nI (b + (i + k))) x0 (nI l) x22 x23 (nI (a + (i + k))) x28 (fl F (fun j => wd (b + (j - a))) a (i + k)) R wd := by
  intro k
  induction k with
  | zero => intro i m h; rfl
  | succ k ih =>
    intro i m h
    show B_Model_apply_2 (F_Model_apply x16 f2 f4 f5 (m + k)) x16 f2 f4 f5 l1 l2 l3 (nI (b + i)) x0 (nI l) x22 x23 (nI (a + i)) x28 _ R wd = _
    have hu := fl_up F (fun j => wd (b + (j - a))) a i
    have e1 : a + i - a = i := by omega
    simp only [e1] at hu
    simp (disch := omega) only [B_Model_apply_2, hu, i_lit, nI_ltI, nI_leI, nI_eq, nI_add, pk_mul, pk_sub, nI_clamp, if_pos, if_neg, if_true, if_false, Option.bind_some, true_or, or_true, false_or, or_false, or_self, not_true_eq_false, not_false_eq_true, i_m1lt, i_m1le, i_nlt1, i_nle1, i_ne1, i_1ne]
    rw [show a + i + 1 = a + (i + 1) by omega, show b + i + 1 = b + (i + 1) by omega, ih (i + 1) m (by omega), show i + 1 + k = i + (k + 1) by omega]
theorem m_a3 {N : Nat} (hN : N ≤ 16) (x16 : Int32) (f2 f4 f5 : Nat → Int32) (l1 l2 l3 x0 x15 x22 x23 x28 : Int32) (F R wd : Nat → Int32) :
    ∀ k i m, i + k ≤ N → F_Model_apply x16 f2 f4 f5 (m + k) 3 l1 l2 l3 (nI i) x0 x15 x22 x23 (nI N) x28 F R (fl wd F 0 i) = F_Model_apply x16 f2 f4 f5 m 3 l1 l2 l3 (nI (i + k)) x0 x15 x22 x23 (nI N) x28 F R (fl wd F 0 (i + k)) := by
  intro k
  induction k with
  | zero => intro i m h; rfl
  | succ k ih =>
    intro i m h
    show B_Model_apply_3 (F_Model_apply x16 f2 f4 f5 (m + k)) x16 f2 f4 f5 l1 l2 l3 (nI i) x0 x15 x22 x23 (nI N) x28 F R _ = _
    have hu := fl_up wd F 0 i
    rw [Nat.zero_add] at hu
    simp (disch := omega) only [B_Model_apply_3, hu, i_lit, nI_ltI, nI_leI, nI_eq, nI_add, pk_mul, pk_sub, nI_clamp, if_pos, if_neg, if_true, if_false, Option.bind_some, true_or, or_true, false_or, or_false, or_self, not_true_eq_false, not_false_eq_true, i_m1lt, i_m1le, i_nlt1, i_nle1, i_ne1, i_1ne]
    rw [ih (i + 1) m (by omega), show i + 1 + k = i + (k + 1) by omega]
theorem p_apply {f wr l : Nat} {len : Nat → Nat} {st : Nat → Nat → Nat} {a3 a4 a5 b16 b22 b23 p x0 x27 x28 la lb : Int32} {f24 f25 f26 g45 g46 L G M F0 R a b c d : Nat → Int32} {wd : Nat → Nat} (h : IF f wr l len st a3 a4 a5 f24 f25 f26 b16 b22 b23 g45 g46) (ht : IT l wd la L lb G) (hc : IC a b c d) :
    (S_Desk_apply p a3 a4 a5 la f25 f24 L M = some (4, 0, a3, a4, a5, la, L, M) ∧ S_Model_apply p x0 lb b16 b22 b23 x27 x28 F0 c R g45 d G = some (0, 1, lb, b22, b23, x27, x28, F0, R, G)) ∨
    (∃ x27' x28' F' R', S_Desk_apply p a3 a4 a5 la f25 f24 L M = some (2, 0, a3, a4, a5, la, L, M) ∧ S_Model_apply p x0 lb b16 b22 b23 x27 x28 F0 c R g45 d G = some (0, 2, lb, b22, b23, x27', x28', F', R', G)) ∨
    (∃ x27' x28' F' R' L' M' G' N wd', S_Desk_apply p a3 a4 a5 la f25 f24 L M = some (0, nI N, 0, 0, 0, nI N, L', M') ∧ S_Model_apply p x0 lb b16 b22 b23 x27 x28 F0 c R g45 d G = some (nI N, 0, nI N, 0, 0, x27', x28', F', R', G') ∧ IT N wd' (nI N) L' (nI N) G') := by
  obtain ⟨pc, tc, -, hcst⟩ := ic_fun hc
  obtain ⟨hl, rfl, rfl, hw⟩ := ht
  have hwL : ∀ j, j < l → wd j < 6 ∧ L j = nI (wd j) := fun j hj => ⟨(hw j hj).1, (hw j hj).2.1⟩
  have hwG : ∀ j, j < l → wd j < 6 ∧ G j = nI (wd j) := fun j hj => ⟨(hw j hj).1, (hw j hj).2.2⟩
  have hgr := fun {k : Nat} (hk : k < f) => d_growth h hk
  have hmd := fun {k : Nat} (hk : k < f) => d_mend (M0 := M) h hk hl hwL
  obtain ⟨hf, rfl, rfl, -, h5, hh⟩ := id h
  rcases s_has hf p with ⟨h1, h2⟩ | ⟨k, hk1, hk2, rfl, h2⟩ | ⟨k, hk, rfl, h2⟩
  · left; constructor
    · simp (disch := omega) only [S_Desk_apply, h2, i_lit, nI_ltI, nI_leI, nI_eq, nI_add, pk_mul, pk_sub, nI_clamp, if_pos, if_neg, if_true, if_false, Option.bind_some, true_or, or_true, false_or, or_false, or_self, not_true_eq_false, not_false_eq_true, i_m1lt, i_m1le, i_nlt1, i_nle1, i_ne1, i_1ne]
    · simp (disch := omega) only [S_Model_apply, h1, S_Model_fails, i_lit, nI_ltI, nI_leI, nI_eq, nI_add, pk_mul, pk_sub, nI_clamp, if_pos, if_neg, if_true, if_false, Option.bind_some, true_or, or_true, false_or, or_false, or_self, not_true_eq_false, not_false_eq_true, i_m1lt, i_m1le, i_nlt1, i_nle1, i_ne1, i_1ne]
  · left; constructor
    · simp (disch := omega) only [S_Desk_apply, h2, i_lit, nI_ltI, nI_leI, nI_eq, nI_add, pk_mul, pk_sub, nI_clamp, if_pos, if_neg, if_true, if_false, Option.bind_some, true_or, or_true, false_or, or_false, or_self, not_true_eq_false, not_false_eq_true, i_m1lt, i_m1le, i_nlt1, i_nle1, i_ne1, i_1ne]
    · simp (disch := omega) only [S_Model_apply, S_Model_fails, i_lit, nI_ltI, nI_leI, nI_eq, nI_add, pk_mul, pk_sub, nI_clamp, if_pos, if_neg, if_true, if_false, Option.bind_some, true_or, or_true, false_or, or_false, or_self, not_true_eq_false, not_false_eq_true, i_m1lt, i_m1le, i_nlt1, i_nle1, i_ne1, i_1ne]
  · right
    obtain ⟨c1, c2, c3, c4, c5, c6⟩ := hh k hk
    obtain ⟨h5, h6, hwr⟩ := h5 (by omega)
    have hct := ctk_le c6 hwr (len k) (Nat.le_refl _)
    have b1 := cpt_le (st k) (len k)
    have hgr := hgr hk
    -- the reference comes to its head 1, and follows
    obtain ⟨F, hF, hfo⟩ := m_follows (f2 := c) (f3 := fl R (fun j => nI (st k j)) 0 (len k)) (f4 := d) (f5 := G) (n := len k) (pc := pc) (tc := tc) hl hwG hcst (by omega) hwr x27 x28 F0 (fun j hj => fl_in (by omega) (by omega)) c6
    have bs := csm_le (pc := pc) (tc := tc) (n := len k) (fun j hj => ⟨(hcst j hj).1.2.1, (hcst j hj).2.2.1⟩) (fun j hj => (hw j hj).1) c6.1 (len k) (Nat.le_refl _)
    have hM1 : ∀ m, m + 1 + len k = fuel_ → S_Model_apply (nI k) x0 (nI l) b16 (nI f) b23 x27 x28 F0 c R g45 d G = F_Model_apply (nI wr) c g45 d m 1 (nI k) (nI (len k)) (nI 0) (nI 0) (nI 0) (nI l) (nI f) b23 x27 x28 F0 (fl R (fun j => nI (st k j)) 0 (len k)) G := by
      intro m hm
      have e0 := m_a0 (l1 := k) (st := st k) (g45 := g45) (by omega) c1 (fun i hi => ⟨(c4 i hi).1, (c4 i hi).2.2⟩) (nI wr) c d (nI 0) (nI l) (nI f) b23 x27 x28 F0 R G (len k) 0 (m + 1) (by omega)
      rw [fl_0, Nat.zero_add] at e0
      have hneg : -nI 1 < nI 0 := i_m1neg
      have e1 : F_Model_apply (nI wr) c g45 d (m + 1) 0 (nI k) (nI (len k)) (nI 0) (nI 0) (nI 0) (nI l) (nI f) b23 x27 x28 F0 (fl R (fun j => nI (st k j)) 0 (len k)) G = F_Model_apply (nI wr) c g45 d m 1 (nI k) (nI (len k)) (nI 0) (nI 0) (nI 0) (nI l) (nI f) b23 x27 x28 F0 (fl R (fun j => nI (st k j)) 0 (len k)) G := by
        show B_Model_apply_0 (F_Model_apply (nI wr) c g45 d m) (nI wr) c g45 d (nI k) (nI (len k)) (nI 0) (nI 0) (nI 0) (nI l) (nI f) b23 x27 x28 F0 _ G = _
        simp (disch := omega) only [B_Model_apply_0, c5 (len k) (Nat.le_refl _) (by omega), hneg, i_lit, nI_ltI, nI_leI, nI_eq, nI_add, pk_mul, pk_sub, nI_clamp, if_pos, if_neg, if_true, if_false, Option.bind_some, true_or, or_true, false_or, or_false, or_self, not_true_eq_false, not_false_eq_true, i_m1lt, i_m1le, i_nlt1, i_nle1, i_ne1, i_1ne]
      have hS : F_Model_apply (nI wr) c g45 d fuel_ 0 (nI k) (nI 0) (nI 0) (nI 0) (nI 0) (nI l) (nI f) b23 x27 x28 F0 R G = F_Model_apply (nI wr) c g45 d m 1 (nI k) (nI (len k)) (nI 0) (nI 0) (nI 0) (nI l) (nI f) b23 x27 x28 F0 (fl R (fun j => nI (st k j)) 0 (len k)) G := by
        rw [← hm, e0, e1]
      simp (disch := omega) only [S_Model_apply, h6, hS, i_lit, nI_ltI, nI_leI, nI_eq, nI_add, pk_mul, pk_sub, nI_clamp, if_pos, if_neg, if_true, if_false, Option.bind_some, true_or, or_true, false_or, or_false, or_self, not_true_eq_false, not_false_eq_true, i_m1lt, i_m1le, i_nlt1, i_nle1, i_ne1, i_1ne]
    by_cases h16 : wr + cpt (st k) (len k) + (l - (wr + ctk (st k) (len k))) ≤ 16
    · right
      obtain ⟨L', M', hL', hmend⟩ := hmd hk h16
      have e16 : l + cpt (st k) (len k) - ctk (st k) (len k) = wr + cpt (st k) (len k) + (l - (wr + ctk (st k) (len k))) := by omega
      have e17 : wr + cpt (st k) (len k) + l - (wr + ctk (st k) (len k)) = wr + cpt (st k) (len k) + (l - (wr + ctk (st k) (len k))) := by omega
      generalize hN : wr + cpt (st k) (len k) + (l - (wr + ctk (st k) (len k))) = N at h16 hL' hmend e16 e17
      generalize hF2 : fl F (fun j => G (wr + ctk (st k) (len k) + (j - (wr + cpt (st k) (len k))))) (wr + cpt (st k) (len k)) (l - (wr + ctk (st k) (len k))) = F2
      have hr2 : rep F2 (fw wd wr (st k) (len k)) N := by
        intro j hj
        rw [← hF2]
        simp only [fw]
        by_cases ej : j < wr + cpt (st k) (len k)
        · rw [fl_out (Or.inl ej), if_pos ej]; exact hF j ej
        · rw [fl_in (by omega) (by omega), if_neg ej, (hwG _ (by omega)).2, Nat.add_comm]
      refine ⟨nI N, nI (wr + ctk (st k) (len k)), F2, fl R (fun j => nI (st k j)) 0 (len k), L', M', fl G F2 0 N, N, fw wd wr (st k) (len k), ?_, ?_, by omega, rfl, rfl, fun j hj => ⟨?_, hL' j hj, by rw [fl_in (by omega) (by omega)]; exact hr2 j hj⟩⟩
      · simp (disch := omega) only [S_Desk_apply, h2, S_Text_size, hgr, i_gr4, e16, hmend, S_Finds_forget, i_lit, nI_ltI, nI_leI, nI_eq, nI_add, pk_mul, pk_sub, nI_clamp, if_pos, if_neg, if_true, if_false, Option.bind_some, true_or, or_true, false_or, or_false, or_self, not_true_eq_false, not_false_eq_true, i_m1lt, i_m1le, i_nlt1, i_nle1, i_ne1, i_1ne]
      · obtain ⟨m, hm⟩ := fuelled (k := 1 + N + 1 + (l - (wr + ctk (st k) (len k))) + 1 + 1 + len k) (by omega)
        rw [hM1 (m + 1 + N + 1 + (l - (wr + ctk (st k) (len k))) + 1) (by omega)]
        have a1 : F_Model_apply (nI wr) c g45 d (m + 1 + N + 1 + (l - (wr + ctk (st k) (len k))) + 1) 1 (nI k) (nI (len k)) (nI 0) (nI 0) (nI 0) (nI l) (nI f) b23 x27 x28 F0 (fl R (fun j => nI (st k j)) 0 (len k)) G = F_Model_apply (nI wr) c g45 d (m + 1 + N + 1 + (l - (wr + ctk (st k) (len k)))) 2 (nI k) (nI (len k)) (nI (csm pc tc wd wr (st k) (len k))) (nI (wr + ctk (st k) (len k))) (nI 0) (nI l) (nI f) b23 (nI (wr + cpt (st k) (len k))) (nI (wr + ctk (st k) (len k))) F (fl R (fun j => nI (st k j)) 0 (len k)) G := by
          show B_Model_apply_1 (F_Model_apply (nI wr) c g45 d (m + 1 + N + 1 + (l - (wr + ctk (st k) (len k))))) (nI wr) c g45 d (nI k) (nI (len k)) (nI 0) (nI 0) (nI 0) (nI l) (nI f) b23 x27 x28 F0 _ G = _
          simp (disch := omega) only [B_Model_apply_1, hfo, i_lit, nI_ltI, nI_leI, nI_eq, nI_add, pk_mul, pk_sub, nI_clamp, if_pos, if_neg, if_true, if_false, Option.bind_some, true_or, or_true, false_or, or_false, or_self, not_true_eq_false, not_false_eq_true, i_m1lt, i_m1le, i_nlt1, i_nle1, i_ne1, i_1ne]
        have a2 := m_a2 (l := l) (a := wr + cpt (st k) (len k)) (b := wr + ctk (st k) (len k)) hl (by omega) hct (nI wr) c g45 d (nI k) (nI (len k)) (nI (csm pc tc wd wr (st k) (len k))) (nI 0) (nI f) b23 (nI (wr + ctk (st k) (len k))) F (fl R (fun j => nI (st k j)) 0 (len k)) G (l - (wr + ctk (st k) (len k))) 0 (m + 1 + N + 1) (by omega)
        simp only [fl_0, Nat.add_zero, Nat.zero_add] at a2
        rw [hF2, hN, show wr + ctk (st k) (len k) + (l - (wr + ctk (st k) (len k))) = l by omega] at a2
        have a3 : F_Model_apply (nI wr) c g45 d (m + 1 + N + 1) 2 (nI k) (nI (len k)) (nI (csm pc tc wd wr (st k) (len k))) (nI l) (nI 0) (nI l) (nI f) b23 (nI N) (nI (wr + ctk (st k) (len k))) F2 (fl R (fun j => nI (st k j)) 0 (len k)) G = F_Model_apply (nI wr) c g45 d (m + 1 + N) 3 (nI k) (nI (len k)) (nI (csm pc tc wd wr (st k) (len k))) (nI 0) (nI 0) (nI N) (nI f) b23 (nI N) (nI (wr + ctk (st k) (len k))) F2 (fl R (fun j => nI (st k j)) 0 (len k)) G := by
          show B_Model_apply_2 (F_Model_apply (nI wr) c g45 d (m + 1 + N)) (nI wr) c g45 d (nI k) (nI (len k)) _ (nI l) (nI 0) (nI l) (nI f) b23 (nI N) _ F2 _ G = _
          simp (disch := omega) only [B_Model_apply_2, i_lit, nI_ltI, nI_leI, nI_eq, nI_add, pk_mul, pk_sub, nI_clamp, if_pos, if_neg, if_true, if_false, Option.bind_some, true_or, or_true, false_or, or_false, or_self, not_true_eq_false, not_false_eq_true, i_m1lt, i_m1le, i_nlt1, i_nle1, i_ne1, i_1ne]
        have a4 := m_a3 (N := N) h16 (nI wr) c g45 d (nI k) (nI (len k)) (nI (csm pc tc wd wr (st k) (len k))) (nI 0) (nI N) (nI f) b23 (nI (wr + ctk (st k) (len k))) F2 (fl R (fun j => nI (st k j)) 0 (len k)) G N 0 (m + 1) (by omega)
        rw [fl_0, Nat.zero_add] at a4
        rw [a1, a2, a3, a4]
        show B_Model_apply_3 (F_Model_apply (nI wr) c g45 d m) (nI wr) c g45 d (nI k) (nI (len k)) (nI (csm pc tc wd wr (st k) (len k))) (nI N) (nI 0) (nI N) (nI f) b23 (nI N) _ F2 _ _ = _
        simp (disch := omega) only [B_Model_apply_3, S_Model_forget, i_lit, nI_ltI, nI_leI, nI_eq, nI_add, pk_mul, pk_sub, nI_clamp, if_pos, if_neg, if_true, if_false, Option.bind_some, true_or, or_true, false_or, or_false, or_self, not_true_eq_false, not_false_eq_true, i_m1lt, i_m1le, i_nlt1, i_nle1, i_ne1, i_1ne]
      · rw [← hN] at hj; exact fw_lt (fun j hj => (hw j hj).1) hwr c6 hj
    · left
      refine ⟨nI (wr + cpt (st k) (len k)), nI (wr + ctk (st k) (len k)), F, fl R (fun j => nI (st k j)) 0 (len k), ?_, ?_⟩
      · simp (disch := omega) only [S_Desk_apply, h2, S_Text_size, hgr, i_gr4, i_lit, nI_ltI, nI_leI, nI_eq, nI_add, pk_mul, pk_sub, nI_clamp, if_pos, if_neg, if_true, if_false, Option.bind_some, true_or, or_true, false_or, or_false, or_self, not_true_eq_false, not_false_eq_true, i_m1lt, i_m1le, i_nlt1, i_nle1, i_ne1, i_1ne]
      · obtain ⟨m, hm⟩ := fuelled (k := 1 + 1 + len k) (by omega)
        rw [hM1 (m + 1) (by omega)]
        show B_Model_apply_1 (F_Model_apply (nI wr) c g45 d m) (nI wr) c g45 d (nI k) (nI (len k)) (nI 0) (nI 0) (nI 0) (nI l) (nI f) b23 x27 x28 F0 _ G = _
        simp (disch := omega) only [B_Model_apply_1, hfo, S_Model_fails, i_lit, nI_ltI, nI_leI, nI_eq, nI_add, pk_mul, pk_sub, nI_clamp, if_pos, if_neg, if_true, if_false, Option.bind_some, true_or, or_true, false_or, or_false, or_self, not_true_eq_false, not_false_eq_true, i_m1lt, i_m1le, i_nlt1, i_nle1, i_ne1, i_1ne]
