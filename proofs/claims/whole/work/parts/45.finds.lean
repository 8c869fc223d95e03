/-! the repairs found: rows of steps, step and reach -/
def ctk (st : Nat → Nat) : Nat → Nat
  | 0 => 0
  | i + 1 => ctk st i + (if 6 ≤ st i then 1 else 0)
def cpt (st : Nat → Nat) : Nat → Nat
  | 0 => 0
  | i + 1 => cpt st i + (if st i = 6 then 0 else 1)
def cps (st : Nat → Nat) : Nat → Nat
  | 0 => 0
  | i + 1 => cps st i + (if st i = 7 then 1 else 0)
/-- the text as the first i steps leave it, up to where they are -/
def ow (wd : Nat → Nat) (wr : Nat) (st : Nat → Nat) : Nat → Nat → Nat
  | 0, j => wd j
  | i + 1, j => if st i ≠ 6 ∧ j = wr + cpt st i then (if st i < 6 then st i else wd (wr + ctk st i)) else ow wd wr st i j
def rok (l wr n : Nat) (st : Nat → Nat) : Prop := (∀ i, i < n → st i < 8 ∧ (6 ≤ st i → wr + ctk st i < l)) ∧ (∀ i, i + 1 < n → st i = 6 → 6 ≤ st (i + 1)) ∧ cps st n ≤ 3
theorem cpt_le (st : Nat → Nat) : ∀ n, cpt st n ≤ n
  | 0 => Nat.le_refl _
  | n + 1 => by have := cpt_le st n; simp only [cpt]; split <;> omega
theorem cpt_mono (st : Nat → Nat) {i j : Nat} (h : i ≤ j) : cpt st i ≤ cpt st j := by
  induction j with
  | zero => rw [show i = 0 by omega]; exact Nat.le_refl _
  | succ j ih =>
    by_cases e : i = j + 1
    · subst e; exact Nat.le_refl _
    · have := ih (by omega); simp only [cpt]; omega
theorem ctk_le {l wr n : Nat} {st : Nat → Nat} (h : rok l wr n st) (hw : wr ≤ l) : ∀ i, i ≤ n → wr + ctk st i ≤ l
  | 0, _ => hw
  | i + 1, hi => by
    have h1 := ctk_le h hw i (by omega)
    have h2 := (h.1 i (by omega)).2
    simp only [ctk]
    split
    · rename_i h6; have := h2 h6; omega
    · omega
def IF (f wr l : Nat) (len : Nat → Nat) (st : Nat → Nat → Nat) (a3 a4 a5 : Int32) (f24 f25 f26 : Nat → Int32) (b16 b22 b23 : Int32) (g45 g46 : Nat → Int32) : Prop :=
  f ≤ 40 ∧ a3 = nI f ∧ b22 = nI f ∧ b23 = a4 ∧ (0 < f → a5 = nI wr ∧ b16 = nI wr ∧ wr ≤ l) ∧
    ∀ k, k < f → len k ≤ 6 ∧ f25 k = nI (len k) ∧ f26 k = g46 k ∧ (∀ i, i < len k → st k i < 8 ∧ f24 (k * 6 + i) = nI (st k i) ∧ g45 (7 * k + i) = nI (st k i)) ∧ (∀ i, len k ≤ i → i < 7 → g45 (7 * k + i) = -nI 1) ∧ rok l wr (len k) (st k)
theorem if_0 {f24 f25 f26 g45 g46 : Nat → Int32} {b16 : Int32} {a5 : Int32} (l : Nat) : IF 0 0 l (fun _ => 0) (fun _ _ => 0) 0 0 a5 f24 f25 f26 b16 0 0 g45 g46 :=
  ⟨by omega, rfl, rfl, rfl, fun h => absurd h (by omega), fun k h => absurd h (by omega)⟩
theorem s_has {f : Nat} (hf : f ≤ 40) (p : Int32) : (p < nI 0 ∧ S_Finds_has p (nI f) = some (nI 0)) ∨ (∃ k, f ≤ k ∧ k < 2 ^ 31 ∧ p = nI k ∧ S_Finds_has p (nI f) = some (nI 0)) ∨ ∃ k, k < f ∧ p = nI k ∧ S_Finds_has p (nI f) = some (nI 1) := by
  rcases i_ix p (n := f) (by omega) with h1 | ⟨h1, j, hj, hj2, rfl⟩ | ⟨j, hj, rfl⟩
  · exact Or.inl ⟨h1, by simp (disch := omega) only [S_Finds_has, h1, i_lit, nI_ltI, nI_leI, nI_eq, nI_add, pk_mul, pk_sub, nI_clamp, if_pos, if_neg, if_true, if_false, Option.bind_some, true_or, or_true, false_or, or_false, or_self, not_true_eq_false, not_false_eq_true, i_m1lt, i_m1le, i_nlt1, i_nle1, i_ne1, i_1ne]⟩
  · exact Or.inr (Or.inl ⟨j, hj, hj2, rfl, by simp (disch := omega) only [S_Finds_has, i_lit, nI_ltI, nI_leI, nI_eq, nI_add, pk_mul, pk_sub, nI_clamp, if_pos, if_neg, if_true, if_false, Option.bind_some, true_or, or_true, false_or, or_false, or_self, not_true_eq_false, not_false_eq_true, i_m1lt, i_m1le, i_nlt1, i_nle1, i_ne1, i_1ne]⟩)
  · exact Or.inr (Or.inr ⟨j, hj, rfl, by simp (disch := omega) only [S_Finds_has, i_lit, nI_ltI, nI_leI, nI_eq, nI_add, pk_mul, pk_sub, nI_clamp, if_pos, if_neg, if_true, if_false, Option.bind_some, true_or, or_true, false_or, or_false, or_self, not_true_eq_false, not_false_eq_true, i_m1lt, i_m1le, i_nlt1, i_nle1, i_ne1, i_1ne]⟩)
theorem p_reach {f wr l : Nat} {len : Nat → Nat} {st : Nat → Nat → Nat} {a3 a4 a5 b16 b22 b23 p x0 : Int32} {f24 f25 f26 g45 g46 : Nat → Int32} (h : IF f wr l len st a3 a4 a5 f24 f25 f26 b16 b22 b23 g45 g46) :
    (S_Desk_reach p a3 f26 = some (4, 0) ∧ S_Model_reach p x0 b22 g46 = some (0, 1)) ∨ ∃ r, S_Desk_reach p a3 f26 = some (0, r) ∧ S_Model_reach p x0 b22 g46 = some (r, 0) := by
  obtain ⟨hf, rfl, rfl, -, -, hk⟩ := h
  rcases s_has hf p with ⟨h1, h2⟩ | ⟨k, hk1, hk2, rfl, h2⟩ | ⟨k, hk1, rfl, h2⟩
  · left; constructor
    · simp (disch := omega) only [S_Desk_reach, h2, i_lit, nI_ltI, nI_leI, nI_eq, nI_add, pk_mul, pk_sub, nI_clamp, if_pos, if_neg, if_true, if_false, Option.bind_some, true_or, or_true, false_or, or_false, or_self, not_true_eq_false, not_false_eq_true, i_m1lt, i_m1le, i_nlt1, i_nle1, i_ne1, i_1ne]
    · simp (disch := omega) only [S_Model_reach, h1, S_Model_fails, i_lit, nI_ltI, nI_leI, nI_eq, nI_add, pk_mul, pk_sub, nI_clamp, if_pos, if_neg, if_true, if_false, Option.bind_some, true_or, or_true, false_or, or_false, or_self, not_true_eq_false, not_false_eq_true, i_m1lt, i_m1le, i_nlt1, i_nle1, i_ne1, i_1ne]
  · left; constructor
    · simp (disch := omega) only [S_Desk_reach, h2, i_lit, nI_ltI, nI_leI, nI_eq, nI_add, pk_mul, pk_sub, nI_clamp, if_pos, if_neg, if_true, if_false, Option.bind_some, true_or, or_true, false_or, or_false, or_self, not_true_eq_false, not_false_eq_true, i_m1lt, i_m1le, i_nlt1, i_nle1, i_ne1, i_1ne]
    · simp (disch := omega) only [S_Model_reach, S_Model_fails, i_lit, nI_ltI, nI_leI, nI_eq, nI_add, pk_mul, pk_sub, nI_clamp, if_pos, if_neg, if_true, if_false, Option.bind_some, true_or, or_true, false_or, or_false, or_self, not_true_eq_false, not_false_eq_true, i_m1lt, i_m1le, i_nlt1, i_nle1, i_ne1, i_1ne]
  · right
    refine ⟨f26 k, ?_, ?_⟩
    · simp (disch := omega) only [S_Desk_reach, h2, S_Finds_reachOf, i_lit, nI_ltI, nI_leI, nI_eq, nI_add, pk_mul, pk_sub, nI_clamp, if_pos, if_neg, if_true, if_false, Option.bind_some, true_or, or_true, false_or, or_false, or_self, not_true_eq_false, not_false_eq_true, i_m1lt, i_m1le, i_nlt1, i_nle1, i_ne1, i_1ne]
    · simp (disch := omega) only [S_Model_reach, (hk k hk1).2.2.1, i_lit, nI_ltI, nI_leI, nI_eq, nI_add, pk_mul, pk_sub, nI_clamp, if_pos, if_neg, if_true, if_false, Option.bind_some, true_or, or_true, false_or, or_false, or_self, not_true_eq_false, not_false_eq_true, i_m1lt, i_m1le, i_nlt1, i_nle1, i_ne1, i_1ne]
theorem p_step {f wr l : Nat} {len : Nat → Nat} {st : Nat → Nat → Nat} {a3 a4 a5 b16 b22 b23 p q x0 : Int32} {f24 f25 f26 g45 g46 : Nat → Int32} (h : IF f wr l len st a3 a4 a5 f24 f25 f26 b16 b22 b23 g45 g46) :
    ∃ r, S_Desk_step p q a3 f25 f24 = some r ∧ S_Model_step p q x0 b22 g45 = some (r, 0) := by
  obtain ⟨hf, rfl, rfl, -, -, hk⟩ := h
  rcases i_ix q (n := 7) (by omega) with hq | ⟨-, i, hi, hi2, rfl⟩ | ⟨i, hi, rfl⟩
  · refine ⟨-nI 1, ?_, ?_⟩
    · simp (disch := omega) only [S_Desk_step, S_Finds_stepAt, hq, i_lit, nI_ltI, nI_leI, nI_eq, nI_add, pk_mul, pk_sub, nI_clamp, if_pos, if_neg, if_true, if_false, Option.bind_some, true_or, or_true, false_or, or_false, or_self, not_true_eq_false, not_false_eq_true, i_m1lt, i_m1le, i_nlt1, i_nle1, i_ne1, i_1ne]
    · rcases i_ix p (n := f) (by omega) with h1 | ⟨h1, j, hj, hj2, rfl⟩ | ⟨j, hj, rfl⟩
      · simp (disch := omega) only [S_Model_step, h1, i_lit, nI_ltI, nI_leI, nI_eq, nI_add, pk_mul, pk_sub, nI_clamp, if_pos, if_neg, if_true, if_false, Option.bind_some, true_or, or_true, false_or, or_false, or_self, not_true_eq_false, not_false_eq_true, i_m1lt, i_m1le, i_nlt1, i_nle1, i_ne1, i_1ne]
      · simp (disch := omega) only [S_Model_step, i_lit, nI_ltI, nI_leI, nI_eq, nI_add, pk_mul, pk_sub, nI_clamp, if_pos, if_neg, if_true, if_false, Option.bind_some, true_or, or_true, false_or, or_false, or_self, not_true_eq_false, not_false_eq_true, i_m1lt, i_m1le, i_nlt1, i_nle1, i_ne1, i_1ne]
      · simp (disch := omega) only [S_Model_step, hq, i_lit, nI_ltI, nI_leI, nI_eq, nI_add, pk_mul, pk_sub, nI_clamp, if_pos, if_neg, if_true, if_false, Option.bind_some, true_or, or_true, false_or, or_false, or_self, not_true_eq_false, not_false_eq_true, i_m1lt, i_m1le, i_nlt1, i_nle1, i_ne1, i_1ne]
  · refine ⟨-nI 1, ?_, ?_⟩
    · rcases s_has hf p with ⟨h1, h2⟩ | ⟨k, hk1, hk2, rfl, h2⟩ | ⟨k, hk1, rfl, h2⟩
      · simp (disch := omega) only [S_Desk_step, S_Finds_stepAt, S_Finds_lengthOf, h2, i_lit, nI_ltI, nI_leI, nI_eq, nI_add, pk_mul, pk_sub, nI_clamp, if_pos, if_neg, if_true, if_false, Option.bind_some, true_or, or_true, false_or, or_false, or_self, not_true_eq_false, not_false_eq_true, i_m1lt, i_m1le, i_nlt1, i_nle1, i_ne1, i_1ne]
      · simp (disch := omega) only [S_Desk_step, S_Finds_stepAt, S_Finds_lengthOf, h2, i_lit, nI_ltI, nI_leI, nI_eq, nI_add, pk_mul, pk_sub, nI_clamp, if_pos, if_neg, if_true, if_false, Option.bind_some, true_or, or_true, false_or, or_false, or_self, not_true_eq_false, not_false_eq_true, i_m1lt, i_m1le, i_nlt1, i_nle1, i_ne1, i_1ne]
      · have := (hk k hk1).1
        simp (disch := omega) only [S_Desk_step, S_Finds_stepAt, S_Finds_lengthOf, h2, (hk k hk1).2.1, i_lit, nI_ltI, nI_leI, nI_eq, nI_add, pk_mul, pk_sub, nI_clamp, if_pos, if_neg, if_true, if_false, Option.bind_some, true_or, or_true, false_or, or_false, or_self, not_true_eq_false, not_false_eq_true, i_m1lt, i_m1le, i_nlt1, i_nle1, i_ne1, i_1ne]
    · rcases i_ix p (n := f) (by omega) with h1 | ⟨h1, j, hj, hj2, rfl⟩ | ⟨j, hj, rfl⟩
      · simp (disch := omega) only [S_Model_step, h1, i_lit, nI_ltI, nI_leI, nI_eq, nI_add, pk_mul, pk_sub, nI_clamp, if_pos, if_neg, if_true, if_false, Option.bind_some, true_or, or_true, false_or, or_false, or_self, not_true_eq_false, not_false_eq_true, i_m1lt, i_m1le, i_nlt1, i_nle1, i_ne1, i_1ne]
      · simp (disch := omega) only [S_Model_step, i_lit, nI_ltI, nI_leI, nI_eq, nI_add, pk_mul, pk_sub, nI_clamp, if_pos, if_neg, if_true, if_false, Option.bind_some, true_or, or_true, false_or, or_false, or_self, not_true_eq_false, not_false_eq_true, i_m1lt, i_m1le, i_nlt1, i_nle1, i_ne1, i_1ne]
      · simp (disch := omega) only [S_Model_step, i_lit, nI_ltI, nI_leI, nI_eq, nI_add, pk_mul, pk_sub, nI_clamp, if_pos, if_neg, if_true, if_false, Option.bind_some, true_or, or_true, false_or, or_false, or_self, not_true_eq_false, not_false_eq_true, i_m1lt, i_m1le, i_nlt1, i_nle1, i_ne1, i_1ne]
  · rcases s_has hf p with ⟨h1, h2⟩ | ⟨k, hk1, hk2, rfl, h2⟩ | ⟨k, hk1, rfl, h2⟩
    · refine ⟨-nI 1, ?_, ?_⟩
      · simp (disch := omega) only [S_Desk_step, S_Finds_stepAt, S_Finds_lengthOf, h2, i_lit, nI_ltI, nI_leI, nI_eq, nI_add, pk_mul, pk_sub, nI_clamp, if_pos, if_neg, if_true, if_false, Option.bind_some, true_or, or_true, false_or, or_false, or_self, not_true_eq_false, not_false_eq_true, i_m1lt, i_m1le, i_nlt1, i_nle1, i_ne1, i_1ne]
      · simp (disch := omega) only [S_Model_step, h1, i_lit, nI_ltI, nI_leI, nI_eq, nI_add, pk_mul, pk_sub, nI_clamp, if_pos, if_neg, if_true, if_false, Option.bind_some, true_or, or_true, false_or, or_false, or_self, not_true_eq_false, not_false_eq_true, i_m1lt, i_m1le, i_nlt1, i_nle1, i_ne1, i_1ne]
    · refine ⟨-nI 1, ?_, ?_⟩
      · simp (disch := omega) only [S_Desk_step, S_Finds_stepAt, S_Finds_lengthOf, h2, i_lit, nI_ltI, nI_leI, nI_eq, nI_add, pk_mul, pk_sub, nI_clamp, if_pos, if_neg, if_true, if_false, Option.bind_some, true_or, or_true, false_or, or_false, or_self, not_true_eq_false, not_false_eq_true, i_m1lt, i_m1le, i_nlt1, i_nle1, i_ne1, i_1ne]
      · simp (disch := omega) only [S_Model_step, i_lit, nI_ltI, nI_leI, nI_eq, nI_add, pk_mul, pk_sub, nI_clamp, if_pos, if_neg, if_true, if_false, Option.bind_some, true_or, or_true, false_or, or_false, or_self, not_true_eq_false, not_false_eq_true, i_m1lt, i_m1le, i_nlt1, i_nle1, i_ne1, i_1ne]
    · obtain ⟨c1, c2, c3, c4, c5, c6⟩ := hk k hk1
      by_cases hl : len k ≤ i
      · refine ⟨-nI 1, ?_, ?_⟩
        · simp (disch := omega) only [S_Desk_step, S_Finds_stepAt, S_Finds_lengthOf, h2, c2, i_lit, nI_ltI, nI_leI, nI_eq, nI_add, pk_mul, pk_sub, nI_clamp, if_pos, if_neg, if_true, if_false, Option.bind_some, true_or, or_true, false_or, or_false, or_self, not_true_eq_false, not_false_eq_true, i_m1lt, i_m1le, i_nlt1, i_nle1, i_ne1, i_1ne]
        · simp (disch := omega) only [S_Model_step, c5 i hl hi, i_lit, nI_ltI, nI_leI, nI_eq, nI_add, pk_mul, pk_sub, nI_clamp, if_pos, if_neg, if_true, if_false, Option.bind_some, true_or, or_true, false_or, or_false, or_self, not_true_eq_false, not_false_eq_true, i_m1lt, i_m1le, i_nlt1, i_nle1, i_ne1, i_1ne]
      · have := c4 i (by omega)
        refine ⟨nI (st k i), ?_, ?_⟩
        · simp (disch := omega) only [S_Desk_step, S_Finds_stepAt, S_Finds_lengthOf, h2, c2, this.2.1, i_lit, nI_ltI, nI_leI, nI_eq, nI_add, pk_mul, pk_sub, nI_clamp, if_pos, if_neg, if_true, if_false, Option.bind_some, true_or, or_true, false_or, or_false, or_self, not_true_eq_false, not_false_eq_true, i_m1lt, i_m1le, i_nlt1, i_nle1, i_ne1, i_1ne]
        · simp (disch := omega) only [S_Model_step, this.2.2, i_lit, nI_ltI, nI_leI, nI_eq, nI_add, pk_mul, pk_sub, nI_clamp, if_pos, if_neg, if_true, if_false, Option.bind_some, true_or, or_true, false_or, or_false, or_self, not_true_eq_false, not_false_eq_true, i_m1lt, i_m1le, i_nlt1, i_nle1, i_ne1, i_1ne]
theorem s_stepAt {f wr l : Nat} {len : Nat → Nat} {st : Nat → Nat → Nat} {a3 a4 a5 b16 b22 b23 : Int32} {f24 f25 f26 g45 g46 : Nat → Int32} (h : IF f wr l len st a3 a4 a5 f24 f25 f26 b16 b22 b23 g45 g46) {k i : Nat} (hk : k < f) (hi : i < len k) : S_Finds_stepAt (nI k) (nI i) a3 f25 f24 = some (nI (st k i)) := by
  obtain ⟨hf, rfl, rfl, -, -, hh⟩ := h
  obtain ⟨c1, c2, c3, c4, c5, c6⟩ := hh k hk
  have := c4 i hi
  simp (disch := omega) only [S_Finds_stepAt, S_Finds_lengthOf, S_Finds_has, c2, this.2.1, i_lit, nI_ltI, nI_leI, nI_eq, nI_add, pk_mul, pk_sub, nI_clamp, if_pos, if_neg, if_true, if_false, Option.bind_some, true_or, or_true, false_or, or_false, or_self, not_true_eq_false, not_false_eq_true, i_m1lt, i_m1le, i_nlt1, i_nle1, i_ne1, i_1ne]
theorem s_lengthOf {f wr l : Nat} {len : Nat → Nat} {st : Nat → Nat → Nat} {a3 a4 a5 b16 b22 b23 : Int32} {f24 f25 f26 g45 g46 : Nat → Int32} (h : IF f wr l len st a3 a4 a5 f24 f25 f26 b16 b22 b23 g45 g46) {k : Nat} (hk : k < f) : S_Finds_lengthOf (nI k) a3 f25 = some (nI (len k)) := by
  obtain ⟨hf, rfl, rfl, -, -, hh⟩ := h
  obtain ⟨c1, c2, c3, c4, c5, c6⟩ := hh k hk
  simp (disch := omega) only [S_Finds_lengthOf, S_Finds_has, c2, i_lit, nI_ltI, nI_leI, nI_eq, nI_add, pk_mul, pk_sub, nI_clamp, if_pos, if_neg, if_true, if_false, Option.bind_some, true_or, or_true, false_or, or_false, or_self, not_true_eq_false, not_false_eq_true, i_m1lt, i_m1le, i_nlt1, i_nle1, i_ne1, i_1ne]
