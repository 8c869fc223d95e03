/-! what holds between the class and the reference between two calls; the small calls -/
def IL (w : Nat) (a : Int32) (f : Nat → Int32) (b : Int32) (g : Nat → Int32) : Prop :=
  w ≤ 10 ∧ a = nI w ∧ b = nI w ∧ ∀ j : Nat, j < w → f j = g j ∧ ∃ c : Nat, 32 ≤ c ∧ c < 127 ∧ f j = nI c
def IC (a f b g : Nat → Int32) : Prop := ∀ j : Nat, j < 6 → (∃ c : Nat, 1 ≤ c ∧ c ≤ 3 ∧ a j = nI c ∧ b j = nI c) ∧ ∃ c : Nat, 1 ≤ c ∧ c ≤ 3 ∧ f j = nI c ∧ g j = nI c
def IT (l : Nat) (w : Nat → Nat) (a : Int32) (f : Nat → Int32) (b : Int32) (g : Nat → Int32) : Prop :=
  l ≤ 16 ∧ a = nI l ∧ b = nI l ∧ ∀ j : Nat, j < l → w j < 6 ∧ f j = nI (w j) ∧ g j = nI (w j)
theorem il_0 : IL 0 0 (fun _ => 0) 0 (fun _ => 0) := ⟨by omega, rfl, rfl, fun j h => absurd h (by omega)⟩
theorem it_0 : IT 0 (fun _ => 0) 0 (fun _ => 0) 0 (fun _ => 0) := ⟨by omega, rfl, rfl, fun j h => absurd h (by omega)⟩
theorem p_write {w : Nat} {a b p x0 : Int32} {f g : Nat → Int32} (h : IL w a f b g) (hp : ∃ c : Nat, c < 65536 ∧ p = nI c) :
    ∃ (r : Int32) (a' : Int32) (f' : Nat → Int32) (b' : Int32) (g' : Nat → Int32) (w' : Nat), S_Desk_write p a f = some (r, a', f') ∧ S_Model_write p x0 b g = some (r, 0, b', g') ∧ IL w' a' f' b' g' := by
  obtain ⟨hw, rfl, rfl, hj⟩ := h
  obtain ⟨c, hc, rfl⟩ := hp
  by_cases h1 : c < 32
  · refine ⟨0, _, _, _, _, w, ?_, ?_, hw, rfl, rfl, hj⟩
    · simp (disch := omega) only [S_Desk_write, S_Line_add, i_lit, nI_ltI, nI_leI, nI_eq, nI_add, pk_mul, pk_sub, nI_clamp, if_pos, if_neg, if_true, if_false, Option.bind_some, true_or, or_true, false_or, or_false, or_self, not_true_eq_false, not_false_eq_true, i_m1lt, i_m1le, i_nlt1, i_nle1, i_ne1, i_1ne]
    · simp (disch := omega) only [S_Model_write, i_lit, nI_ltI, nI_leI, nI_eq, nI_add, pk_mul, pk_sub, nI_clamp, if_pos, if_neg, if_true, if_false, Option.bind_some, true_or, or_true, false_or, or_false, or_self, not_true_eq_false, not_false_eq_true, i_m1lt, i_m1le, i_nlt1, i_nle1, i_ne1, i_1ne]
  · by_cases h2 : 126 < c
    · refine ⟨0, _, _, _, _, w, ?_, ?_, hw, rfl, rfl, hj⟩
      · simp (disch := omega) only [S_Desk_write, S_Line_add, i_lit, nI_ltI, nI_leI, nI_eq, nI_add, pk_mul, pk_sub, nI_clamp, if_pos, if_neg, if_true, if_false, Option.bind_some, true_or, or_true, false_or, or_false, or_self, not_true_eq_false, not_false_eq_true, i_m1lt, i_m1le, i_nlt1, i_nle1, i_ne1, i_1ne]
      · simp (disch := omega) only [S_Model_write, i_lit, nI_ltI, nI_leI, nI_eq, nI_add, pk_mul, pk_sub, nI_clamp, if_pos, if_neg, if_true, if_false, Option.bind_some, true_or, or_true, false_or, or_false, or_self, not_true_eq_false, not_false_eq_true, i_m1lt, i_m1le, i_nlt1, i_nle1, i_ne1, i_1ne]
    · by_cases h3 : w < 10
      · have hch := i_char hc
        refine ⟨1, nI (w + 1), upd f w (nI c), nI (w + 1), upd g w (nI c), w + 1, ?_, ?_, by omega, rfl, rfl, ?_⟩
        · simp (disch := omega) only [S_Desk_write, S_Line_add, hch, i_lit, nI_ltI, nI_leI, nI_eq, nI_add, pk_mul, pk_sub, nI_clamp, if_pos, if_neg, if_true, if_false, Option.bind_some, true_or, or_true, false_or, or_false, or_self, not_true_eq_false, not_false_eq_true, i_m1lt, i_m1le, i_nlt1, i_nle1, i_ne1, i_1ne]
        · simp (disch := omega) only [S_Model_write, hch, i_lit, nI_ltI, nI_leI, nI_eq, nI_add, pk_mul, pk_sub, nI_clamp, if_pos, if_neg, if_true, if_false, Option.bind_some, true_or, or_true, false_or, or_false, or_self, not_true_eq_false, not_false_eq_true, i_m1lt, i_m1le, i_nlt1, i_nle1, i_ne1, i_1ne]
        · intro j hj'
          by_cases e : j = w
          · subst e; exact ⟨by rw [pk_us, pk_us], c, by omega, by omega, pk_us⟩
          · rw [pk_un e, pk_un e]; exact hj j (by omega)
      · refine ⟨0, _, _, _, _, w, ?_, ?_, hw, rfl, rfl, hj⟩
        · simp (disch := omega) only [S_Desk_write, S_Line_add, i_lit, nI_ltI, nI_leI, nI_eq, nI_add, pk_mul, pk_sub, nI_clamp, if_pos, if_neg, if_true, if_false, Option.bind_some, true_or, or_true, false_or, or_false, or_self, not_true_eq_false, not_false_eq_true, i_m1lt, i_m1le, i_nlt1, i_nle1, i_ne1, i_1ne]
        · simp (disch := omega) only [S_Model_write, i_lit, nI_ltI, nI_leI, nI_eq, nI_add, pk_mul, pk_sub, nI_clamp, if_pos, if_neg, if_true, if_false, Option.bind_some, true_or, or_true, false_or, or_false, or_self, not_true_eq_false, not_false_eq_true, i_m1lt, i_m1le, i_nlt1, i_nle1, i_ne1, i_1ne]
theorem ic_up {a f b g : Nat → Int32} {j c : Nat} (h : IC a f b g) (hc : 1 ≤ c ∧ c ≤ 3) : IC (upd a j (nI c)) f (upd b j (nI c)) g ∧ IC a (upd f j (nI c)) b (upd g j (nI c)) := by
  constructor
  · intro i hi
    refine ⟨?_, (h i hi).2⟩
    by_cases e : i = j
    · subst e; exact ⟨c, hc.1, hc.2, pk_us, pk_us⟩
    · rw [pk_un e, pk_un e]; exact (h i hi).1
  · intro i hi
    refine ⟨(h i hi).1, ?_⟩
    by_cases e : i = j
    · subst e; exact ⟨c, hc.1, hc.2, pk_us, pk_us⟩
    · rw [pk_un e, pk_un e]; exact (h i hi).2
theorem p_cost {a f b g : Nat → Int32} {p1 p2 p3 x0 : Int32} (h : IC a f b g) :
    ∃ (r : Int32) (a' f' b' g' : Nat → Int32), S_Desk_cost p1 p2 p3 a f = some (r, a', f') ∧ S_Model_cost p1 p2 p3 x0 b g = some (r, 0, b', g') ∧ IC a' f' b' g' := by
  rcases i_ix p1 (n := 6) (by omega) with h1 | ⟨h1, j, hj, hj2, rfl⟩ | ⟨j, hj, rfl⟩
  · refine ⟨0, a, f, b, g, ?_, ?_, h⟩
    · simp (disch := omega) only [S_Desk_cost, S_Costs_change, h1, i_lit, nI_ltI, nI_leI, nI_eq, nI_add, pk_mul, pk_sub, nI_clamp, if_pos, if_neg, if_true, if_false, Option.bind_some, true_or, or_true, false_or, or_false, or_self, not_true_eq_false, not_false_eq_true, i_m1lt, i_m1le, i_nlt1, i_nle1, i_ne1, i_1ne]
    · simp (disch := omega) only [S_Model_cost, h1, i_lit, nI_ltI, nI_leI, nI_eq, nI_add, pk_mul, pk_sub, nI_clamp, if_pos, if_neg, if_true, if_false, Option.bind_some, true_or, or_true, false_or, or_false, or_self, not_true_eq_false, not_false_eq_true, i_m1lt, i_m1le, i_nlt1, i_nle1, i_ne1, i_1ne]
  · refine ⟨0, a, f, b, g, ?_, ?_, h⟩
    · simp (disch := omega) only [S_Desk_cost, S_Costs_change, i_lit, nI_ltI, nI_leI, nI_eq, nI_add, pk_mul, pk_sub, nI_clamp, if_pos, if_neg, if_true, if_false, Option.bind_some, true_or, or_true, false_or, or_false, or_self, not_true_eq_false, not_false_eq_true, i_m1lt, i_m1le, i_nlt1, i_nle1, i_ne1, i_1ne]
    · simp (disch := omega) only [S_Model_cost, i_lit, nI_ltI, nI_leI, nI_eq, nI_add, pk_mul, pk_sub, nI_clamp, if_pos, if_neg, if_true, if_false, Option.bind_some, true_or, or_true, false_or, or_false, or_self, not_true_eq_false, not_false_eq_true, i_m1lt, i_m1le, i_nlt1, i_nle1, i_ne1, i_1ne]
  · rcases i_ix p3 (n := 4) (by omega) with h3 | ⟨h3, c, hc, hc2, rfl⟩ | ⟨c, hc, rfl⟩
    · have h3' : p3 < nI 1 := Int32.lt_trans h3 (nI_lt (by omega) (by omega))
      refine ⟨0, a, f, b, g, ?_, ?_, h⟩
      · simp (disch := omega) only [S_Desk_cost, S_Costs_change, h3', i_lit, nI_ltI, nI_leI, nI_eq, nI_add, pk_mul, pk_sub, nI_clamp, if_pos, if_neg, if_true, if_false, Option.bind_some, true_or, or_true, false_or, or_false, or_self, not_true_eq_false, not_false_eq_true, i_m1lt, i_m1le, i_nlt1, i_nle1, i_ne1, i_1ne]
      · simp (disch := omega) only [S_Model_cost, h3', i_lit, nI_ltI, nI_leI, nI_eq, nI_add, pk_mul, pk_sub, nI_clamp, if_pos, if_neg, if_true, if_false, Option.bind_some, true_or, or_true, false_or, or_false, or_self, not_true_eq_false, not_false_eq_true, i_m1lt, i_m1le, i_nlt1, i_nle1, i_ne1, i_1ne]
    · refine ⟨0, a, f, b, g, ?_, ?_, h⟩
      · simp (disch := omega) only [S_Desk_cost, S_Costs_change, i_lit, nI_ltI, nI_leI, nI_eq, nI_add, pk_mul, pk_sub, nI_clamp, if_pos, if_neg, if_true, if_false, Option.bind_some, true_or, or_true, false_or, or_false, or_self, not_true_eq_false, not_false_eq_true, i_m1lt, i_m1le, i_nlt1, i_nle1, i_ne1, i_1ne]
      · simp (disch := omega) only [S_Model_cost, i_lit, nI_ltI, nI_leI, nI_eq, nI_add, pk_mul, pk_sub, nI_clamp, if_pos, if_neg, if_true, if_false, Option.bind_some, true_or, or_true, false_or, or_false, or_self, not_true_eq_false, not_false_eq_true, i_m1lt, i_m1le, i_nlt1, i_nle1, i_ne1, i_1ne]
    · by_cases h0 : c < 1
      · refine ⟨0, a, f, b, g, ?_, ?_, h⟩
        · simp (disch := omega) only [S_Desk_cost, S_Costs_change, i_lit, nI_ltI, nI_leI, nI_eq, nI_add, pk_mul, pk_sub, nI_clamp, if_pos, if_neg, if_true, if_false, Option.bind_some, true_or, or_true, false_or, or_false, or_self, not_true_eq_false, not_false_eq_true, i_m1lt, i_m1le, i_nlt1, i_nle1, i_ne1, i_1ne]
        · simp (disch := omega) only [S_Model_cost, i_lit, nI_ltI, nI_leI, nI_eq, nI_add, pk_mul, pk_sub, nI_clamp, if_pos, if_neg, if_true, if_false, Option.bind_some, true_or, or_true, false_or, or_false, or_self, not_true_eq_false, not_false_eq_true, i_m1lt, i_m1le, i_nlt1, i_nle1, i_ne1, i_1ne]
      · by_cases h2 : p2 = nI 0
        · refine ⟨1, upd a j (nI c), f, upd b j (nI c), g, ?_, ?_, (ic_up h ⟨by omega, by omega⟩).1⟩
          · simp (disch := omega) only [S_Desk_cost, S_Costs_change, h2, i_lit, nI_ltI, nI_leI, nI_eq, nI_add, pk_mul, pk_sub, nI_clamp, if_pos, if_neg, if_true, if_false, Option.bind_some, true_or, or_true, false_or, or_false, or_self, not_true_eq_false, not_false_eq_true, i_m1lt, i_m1le, i_nlt1, i_nle1, i_ne1, i_1ne]
          · simp (disch := omega) only [S_Model_cost, h2, i_lit, nI_ltI, nI_leI, nI_eq, nI_add, pk_mul, pk_sub, nI_clamp, if_pos, if_neg, if_true, if_false, Option.bind_some, true_or, or_true, false_or, or_false, or_self, not_true_eq_false, not_false_eq_true, i_m1lt, i_m1le, i_nlt1, i_nle1, i_ne1, i_1ne]
        · refine ⟨1, a, upd f j (nI c), b, upd g j (nI c), ?_, ?_, (ic_up h ⟨by omega, by omega⟩).2⟩
          · simp (disch := omega) only [S_Desk_cost, S_Costs_change, h2, i_lit, nI_ltI, nI_leI, nI_eq, nI_add, pk_mul, pk_sub, nI_clamp, if_pos, if_neg, if_true, if_false, Option.bind_some, true_or, or_true, false_or, or_false, or_self, not_true_eq_false, not_false_eq_true, i_m1lt, i_m1le, i_nlt1, i_nle1, i_ne1, i_1ne]
          · simp (disch := omega) only [S_Model_cost, h2, i_lit, nI_ltI, nI_leI, nI_eq, nI_add, pk_mul, pk_sub, nI_clamp, if_pos, if_neg, if_true, if_false, Option.bind_some, true_or, or_true, false_or, or_false, or_self, not_true_eq_false, not_false_eq_true, i_m1lt, i_m1le, i_nlt1, i_nle1, i_ne1, i_1ne]
theorem p_letter {l : Nat} {w : Nat → Nat} {a b p x0 : Int32} {f g : Nat → Int32} (h : IT l w a f b g) :
    ∃ r : Int32, S_Desk_letter p a f = some r ∧ S_Model_letter p x0 b g = some (r, 0) := by
  obtain ⟨hl, rfl, rfl, hw⟩ := h
  rcases i_ix p (n := l) (by omega) with h1 | ⟨h1, j, hj, hj2, rfl⟩ | ⟨j, hj, rfl⟩
  · exact ⟨-1, by simp (disch := omega) only [S_Desk_letter, S_Text_letterAt, h1, i_lit, nI_ltI, nI_leI, nI_eq, nI_add, pk_mul, pk_sub, nI_clamp, if_pos, if_neg, if_true, if_false, Option.bind_some, true_or, or_true, false_or, or_false, or_self, not_true_eq_false, not_false_eq_true, i_m1lt, i_m1le, i_nlt1, i_nle1, i_ne1, i_1ne], by simp (disch := omega) only [S_Model_letter, h1, i_lit, nI_ltI, nI_leI, nI_eq, nI_add, pk_mul, pk_sub, nI_clamp, if_pos, if_neg, if_true, if_false, Option.bind_some, true_or, or_true, false_or, or_false, or_self, not_true_eq_false, not_false_eq_true, i_m1lt, i_m1le, i_nlt1, i_nle1, i_ne1, i_1ne]⟩
  · exact ⟨-1, by simp (disch := omega) only [S_Desk_letter, S_Text_letterAt, i_lit, nI_ltI, nI_leI, nI_eq, nI_add, pk_mul, pk_sub, nI_clamp, if_pos, if_neg, if_true, if_false, Option.bind_some, true_or, or_true, false_or, or_false, or_self, not_true_eq_false, not_false_eq_true, i_m1lt, i_m1le, i_nlt1, i_nle1, i_ne1, i_1ne], by simp (disch := omega) only [S_Model_letter, i_lit, nI_ltI, nI_leI, nI_eq, nI_add, pk_mul, pk_sub, nI_clamp, if_pos, if_neg, if_true, if_false, Option.bind_some, true_or, or_true, false_or, or_false, or_self, not_true_eq_false, not_false_eq_true, i_m1lt, i_m1le, i_nlt1, i_nle1, i_ne1, i_1ne]⟩
  · refine ⟨nI (w j), ?_, ?_⟩
    · simp (disch := omega) only [S_Desk_letter, S_Text_letterAt, i_lit, nI_ltI, nI_leI, nI_eq, nI_add, pk_mul, pk_sub, nI_clamp, if_pos, if_neg, if_true, if_false, Option.bind_some, true_or, or_true, false_or, or_false, or_self, not_true_eq_false, not_false_eq_true, i_m1lt, i_m1le, i_nlt1, i_nle1, i_ne1, i_1ne]; rw [(hw j hj).2.1]
    · simp (disch := omega) only [S_Model_letter, i_lit, nI_ltI, nI_leI, nI_eq, nI_add, pk_mul, pk_sub, nI_clamp, if_pos, if_neg, if_true, if_false, Option.bind_some, true_or, or_true, false_or, or_false, or_self, not_true_eq_false, not_false_eq_true, i_m1lt, i_m1le, i_nlt1, i_nle1, i_ne1, i_1ne]; rw [(hw j hj).2.2]
