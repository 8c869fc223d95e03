/-! the calls parse and count -/
section
variable {g : LRD} {w : Nat → Nat} {l : Nat}
theorem m_parsed (hg : g.ok) {lem len fol nxt fre stk wrd : Nat → Int32} (h : TM g lem len fol nxt) (hl : l ≤ 16) (hw : ∀ j, j < l → w j < 6 ∧ wrd j = nI (w j)) {o : Option Nat} {S : List Nat} (ho : g.out w l o S) :
    ∃ fre' stk', S_Model_parsed (nI l) fol fre lem len nxt stk wrd = some (oI o, fre', stk') := by
  have hw2 : ∀ j, j < l → w j < 6 ∧ fl fre wrd 0 l j = nI (w j) := fun j hj => ⟨(hw j hj).1, by rw [fl_in (by omega) (by omega)]; exact (hw j hj).2⟩
  obtain ⟨A, hA⟩ := m_wrongW hg (A := stk) h (show l ≤ 19 by omega) hw2 ho
  refine ⟨fl fre wrd 0 l, A, ?_⟩
  have key : ∀ d i k, i + d = l → F_Model_parsed (nI l) fol lem len nxt wrd (k + (d + 1)) 0 (nI i) (fl fre wrd 0 i) stk = some (oI o, fl fre wrd 0 l, A) := by
    intro d
    induction d with
    | zero =>
      intro i k hi
      have : i = l := by omega
      subst this
      show B_Model_parsed_0 (F_Model_parsed (nI i) fol lem len nxt wrd k) (nI i) fol lem len nxt wrd (nI i) (fl fre wrd 0 i) stk = _
      simp (disch := omega) only [B_Model_parsed_0, hA, i_lit, nI_ltI, nI_leI, nI_eq, nI_add, pk_mul, pk_sub, nI_clamp, if_pos, if_neg, if_true, if_false, Option.bind_some, true_or, or_true, false_or, or_false, or_self, not_true_eq_false, not_false_eq_true, i_m1lt, i_m1le, i_nlt1, i_nle1, i_ne1, i_1ne]
    | succ d ih =>
      intro i k hi
      rw [← ih (i + 1) k (by omega)]
      have hu := fl_up fre wrd 0 i
      rw [Nat.zero_add] at hu
      show B_Model_parsed_0 (F_Model_parsed (nI l) fol lem len nxt wrd (k + (d + 1))) (nI l) fol lem len nxt wrd (nI i) (fl fre wrd 0 i) stk = _
      simp (disch := omega) only [B_Model_parsed_0, hu, i_lit, nI_ltI, nI_leI, nI_eq, nI_add, pk_mul, pk_sub, nI_clamp, if_pos, if_neg, if_true, if_false, Option.bind_some, true_or, or_true, false_or, or_false, or_self, not_true_eq_false, not_false_eq_true, i_m1lt, i_m1le, i_nlt1, i_nle1, i_ne1, i_1ne]
  obtain ⟨k, hk⟩ := fuelled (k := l + 1) (by omega)
  have := key l 0 k (by omega)
  rw [fl_0] at this
  rw [S_Model_parsed, hk]
  exact this
theorem p_parse {x3 x4 made a b x0 : Int32} {lef siz red tgt lem len fol nxt txt wrd C H fre stk : Nat → Int32} (hI : IM x3 x4 lef siz red tgt made lem len fol nxt) (hT : IT l w a txt b wrd) :
    (∃ C' H' fre' stk', S_Desk_parse x3 a lef siz C H red tgt txt = some (nI 2, nI 0, C', H') ∧ S_Model_parse x0 made b fol fre lem len nxt stk wrd = some (nI 0, nI 1, fre', stk')) ∨
    (∃ r C' H' fre' stk', S_Desk_parse x3 a lef siz C H red tgt txt = some (nI 0, r, C', H') ∧ S_Model_parse x0 made b fol fre lem len nxt stk wrd = some (r, nI 0, fre', stk')) := by
  obtain ⟨hl, rfl, rfl, hw⟩ := hT
  rcases hI with ⟨rfl, rfl, rfl⟩ | ⟨g, hg, hTC, hTM, rfl, -⟩
  · refine Or.inl ⟨C, H, fre, stk, ?_, ?_⟩
    · simp (disch := omega) only [S_Desk_parse, S_States_stateCount, i_lit, nI_ltI, nI_leI, nI_eq, nI_add, pk_mul, pk_sub, nI_clamp, if_pos, if_neg, if_true, if_false, Option.bind_some, true_or, or_true, false_or, or_false, or_self, not_true_eq_false, not_false_eq_true, i_m1lt, i_m1le, i_nlt1, i_nle1, i_ne1, i_1ne]
    · simp (disch := omega) only [S_Model_parse, S_Model_fails, i_lit, nI_ltI, nI_leI, nI_eq, nI_add, pk_mul, pk_sub, nI_clamp, if_pos, if_neg, if_true, if_false, Option.bind_some, true_or, or_true, false_or, or_false, or_self, not_true_eq_false, not_false_eq_true, i_m1lt, i_m1le, i_nlt1, i_nle1, i_ne1, i_1ne]
  · right
    have hm0 := hg.2.2.2.2.2.1.1
    have hm40 := hTM.1
    obtain ⟨o, S, ho⟩ := LRD.out_ex hg (w := w) (show l ≤ 20 by omega) (fun i hi => (hw i hi).1)
    obtain ⟨C', H', c1, -⟩ := c_wrongPlace hg (C := C) (H := H) hTC hl (fun j hj => ⟨(hw j hj).1, (hw j hj).2.1⟩) ho
    obtain ⟨fre', stk', d1⟩ := m_parsed hg (fre := fre) (stk := stk) hTM hl (fun j hj => ⟨(hw j hj).1, (hw j hj).2.2⟩) ho
    refine ⟨oI o, C', H', fre', stk', ?_, ?_⟩
    · have hX := hTC.1
      subst hX
      simp (disch := omega) only [S_Desk_parse, S_States_stateCount, c1, i_lit, nI_ltI, nI_leI, nI_eq, nI_add, pk_mul, pk_sub, nI_clamp, if_pos, if_neg, if_true, if_false, Option.bind_some, true_or, or_true, false_or, or_false, or_self, not_true_eq_false, not_false_eq_true, i_m1lt, i_m1le, i_nlt1, i_nle1, i_ne1, i_1ne]
    · simp (disch := omega) only [S_Model_parse, d1, i_lit, nI_ltI, nI_leI, nI_eq, nI_add, pk_mul, pk_sub, nI_clamp, if_pos, if_neg, if_true, if_false, Option.bind_some, true_or, or_true, false_or, or_false, or_self, not_true_eq_false, not_false_eq_true, i_m1lt, i_m1le, i_nlt1, i_nle1, i_ne1, i_1ne]
end
def bs (v : Nat) : Nat → Nat
  | 0 => 0
  | t + 1 => bs v t + (if v.testBit t = true then 1 else 0)
theorem bs_7 {v : Nat} (hv : v < 128) : bs v 7 = pop v := by
  have h1 : (List.range 128).all (fun v => decide (bs v 7 = pop v)) = true := by decide +kernel
  exact of_decide_eq_true (List.all_eq_true.mp h1 v (List.mem_range.mpr hv))
theorem m_count2 {m : Nat} (hm : m ≤ 40) {fol : Nat → Int32} {rv : Nat → Nat} (h : ∀ k, k < 55 * m → rv k < 128 ∧ fol k = nI (rv k)) (x3 p x0 : Int32) : ∀ d i, i + d = 55 * m → ∃ C, C ≤ 9 * d + 1 ∧ ∀ k, F_Model_count x3 (nI m) fol (k + C) 0 p (nI (sm rv i)) (nI i) (nI 0) x0 = some (nI (sm rv (55 * m)), x0)
  | 0, i, hi => by
    have : i = 55 * m := by omega
    subst this
    refine ⟨1, by omega, fun k => ?_⟩
    show B_Model_count_0 (F_Model_count x3 (nI m) fol k) x3 (nI m) fol p (nI (sm rv (55 * m))) (nI (55 * m)) (nI 0) x0 = _
    simp (disch := omega) only [B_Model_count_0, i_lit, nI_ltI, nI_leI, nI_eq, nI_add, pk_mul, pk_sub, nI_clamp, if_pos, if_neg, if_true, if_false, Option.bind_some, true_or, or_true, false_or, or_false, or_self, not_true_eq_false, not_false_eq_true, i_m1lt, i_m1le, i_nlt1, i_nle1, i_ne1, i_1ne]
  | d + 1, i, hi => by
    obtain ⟨C, c0, c1⟩ := m_count2 hm h x3 p x0 d (i + 1) (by omega)
    obtain ⟨h1, h2⟩ := h i (by omega)
    have inner : ∀ e t, t + e = 7 → ∀ k, F_Model_count x3 (nI m) fol (k + (e + 1)) 1 p (nI (sm rv i + bs (rv i) t)) (nI i) (nI t) x0 = F_Model_count x3 (nI m) fol k 0 p (nI (sm rv (i + 1))) (nI (i + 1)) (nI 0) x0 := by
      intro e
      induction e with
      | zero =>
        intro t ht k
        have : t = 7 := by omega
        subst this
        show B_Model_count_1 (F_Model_count x3 (nI m) fol k) x3 (nI m) fol p (nI (sm rv i + bs (rv i) 7)) (nI i) (nI 7) x0 = _
        simp (disch := omega) only [B_Model_count_1, bs_7 h1, sm, i_lit, nI_ltI, nI_leI, nI_eq, nI_add, pk_mul, pk_sub, nI_clamp, if_pos, if_neg, if_true, if_false, Option.bind_some, true_or, or_true, false_or, or_false, or_self, not_true_eq_false, not_false_eq_true, i_m1lt, i_m1le, i_nlt1, i_nle1, i_ne1, i_1ne]
      | succ e ih =>
        intro t ht k
        rw [← ih (t + 1) (by omega) k]
        have hib := i_bit h1 (show t < 7 by omega)
        show B_Model_count_1 (F_Model_count x3 (nI m) fol (k + (e + 1))) x3 (nI m) fol p (nI (sm rv i + bs (rv i) t)) (nI i) (nI t) x0 = _
        have e1 : sm rv i + bs (rv i) t + (if (rv i).testBit t = true then 1 else 0) = sm rv i + bs (rv i) (t + 1) := by simp only [bs]; omega
        simp (disch := omega) only [B_Model_count_1, h2, hib, e1, i_lit, nI_ltI, nI_leI, nI_eq, nI_add, pk_mul, pk_sub, nI_clamp, if_pos, if_neg, if_true, if_false, Option.bind_some, true_or, or_true, false_or, or_false, or_self, not_true_eq_false, not_false_eq_true, i_m1lt, i_m1le, i_nlt1, i_nle1, i_ne1, i_1ne]
    refine ⟨C + 9, by omega, fun k => ?_⟩
    rw [← c1 k]
    have := inner 7 0 (by omega) (k + C)
    rw [← this, show k + (C + 9) = k + C + (7 + 1) + 1 by omega]
    show B_Model_count_0 (F_Model_count x3 (nI m) fol (k + C + (7 + 1))) x3 (nI m) fol p (nI (sm rv i)) (nI i) (nI 0) x0 = _
    simp (disch := omega) only [B_Model_count_0, bs, Nat.add_zero, i_lit, nI_ltI, nI_leI, nI_eq, nI_add, pk_mul, pk_sub, nI_clamp, if_pos, if_neg, if_true, if_false, Option.bind_some, true_or, or_true, false_or, or_false, or_self, not_true_eq_false, not_false_eq_true, i_m1lt, i_m1le, i_nlt1, i_nle1, i_ne1, i_1ne]
theorem p_count {n : Nat} {a b x3 x4 made p x0 : Int32} {lef siz red tgt lem len fol nxt : Nat → Int32} (ha : a = nI n) (hb : b = nI n) (hI : IM x3 x4 lef siz red tgt made lem len fol nxt) : ∃ r, S_Desk_count p a x3 x4 = some r ∧ S_Model_count p x0 b made fol = some (r, nI 0) := by
  subst ha
  subst hb
  have hx3 : x3 = made := by
    rcases hI with ⟨rfl, -, rfl⟩ | ⟨g, -, hTC, -, rfl, -⟩
    · rfl
    · exact hTC.1
  have h2 : ∃ r, x4 = r ∧ ∀ p, F_Model_count (nI n) made fol fuel_ 0 p (nI 0) (nI 0) (nI 0) (nI 0) = some (r, nI 0) := by
    rcases hI with ⟨-, rfl, rfl⟩ | ⟨g, hg, hTC, hTM, rfl, rv, h1, h2⟩
    · refine ⟨nI 0, rfl, fun p => ?_⟩
      obtain ⟨k, hk⟩ := fuelled (k := 1) (by omega)
      rw [hk]
      show B_Model_count_0 (F_Model_count (nI n) (nI 0) fol k) (nI n) (nI 0) fol p (nI 0) (nI 0) (nI 0) (nI 0) = _
      simp (disch := omega) only [B_Model_count_0, i_lit, nI_ltI, nI_leI, nI_eq, nI_add, pk_mul, pk_sub, nI_clamp, if_pos, if_neg, if_true, if_false, Option.bind_some, true_or, or_true, false_or, or_false, or_self, not_true_eq_false, not_false_eq_true, i_m1lt, i_m1le, i_nlt1, i_nle1, i_ne1, i_1ne]
    · refine ⟨_, h2, fun p => ?_⟩
      have hm40 := hTM.1
      obtain ⟨C, c0, c1⟩ := m_count2 hm40 h1 (nI n) p (nI 0) (55 * g.m) 0 (by omega)
      obtain ⟨k, hk⟩ := fuelled (k := C) (by omega)
      rw [hk]
      exact c1 k
  obtain ⟨r2, e2, h2⟩ := h2
  by_cases p0 : p = nI 0
  · subst p0
    exact ⟨nI n, by simp (disch := omega) only [S_Desk_count, S_Grammar_ruleCount, i_lit, nI_ltI, nI_leI, nI_eq, nI_add, pk_mul, pk_sub, nI_clamp, if_pos, if_neg, if_true, if_false, Option.bind_some, true_or, or_true, false_or, or_false, or_self, not_true_eq_false, not_false_eq_true, i_m1lt, i_m1le, i_nlt1, i_nle1, i_ne1, i_1ne], by simp (disch := omega) only [S_Model_count, i_lit, nI_ltI, nI_leI, nI_eq, nI_add, pk_mul, pk_sub, nI_clamp, if_pos, if_neg, if_true, if_false, Option.bind_some, true_or, or_true, false_or, or_false, or_self, not_true_eq_false, not_false_eq_true, i_m1lt, i_m1le, i_nlt1, i_nle1, i_ne1, i_1ne]⟩
  · by_cases p1 : p = nI 1
    · subst p1
      exact ⟨x3, by simp (disch := omega) only [S_Desk_count, S_States_stateCount, i_10, i_lit, nI_ltI, nI_leI, nI_eq, nI_add, pk_mul, pk_sub, nI_clamp, if_pos, if_neg, if_true, if_false, Option.bind_some, true_or, or_true, false_or, or_false, or_self, not_true_eq_false, not_false_eq_true, i_m1lt, i_m1le, i_nlt1, i_nle1, i_ne1, i_1ne], by simp (disch := omega) only [S_Model_count, i_10, hx3, i_lit, nI_ltI, nI_leI, nI_eq, nI_add, pk_mul, pk_sub, nI_clamp, if_pos, if_neg, if_true, if_false, Option.bind_some, true_or, or_true, false_or, or_false, or_self, not_true_eq_false, not_false_eq_true, i_m1lt, i_m1le, i_nlt1, i_nle1, i_ne1, i_1ne]⟩
    · by_cases p2 : p = nI 2
      · subst p2
        have h21 : ¬ nI 2 = nI 1 := by decide
        have h20 : ¬ nI 2 = nI 0 := by decide
        exact ⟨x4, by simp (disch := omega) only [S_Desk_count, S_States_itemCount, h21, h20, i_lit, nI_ltI, nI_leI, nI_eq, nI_add, pk_mul, pk_sub, nI_clamp, if_pos, if_neg, if_true, if_false, Option.bind_some, true_or, or_true, false_or, or_false, or_self, not_true_eq_false, not_false_eq_true, i_m1lt, i_m1le, i_nlt1, i_nle1, i_ne1, i_1ne], by simp (disch := omega) only [S_Model_count, h21, h20, h2, e2, i_lit, nI_ltI, nI_leI, nI_eq, nI_add, pk_mul, pk_sub, nI_clamp, if_pos, if_neg, if_true, if_false, Option.bind_some, true_or, or_true, false_or, or_false, or_self, not_true_eq_false, not_false_eq_true, i_m1lt, i_m1le, i_nlt1, i_nle1, i_ne1, i_1ne]⟩
      · exact ⟨-nI 1, by simp (disch := omega) only [S_Desk_count, p0, p1, p2, i_lit, nI_ltI, nI_leI, nI_eq, nI_add, pk_mul, pk_sub, nI_clamp, if_pos, if_neg, if_true, if_false, Option.bind_some, true_or, or_true, false_or, or_false, or_self, not_true_eq_false, not_false_eq_true, i_m1lt, i_m1le, i_nlt1, i_nle1, i_ne1, i_1ne], by simp (disch := omega) only [S_Model_count, p0, p1, p2, i_lit, nI_ltI, nI_leI, nI_eq, nI_add, pk_mul, pk_sub, nI_clamp, if_pos, if_neg, if_true, if_false, Option.bind_some, true_or, or_true, false_or, or_false, or_self, not_true_eq_false, not_false_eq_true, i_m1lt, i_m1le, i_nlt1, i_nle1, i_ne1, i_1ne]⟩
