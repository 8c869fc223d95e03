/-! the reference's step to the state behind a symbol -/
section
variable {n : Nat} {lf ln : Nat → Nat} {sy : Nat → Nat → Nat} {us : Nat → Bool} {b : Nat → Nat}
theorem m_mv2 {N : Int32} {f1 f2 f4 f5 f6 f7 f0 : Nat → Int32} (hs : GSm 11 ln sy f6 f5) {q m X r : Nat} (hq : q < m) (hm : m ≤ 40) (hX : X < 12) (hr : r < 11) {row : Nat → Nat} (hw : wfb row) (h0 : ∀ c, c < 55 → f0 (55 * q + c) = nI (row c)) : ∀ d p a f, p + d = 4 → RW m a.2 f0 f →
    ∃ f', RW m (fold (mvS ln sy row X) d (5 * r + p) a).2 f0 f' ∧ ∀ k, F_Model_led N f1 f2 f4 f5 f6 f7 (k + (d + 1)) 2 (nI q) (nI X) (bI a.1) (nI r) (nI p) (nI 0) (nI m) f = F_Model_led N f1 f2 f4 f5 f6 f7 k 1 (nI q) (nI X) (bI (fold (mvS ln sy row X) d (5 * r + p) a).1) (nI (r + 1)) (nI 0) (nI 0) (nI m) f'
  | 0, p, a, f, hp, h1 => by
    refine ⟨f, h1, fun k => ?_⟩
    show B_Model_led_2 (F_Model_led N f1 f2 f4 f5 f6 f7 k) N f1 f2 f4 f5 f6 f7 (nI q) (nI X) (bI a.1) (nI r) (nI p) (nI 0) (nI m) f = F_Model_led N f1 f2 f4 f5 f6 f7 k 1 (nI q) (nI X) (bI a.1) (nI (r + 1)) (nI 0) (nI 0) (nI m) f
    simp (disch := omega) only [B_Model_led_2, i_lit, nI_ltI, nI_leI, nI_eq, nI_add, pk_mul, pk_sub, nI_clamp, if_pos, if_neg, if_true, if_false, Option.bind_some, true_or, or_true, false_or, or_false, or_self, not_true_eq_false, not_false_eq_true, i_m1lt, i_m1le, i_nlt1, i_nle1, i_ne1, i_1ne]
  | d + 1, p, a, f, hp, h1 => by
    obtain ⟨hs1, hs2, hs3⟩ := hs r hr
    have hrow : f (55 * q + (5 * r + p)) = nI (row (5 * r + p)) := by rw [h1.2 _ (by omega)]; exact h0 _ (by omega)
    have hwr := hw (5 * r + p)
    have e0 : 55 * q + 5 * r + p = 55 * q + (5 * r + p) := by omega
    have e1 : 55 * m + 5 * r + p + 1 = 55 * m + (5 * r + p + 1) := by omega
    have ed : (5 * r + p) / 5 = r := by omega
    have em : (5 * r + p) % 5 = p := by omega
    by_cases e : p < ln r ∧ ¬ row (5 * r + p) = 0 ∧ sy r p = X
    · obtain ⟨hy1, hy2⟩ := hs3 p (by omega)
      have hsy : S_Model_symbol (nI r) (nI p) f5 f6 = some (nI (sy r p)) := by simp (disch := omega) only [S_Model_symbol, hs2, hy2, i_lit, nI_ltI, nI_leI, nI_eq, nI_add, pk_mul, pk_sub, nI_clamp, if_pos, if_neg, if_true, if_false, Option.bind_some, true_or, or_true, false_or, or_false, or_self, not_true_eq_false, not_false_eq_true, i_m1lt, i_m1le, i_nlt1, i_nle1, i_ne1, i_1ne]
      have hS : mvS ln sy row X (5 * r + p) a = (true, upN a.2 (5 * r + p + 1) (row (5 * r + p))) := by simp only [mvS, ed, em]; rw [if_pos e]
      obtain ⟨f', b1, b2⟩ := m_mv2 (N := N) (f1 := f1) (f2 := f2) (f4 := f4) (f7 := f7) hs hq hm hX hr hw h0 d (p + 1) (mvS ln sy row X (5 * r + p) a) (upd f (55 * m + (5 * r + p + 1)) (nI (row (5 * r + p)))) (by omega) (by rw [hS]; exact RW_up h1 (by omega))
      rw [show 5 * r + (p + 1) = 5 * r + p + 1 by omega] at b1 b2
      refine ⟨f', b1, fun k => ?_⟩
      show _ = F_Model_led N f1 f2 f4 f5 f6 f7 k 1 (nI q) (nI X) (bI (fold (mvS ln sy row X) d (5 * r + p + 1) (mvS ln sy row X (5 * r + p) a)).1) (nI (r + 1)) (nI 0) (nI 0) (nI m) f'
      rw [← b2 k, hS]
      show B_Model_led_2 (F_Model_led N f1 f2 f4 f5 f6 f7 (k + (d + 1))) N f1 f2 f4 f5 f6 f7 (nI q) (nI X) (bI a.1) (nI r) (nI p) (nI 0) (nI m) f = _
      have h00 := e.2.1
      rw [e.2.2] at hsy
      simp (disch := omega) only [B_Model_led_2, e0, hrow, h00, hsy, e1, bI_t, i_lit, nI_ltI, nI_leI, nI_eq, nI_add, pk_mul, pk_sub, nI_clamp, if_pos, if_neg, if_true, if_false, Option.bind_some, true_or, or_true, false_or, or_false, or_self, not_true_eq_false, not_false_eq_true, i_m1lt, i_m1le, i_nlt1, i_nle1, i_ne1, i_1ne]
    · have hS : mvS ln sy row X (5 * r + p) a = a := by simp only [mvS, ed, em]; rw [if_neg e]
      obtain ⟨f', b1, b2⟩ := m_mv2 (N := N) (f1 := f1) (f2 := f2) (f4 := f4) (f7 := f7) hs hq hm hX hr hw h0 d (p + 1) (mvS ln sy row X (5 * r + p) a) f (by omega) (by rw [hS]; exact h1)
      rw [show 5 * r + (p + 1) = 5 * r + p + 1 by omega] at b1 b2
      refine ⟨f', b1, fun k => ?_⟩
      show _ = F_Model_led N f1 f2 f4 f5 f6 f7 k 1 (nI q) (nI X) (bI (fold (mvS ln sy row X) d (5 * r + p + 1) (mvS ln sy row X (5 * r + p) a)).1) (nI (r + 1)) (nI 0) (nI 0) (nI m) f'
      rw [← b2 k, hS]
      show B_Model_led_2 (F_Model_led N f1 f2 f4 f5 f6 f7 (k + (d + 1))) N f1 f2 f4 f5 f6 f7 (nI q) (nI X) (bI a.1) (nI r) (nI p) (nI 0) (nI m) f = _
      by_cases h00 : row (5 * r + p) = 0
      · simp (disch := omega) only [B_Model_led_2, e0, hrow, h00, i_lit, nI_ltI, nI_leI, nI_eq, nI_add, pk_mul, pk_sub, nI_clamp, if_pos, if_neg, if_true, if_false, Option.bind_some, true_or, or_true, false_or, or_false, or_self, not_true_eq_false, not_false_eq_true, i_m1lt, i_m1le, i_nlt1, i_nle1, i_ne1, i_1ne]
      · by_cases hp2 : p < ln r
        · obtain ⟨hy1, hy2⟩ := hs3 p hp2
          have hsy : S_Model_symbol (nI r) (nI p) f5 f6 = some (nI (sy r p)) := by simp (disch := omega) only [S_Model_symbol, hs2, hy2, i_lit, nI_ltI, nI_leI, nI_eq, nI_add, pk_mul, pk_sub, nI_clamp, if_pos, if_neg, if_true, if_false, Option.bind_some, true_or, or_true, false_or, or_false, or_self, not_true_eq_false, not_false_eq_true, i_m1lt, i_m1le, i_nlt1, i_nle1, i_ne1, i_1ne]
          have hne : ¬ sy r p = X := fun h => e ⟨by omega, h00, h⟩
          simp (disch := omega) only [B_Model_led_2, e0, hrow, h00, hsy, hne, i_lit, nI_ltI, nI_leI, nI_eq, nI_add, pk_mul, pk_sub, nI_clamp, if_pos, if_neg, if_true, if_false, Option.bind_some, true_or, or_true, false_or, or_false, or_self, not_true_eq_false, not_false_eq_true, i_m1lt, i_m1le, i_nlt1, i_nle1, i_ne1, i_1ne]
        · have hsy : S_Model_symbol (nI r) (nI p) f5 f6 = some (-nI 1) := by simp (disch := omega) only [S_Model_symbol, hs2, i_lit, nI_ltI, nI_leI, nI_eq, nI_add, pk_mul, pk_sub, nI_clamp, if_pos, if_neg, if_true, if_false, Option.bind_some, true_or, or_true, false_or, or_false, or_self, not_true_eq_false, not_false_eq_true, i_m1lt, i_m1le, i_nlt1, i_nle1, i_ne1, i_1ne]
          simp (disch := omega) only [B_Model_led_2, e0, hrow, h00, hsy, i_lit, nI_ltI, nI_leI, nI_eq, nI_add, pk_mul, pk_sub, nI_clamp, if_pos, if_neg, if_true, if_false, Option.bind_some, true_or, or_true, false_or, or_false, or_self, not_true_eq_false, not_false_eq_true, i_m1lt, i_m1le, i_nlt1, i_nle1, i_ne1, i_1ne]
theorem m_mv1 {N : Int32} {f1 f2 f4 f5 f6 f7 f0 : Nat → Int32} (hs : GSm 11 ln sy f6 f5) {q m X : Nat} (hq : q < m) (hm : m ≤ 40) (hX : X < 12) {row : Nat → Nat} (hw : wfb row) (h0 : ∀ c, c < 55 → f0 (55 * q + c) = nI (row c)) : ∀ d r a f, r + d = 11 → RW m a.2 f0 f →
    ∃ f', RW m (fold (mvS ln sy row X) (5 * d) (5 * r) a).2 f0 f' ∧ ∀ k, F_Model_led N f1 f2 f4 f5 f6 f7 (k + 6 * d) 1 (nI q) (nI X) (bI a.1) (nI r) (nI 0) (nI 0) (nI m) f = F_Model_led N f1 f2 f4 f5 f6 f7 k 1 (nI q) (nI X) (bI (fold (mvS ln sy row X) (5 * d) (5 * r) a).1) (nI 11) (nI 0) (nI 0) (nI m) f'
  | 0, r, a, f, hr, h1 => by
    have : r = 11 := by omega
    subst this
    exact ⟨f, h1, fun k => rfl⟩
  | d + 1, r, a, f, hr, h1 => by
    have h4 := (hs r (by omega)).1
    obtain ⟨fa, c1, c2⟩ := m_mv2 (N := N) (f1 := f1) (f2 := f2) (f4 := f4) (f7 := f7) hs hq hm hX (show r < 11 by omega) hw h0 4 0 a f (by omega) h1
    have z0 : 5 * r + 0 = 5 * r := rfl
    have z4 := foldm5 (sy := sy) (row := row) (X := X) h4 4 h4 (by omega) a
    have z5 := foldm5 (sy := sy) (row := row) (X := X) h4 5 (by omega) (by omega) a
    rw [z0, z4, ← z5] at c1 c2
    obtain ⟨f', b1, b2⟩ := m_mv1 (N := N) (f1 := f1) (f2 := f2) (f4 := f4) (f7 := f7) hs hq hm hX hw h0 d (r + 1) (fold (mvS ln sy row X) 5 (5 * r) a) fa (by omega) c1
    have e5 : fold (mvS ln sy row X) (5 * (d + 1)) (5 * r) a = fold (mvS ln sy row X) (5 * d) (5 * (r + 1)) (fold (mvS ln sy row X) 5 (5 * r) a) := by
      rw [show 5 * (d + 1) = 5 + 5 * d by omega, fold_add, show 5 * r + 5 = 5 * (r + 1) by omega]
    rw [e5]
    refine ⟨f', b1, fun k => ?_⟩
    rw [← b2 k, ← c2 (k + 6 * d), show k + 6 * (d + 1) = k + 6 * d + (4 + 1) + 1 by omega]
    show B_Model_led_1 (F_Model_led N f1 f2 f4 f5 f6 f7 (k + 6 * d + (4 + 1))) N f1 f2 f4 f5 f6 f7 (nI q) (nI X) (bI a.1) (nI r) (nI 0) (nI 0) (nI m) f = _
    simp (disch := omega) only [B_Model_led_1, i_lit, nI_ltI, nI_leI, nI_eq, nI_add, pk_mul, pk_sub, nI_clamp, if_pos, if_neg, if_true, if_false, Option.bind_some, true_or, or_true, false_or, or_false, or_self, not_true_eq_false, not_false_eq_true, i_m1lt, i_m1le, i_nlt1, i_nle1, i_ne1, i_1ne]
theorem m_clr {N : Int32} {f1 f2 f4 f5 f6 f7 f : Nat → Int32} {q m X : Nat} (hm : m ≤ 40) : ∀ d i k, i + d = 55 → F_Model_led N f1 f2 f4 f5 f6 f7 (k + (d + 1)) 0 (nI q) (nI X) (nI 0) (nI i) (nI 0) (nI 0) (nI m) (fl f (fun _ => nI 0) (55 * m) i) = F_Model_led N f1 f2 f4 f5 f6 f7 k 1 (nI q) (nI X) (nI 0) (nI 0) (nI 0) (nI 0) (nI m) (fl f (fun _ => nI 0) (55 * m) 55)
  | 0, i, k, hi => by
    have : i = 55 := by omega
    subst this
    show B_Model_led_0 (F_Model_led N f1 f2 f4 f5 f6 f7 k) N f1 f2 f4 f5 f6 f7 (nI q) (nI X) (nI 0) (nI 55) (nI 0) (nI 0) (nI m) (fl f (fun _ => nI 0) (55 * m) 55) = _
    simp (disch := omega) only [B_Model_led_0, i_lit, nI_ltI, nI_leI, nI_eq, nI_add, pk_mul, pk_sub, nI_clamp, if_pos, if_neg, if_true, if_false, Option.bind_some, true_or, or_true, false_or, or_false, or_self, not_true_eq_false, not_false_eq_true, i_m1lt, i_m1le, i_nlt1, i_nle1, i_ne1, i_1ne]
  | d + 1, i, k, hi => by
    have hu := fl_up f (fun _ => nI 0) (55 * m) i
    rw [← m_clr hm d (i + 1) k (by omega)]
    show B_Model_led_0 (F_Model_led N f1 f2 f4 f5 f6 f7 (k + (d + 1))) N f1 f2 f4 f5 f6 f7 (nI q) (nI X) (nI 0) (nI i) (nI 0) (nI 0) (nI m) (fl f (fun _ => nI 0) (55 * m) i) = _
    simp (disch := omega) only [B_Model_led_0, hu, i_lit, nI_ltI, nI_leI, nI_eq, nI_add, pk_mul, pk_sub, nI_clamp, if_pos, if_neg, if_true, if_false, Option.bind_some, true_or, or_true, false_or, or_false, or_self, not_true_eq_false, not_false_eq_true, i_m1lt, i_m1le, i_nlt1, i_nle1, i_ne1, i_1ne]
theorem m_same {N : Int32} {f1 f2 f4 f5 f6 f7 f : Nat → Int32} {q m X k : Nat} (hm : m ≤ 40) (hk : k < m) {rk rn : Nat → Nat} (hwk : wfb rk) (hwn : wfb rn) (h1 : ∀ c, c < 55 → f (55 * k + c) = nI (rk c)) (h2 : ∀ c, c < 55 → f (55 * m + c) = nI (rn c)) : ∀ d p, p + d = 55 →
    (eqd rk rn d p = true → ∀ j, F_Model_led N f1 f2 f4 f5 f6 f7 (j + (d + 1)) 4 (nI q) (nI X) (nI 1) (nI k) (nI 1) (nI p) (nI m) f = some (nI k, nI m, f)) ∧
    (eqd rk rn d p = false → ∃ C, C ≤ d + 1 ∧ ∀ j, F_Model_led N f1 f2 f4 f5 f6 f7 (j + C) 4 (nI q) (nI X) (nI 1) (nI k) (nI 1) (nI p) (nI m) f = F_Model_led N f1 f2 f4 f5 f6 f7 j 3 (nI q) (nI X) (nI 1) (nI (k + 1)) (nI 0) (nI 0) (nI m) f)
  | 0, p, hp => by
    refine ⟨fun _ j => ?_, fun h => by cases h⟩
    show B_Model_led_4 (F_Model_led N f1 f2 f4 f5 f6 f7 j) N f1 f2 f4 f5 f6 f7 (nI q) (nI X) (nI 1) (nI k) (nI 1) (nI p) (nI m) f = _
    simp (disch := omega) only [B_Model_led_4, i_10, i_lit, nI_ltI, nI_leI, nI_eq, nI_add, pk_mul, pk_sub, nI_clamp, if_pos, if_neg, if_true, if_false, Option.bind_some, true_or, or_true, false_or, or_false, or_self, not_true_eq_false, not_false_eq_true, i_m1lt, i_m1le, i_nlt1, i_nle1, i_ne1, i_1ne]
  | d + 1, p, hp => by
    have h3 := h1 p (by omega)
    have h4 := h2 p (by omega)
    have h5 := hwk p
    have h6 := hwn p
    obtain ⟨i1, i2⟩ := m_same (N := N) (f1 := f1) (f2 := f2) (f4 := f4) (f5 := f5) (f6 := f6) (f7 := f7) (q := q) (X := X) hm hk hwk hwn h1 h2 d (p + 1) (by omega)
    by_cases e : rk p = rn p
    · have s4 : ∀ j, F_Model_led N f1 f2 f4 f5 f6 f7 (j + 1) 4 (nI q) (nI X) (nI 1) (nI k) (nI 1) (nI p) (nI m) f = F_Model_led N f1 f2 f4 f5 f6 f7 j 4 (nI q) (nI X) (nI 1) (nI k) (nI 1) (nI (p + 1)) (nI m) f := by
        intro j
        show B_Model_led_4 (F_Model_led N f1 f2 f4 f5 f6 f7 j) N f1 f2 f4 f5 f6 f7 (nI q) (nI X) (nI 1) (nI k) (nI 1) (nI p) (nI m) f = _
        simp (disch := omega) only [B_Model_led_4, i_10, h3, h4, e, i_lit, nI_ltI, nI_leI, nI_eq, nI_add, pk_mul, pk_sub, nI_clamp, if_pos, if_neg, if_true, if_false, Option.bind_some, true_or, or_true, false_or, or_false, or_self, not_true_eq_false, not_false_eq_true, i_m1lt, i_m1le, i_nlt1, i_nle1, i_ne1, i_1ne]
      simp only [eqd, e, decide_true, Bool.true_and]
      refine ⟨fun h j => ?_, fun h => ?_⟩
      · rw [show j + (d + 1 + 1) = j + (d + 1) + 1 by omega, s4]; exact i1 h j
      · obtain ⟨C, c1, c2⟩ := i2 h
        exact ⟨C + 1, by omega, fun j => by rw [show j + (C + 1) = j + C + 1 by omega, s4]; exact c2 j⟩
    · simp only [eqd, e, decide_false, Bool.false_and]
      refine ⟨fun h => (by cases h), fun _ => ⟨2, by omega, fun j => ?_⟩⟩
      have s4 : F_Model_led N f1 f2 f4 f5 f6 f7 (j + 2) 4 (nI q) (nI X) (nI 1) (nI k) (nI 1) (nI p) (nI m) f = F_Model_led N f1 f2 f4 f5 f6 f7 (j + 1) 4 (nI q) (nI X) (nI 1) (nI k) (nI 0) (nI (p + 1)) (nI m) f := by
        show B_Model_led_4 (F_Model_led N f1 f2 f4 f5 f6 f7 (j + 1)) N f1 f2 f4 f5 f6 f7 (nI q) (nI X) (nI 1) (nI k) (nI 1) (nI p) (nI m) f = _
        simp (disch := omega) only [B_Model_led_4, i_10, h3, h4, e, i_lit, nI_ltI, nI_leI, nI_eq, nI_add, pk_mul, pk_sub, nI_clamp, if_pos, if_neg, if_true, if_false, Option.bind_some, true_or, or_true, false_or, or_false, or_self, not_true_eq_false, not_false_eq_true, i_m1lt, i_m1le, i_nlt1, i_nle1, i_ne1, i_1ne]
      rw [s4]
      show B_Model_led_4 (F_Model_led N f1 f2 f4 f5 f6 f7 j) N f1 f2 f4 f5 f6 f7 (nI q) (nI X) (nI 1) (nI k) (nI 0) (nI (p + 1)) (nI m) f = _
      by_cases h55 : 55 ≤ p + 1
      · simp (disch := omega) only [B_Model_led_4, i_lit, nI_ltI, nI_leI, nI_eq, nI_add, pk_mul, pk_sub, nI_clamp, if_pos, if_neg, if_true, if_false, Option.bind_some, true_or, or_true, false_or, or_false, or_self, not_true_eq_false, not_false_eq_true, i_m1lt, i_m1le, i_nlt1, i_nle1, i_ne1, i_1ne]
      · simp (disch := omega) only [B_Model_led_4, i_lit, nI_ltI, nI_leI, nI_eq, nI_add, pk_mul, pk_sub, nI_clamp, if_pos, if_neg, if_true, if_false, Option.bind_some, true_or, or_true, false_or, or_false, or_self, not_true_eq_false, not_false_eq_true, i_m1lt, i_m1le, i_nlt1, i_nle1, i_ne1, i_1ne]
theorem m_fnd {N : Int32} {f1 f2 f4 f5 f6 f7 f : Nat → Int32} {q m X : Nat} (hm : m ≤ 40) {rows : Nat → Nat → Nat} {rn : Nat → Nat} (hw : ∀ s, s < m → wfb (rows s)) (hwn : wfb rn) (h1 : RS rows m f) (h2 : ∀ c, c < 55 → f (55 * m + c) = nI (rn c)) : ∀ d k, k + d = m →
    ∃ C, C ≤ 60 * d + 60 ∧ ∀ j, F_Model_led N f1 f2 f4 f5 f6 f7 (j + C) 3 (nI q) (nI X) (nI 1) (nI k) (nI 0) (nI 0) (nI m) f = match fnd rows rn d k with
      | some i => some (nI i, nI m, f)
      | none => some (nI m, nI (m + 1), f)
  | 0, k, hk => by
    refine ⟨1, by omega, fun j => ?_⟩
    show B_Model_led_3 (F_Model_led N f1 f2 f4 f5 f6 f7 j) N f1 f2 f4 f5 f6 f7 (nI q) (nI X) (nI 1) (nI k) (nI 0) (nI 0) (nI m) f = _
    have e1 : m + 1 - 1 = m := by omega
    simp (disch := omega) only [B_Model_led_3, fnd, e1, i_lit, nI_ltI, nI_leI, nI_eq, nI_add, pk_mul, pk_sub, nI_clamp, if_pos, if_neg, if_true, if_false, Option.bind_some, true_or, or_true, false_or, or_false, or_self, not_true_eq_false, not_false_eq_true, i_m1lt, i_m1le, i_nlt1, i_nle1, i_ne1, i_1ne]
  | d + 1, k, hk => by
    obtain ⟨i1, i2⟩ := m_same (N := N) (f1 := f1) (f2 := f2) (f4 := f4) (f5 := f5) (f6 := f6) (f7 := f7) (q := q) (X := X) hm (show k < m by omega) (hw k (by omega)) hwn (h1 k (by omega)) h2 55 0 (by omega)
    have s3 : ∀ j, F_Model_led N f1 f2 f4 f5 f6 f7 (j + 1) 3 (nI q) (nI X) (nI 1) (nI k) (nI 0) (nI 0) (nI m) f = F_Model_led N f1 f2 f4 f5 f6 f7 j 4 (nI q) (nI X) (nI 1) (nI k) (nI 1) (nI 0) (nI m) f := by
      intro j
      show B_Model_led_3 (F_Model_led N f1 f2 f4 f5 f6 f7 j) N f1 f2 f4 f5 f6 f7 (nI q) (nI X) (nI 1) (nI k) (nI 0) (nI 0) (nI m) f = _
      simp (disch := omega) only [B_Model_led_3, i_lit, nI_ltI, nI_leI, nI_eq, nI_add, pk_mul, pk_sub, nI_clamp, if_pos, if_neg, if_true, if_false, Option.bind_some, true_or, or_true, false_or, or_false, or_self, not_true_eq_false, not_false_eq_true, i_m1lt, i_m1le, i_nlt1, i_nle1, i_ne1, i_1ne]
    cases e : eqd (rows k) rn 55 0 with
    | true =>
      refine ⟨57, by omega, fun j => ?_⟩
      rw [show j + 57 = j + (55 + 1) + 1 by omega, s3, i1 e j]
      simp only [fnd, e, if_true]
    | false =>
      obtain ⟨C1, c1, c2⟩ := i2 e
      obtain ⟨C2, d1, d2⟩ := m_fnd (N := N) (f1 := f1) (f2 := f2) (f4 := f4) (f5 := f5) (f6 := f6) (f7 := f7) (q := q) (X := X) hm hw hwn h1 h2 d (k + 1) (by omega)
      refine ⟨C2 + C1 + 1, by omega, fun j => ?_⟩
      rw [show j + (C2 + C1 + 1) = j + C2 + C1 + 1 by omega, s3, c2, d2]
      simp only [fnd, e, Bool.false_eq_true, if_false]
theorem m_ent (hn : n ≤ 10) {f1 f2 f4 f5 f6 f7 f : Nat → Int32} (hb : wfb b) (hf : RF b f1 f2) (hl : GLm n lf f4) (hs : GSm 11 ln sy f6 f5) (hu : RB n us f7) (hus : ∀ r, r < 10 → us r = true → r < n) {q m X : Nat} (hq : q < m) (hm : m ≤ 40) (hX : X < 12) {rows : Nat → Nat → Nat} (hw : ∀ s, s < m → wfb (rows s)) (h1 : RS rows m f) :
    ((mov ln sy (rows q) X).1 = false → ∃ f', S_Model_led (nI q) (nI X) (nI n) (nI m) f1 f2 f f4 f5 f6 f7 = some (-nI 1, nI m, f') ∧ RS rows m f') ∧
    ((mov ln sy (rows q) X).1 = true → ∃ f', RW m (clo lf ln sy us b (mov ln sy (rows q) X).2) f f' ∧ S_Model_led (nI q) (nI X) (nI n) (nI m) f1 f2 f f4 f5 f6 f7 = match fnd rows (clo lf ln sy us b (mov ln sy (rows q) X).2) m 0 with
      | some i => some (nI i, nI m, f')
      | none => some (nI m, nI (m + 1), f')) := by
  obtain ⟨fa, b1, b2⟩ := m_mv1 (N := nI n) (f1 := f1) (f2 := f2) (f4 := f4) (f7 := f7) hs hq hm hX (hw q hq) (f0 := fl f (fun _ => nI 0) (55 * m) 55) (fun c hc => by rw [fl_out (by omega)]; exact h1 q hq c hc) 11 0 (false, fun _ => 0) (fl f (fun _ => nI 0) (55 * m) 55) (by omega) ⟨fun c hc => fl_in (by omega) (by omega), fun j _ => rfl⟩
  have c2 : RW m (mov ln sy (rows q) X).2 f fa := ⟨b1.1, fun j hj => by rw [b1.2 j hj, fl_out (by omega)]⟩
  obtain ⟨k, hk⟩ := fuelled (k := 5000) (by omega)
  have st : ∀ j, 123 ≤ j → S_Model_led (nI q) (nI X) (nI n) (nI m) f1 f2 f f4 f5 f6 f7 = F_Model_led (nI n) f1 f2 f4 f5 f6 f7 fuel_ 0 (nI q) (nI X) (nI 0) (nI 0) (nI 0) (nI 0) (nI m) (fl f (fun _ => nI 0) (55 * m) 0) := by
    intro j _
    rw [fl_0]; rfl
  have pre : S_Model_led (nI q) (nI X) (nI n) (nI m) f1 f2 f f4 f5 f6 f7 = F_Model_led (nI n) f1 f2 f4 f5 f6 f7 (k + 4878) 1 (nI q) (nI X) (bI (mov ln sy (rows q) X).1) (nI 11) (nI 0) (nI 0) (nI m) fa := by
    rw [st 200 (by omega), hk, show k + 5000 = (k + 4878 + 6 * 11) + (55 + 1) by omega, m_clr hm 55 0 _ (by omega)]
    exact b2 (k + 4878)
  constructor
  · intro hc
    rw [hc, bI_f] at pre
    refine ⟨fa, ?_, RS_RW h1 c2⟩
    rw [pre]
    show B_Model_led_1 (F_Model_led (nI n) f1 f2 f4 f5 f6 f7 (k + 4877)) (nI n) f1 f2 f4 f5 f6 f7 (nI q) (nI X) (nI 0) (nI 11) (nI 0) (nI 0) (nI m) fa = _
    simp (disch := omega) only [B_Model_led_1, i_lit, nI_ltI, nI_leI, nI_eq, nI_add, pk_mul, pk_sub, nI_clamp, if_pos, if_neg, if_true, if_false, Option.bind_some, true_or, or_true, false_or, or_false, or_self, not_true_eq_false, not_false_eq_true, i_m1lt, i_m1le, i_nlt1, i_nle1, i_ne1, i_1ne]
  · intro hc
    rw [hc, bI_t] at pre
    have hw2 := mov_w (ln := ln) (sy := sy) (X := X) (hw q hq)
    obtain ⟨f', d1, d2⟩ := m_clo hn hb hf hl hs hu hus hm hw2 ⟨c2.1, fun j _ => rfl⟩
    have d3 : RW m (clo lf ln sy us b (mov ln sy (rows q) X).2) f f' := ⟨d2.1, fun j hj => by rw [d2.2 j hj, c2.2 j hj]⟩
    refine ⟨f', d3, ?_⟩
    obtain ⟨C, e1, e2⟩ := m_fnd (N := nI n) (f1 := f1) (f2 := f2) (f4 := f4) (f5 := f5) (f6 := f6) (f7 := f7) (q := q) (X := X) hm hw (clo_fix hb hw2).1 (RS_RW h1 d3) d3.1 m 0 (by omega)
    rw [pre, ← e2 (k + 4877 - C)]
    have e3 : k + 4877 - C + C = k + 4877 := by omega
    rw [e3]
    show B_Model_led_1 (F_Model_led (nI n) f1 f2 f4 f5 f6 f7 (k + 4877)) (nI n) f1 f2 f4 f5 f6 f7 (nI q) (nI X) (nI 1) (nI 11) (nI 0) (nI 0) (nI m) fa = _
    simp (disch := omega) only [B_Model_led_1, i_10, d1, i_lit, nI_ltI, nI_leI, nI_eq, nI_add, pk_mul, pk_sub, nI_clamp, if_pos, if_neg, if_true, if_false, Option.bind_some, true_or, or_true, false_or, or_false, or_self, not_true_eq_false, not_false_eq_true, i_m1lt, i_m1le, i_nlt1, i_nle1, i_ne1, i_1ne]
end
