/-! prepare, of both -/
section
variable {n : Nat} {lf ln : Nat → Nat} {sy : Nat → Nat → Nat}
theorem c_fu (hn : n ≤ 10) {f1 f2 f3 f4 f5 : Nat → Int32} (hl : GL n lf f2) (hs : GS n ln sy f3 f4) :
    ∃ f1' f5', S_Grammar_findUsed (nI n) f1 f2 f3 f4 f5 = some (f1', f5') ∧ RB 6 (lim (cuR n lf ln sy) 11 (fun _ => false, fun _ => false)).1 f1' ∧ RB 12 (lim (cuR n lf ln sy) 11 (fun _ => false, fun _ => false)).2 f5' := by
  obtain ⟨f1', f5', b1, b2, b3⟩ := c_fu2 hn hl hs 11 0 (fun _ => false, fun _ => false) (fl f1 (fun _ => nI 0) 0 6) (fl f5 (fun _ => nI 0) 0 12) (by omega) (fun r hr => fl_in (by omega) (by omega)) (fun r hr => fl_in (by omega) (by omega))
  refine ⟨f1', f5', ?_, b1, b2⟩
  have k0 : ∀ d i m, i + d = 6 → F_Grammar_findUsed (nI n) f2 f3 f4 (m + (d + 1)) 0 (nI i) (nI 0) (nI 0) (fl f1 (fun _ => nI 0) 0 i) f5 = F_Grammar_findUsed (nI n) f2 f3 f4 m 1 (nI 0) (nI 0) (nI 0) (fl f1 (fun _ => nI 0) 0 6) f5 := by
    intro d
    induction d with
    | zero =>
      intro i m hi
      have : i = 6 := by omega
      subst this
      show B_Grammar_findUsed_0 (F_Grammar_findUsed (nI n) f2 f3 f4 m) (nI n) f2 f3 f4 (nI 6) (nI 0) (nI 0) (fl f1 (fun _ => nI 0) 0 6) f5 = _
      simp (disch := omega) only [B_Grammar_findUsed_0, i_lit, nI_ltI, nI_leI, nI_eq, nI_add, pk_mul, pk_sub, nI_clamp, if_pos, if_neg, if_true, if_false, Option.bind_some, true_or, or_true, false_or, or_false, or_self, not_true_eq_false, not_false_eq_true, i_m1lt, i_m1le, i_nlt1, i_nle1, i_ne1, i_1ne]
    | succ d ih =>
      intro i m hi
      rw [← ih (i + 1) m (by omega)]
      have hu := fl_up f1 (fun _ => nI 0) 0 i
      rw [Nat.zero_add] at hu
      show B_Grammar_findUsed_0 (F_Grammar_findUsed (nI n) f2 f3 f4 (m + (d + 1))) (nI n) f2 f3 f4 (nI i) (nI 0) (nI 0) (fl f1 (fun _ => nI 0) 0 i) f5 = _
      simp (disch := omega) only [B_Grammar_findUsed_0, i_nb0, hu, i_lit, nI_ltI, nI_leI, nI_eq, nI_add, pk_mul, pk_sub, nI_clamp, if_pos, if_neg, if_true, if_false, Option.bind_some, true_or, or_true, false_or, or_false, or_self, not_true_eq_false, not_false_eq_true, i_m1lt, i_m1le, i_nlt1, i_nle1, i_ne1, i_1ne]
  have k1 : ∀ d i m, i + d = 12 → F_Grammar_findUsed (nI n) f2 f3 f4 (m + (d + 1)) 1 (nI i) (nI 0) (nI 0) (fl f1 (fun _ => nI 0) 0 6) (fl f5 (fun _ => nI 0) 0 i) = F_Grammar_findUsed (nI n) f2 f3 f4 m 2 (nI 1) (nI 0) (nI 0) (fl f1 (fun _ => nI 0) 0 6) (fl f5 (fun _ => nI 0) 0 12) := by
    intro d
    induction d with
    | zero =>
      intro i m hi
      have : i = 12 := by omega
      subst this
      show B_Grammar_findUsed_1 (F_Grammar_findUsed (nI n) f2 f3 f4 m) (nI n) f2 f3 f4 (nI 12) (nI 0) (nI 0) (fl f1 (fun _ => nI 0) 0 6) (fl f5 (fun _ => nI 0) 0 12) = _
      simp (disch := omega) only [B_Grammar_findUsed_1, i_lit, nI_ltI, nI_leI, nI_eq, nI_add, pk_mul, pk_sub, nI_clamp, if_pos, if_neg, if_true, if_false, Option.bind_some, true_or, or_true, false_or, or_false, or_self, not_true_eq_false, not_false_eq_true, i_m1lt, i_m1le, i_nlt1, i_nle1, i_ne1, i_1ne]
    | succ d ih =>
      intro i m hi
      rw [← ih (i + 1) m (by omega)]
      have hu := fl_up f5 (fun _ => nI 0) 0 i
      rw [Nat.zero_add] at hu
      show B_Grammar_findUsed_1 (F_Grammar_findUsed (nI n) f2 f3 f4 (m + (d + 1))) (nI n) f2 f3 f4 (nI i) (nI 0) (nI 0) (fl f1 (fun _ => nI 0) 0 6) (fl f5 (fun _ => nI 0) 0 i) = _
      simp (disch := omega) only [B_Grammar_findUsed_1, i_nb0, hu, i_lit, nI_ltI, nI_leI, nI_eq, nI_add, pk_mul, pk_sub, nI_clamp, if_pos, if_neg, if_true, if_false, Option.bind_some, true_or, or_true, false_or, or_false, or_self, not_true_eq_false, not_false_eq_true, i_m1lt, i_m1le, i_nlt1, i_nle1, i_ne1, i_1ne]
  obtain ⟨m, hm⟩ := fuelled (k := 11 * (n + 2) + 1 + 13 + 7) (by omega)
  have h0 := k0 6 0 (m + (11 * (n + 2) + 1) + 13) (by omega)
  have h1 := k1 12 0 (m + (11 * (n + 2) + 1)) (by omega)
  rw [fl_0] at h0 h1
  rw [S_Grammar_findUsed, hm, show m + (11 * (n + 2) + 1 + 13 + 7) = m + (11 * (n + 2) + 1) + 13 + (6 + 1) by omega]
  refine h0.trans ?_
  rw [show m + (11 * (n + 2) + 1) + 13 = m + (11 * (n + 2) + 1) + (12 + 1) by omega, h1]
  exact b3 m
theorem c_ff {us : Nat → Bool} (hn : n ≤ 10) {f1 f2 f3 f4 f5 : Nat → Int32} (hl : GL n lf f2) (hs : GS n ln sy f3 f4) (hu : RB n us f5) :
    ∃ f1', S_Grammar_findFirsts (nI n) f1 f2 f3 f4 f5 = some f1' ∧ ∀ x, x < 6 → f1' x = nI (lim (fiR n lf ln sy us) 43 (fun _ => 0) x) := by
  obtain ⟨f1', b1, b3⟩ := c_ff1 hn hl hs hu 43 0 (fun _ => 0) (fl f1 (fun _ => nI 0) 0 6) (by omega) (fun x => (by decide : (0 : Nat) < 128)) (fun x hx => fl_in (by omega) (by omega))
  refine ⟨f1', ?_, b1⟩
  have k0 : ∀ d i m, i + d = 6 → F_Grammar_findFirsts (nI n) f2 f3 f4 f5 (m + (d + 1)) 0 (nI i) (nI 0) (nI 0) (fl f1 (fun _ => nI 0) 0 i) = F_Grammar_findFirsts (nI n) f2 f3 f4 f5 m 1 (nI 1) (nI 0) (nI 0) (fl f1 (fun _ => nI 0) 0 6) := by
    intro d
    induction d with
    | zero =>
      intro i m hi
      have : i = 6 := by omega
      subst this
      show B_Grammar_findFirsts_0 (F_Grammar_findFirsts (nI n) f2 f3 f4 f5 m) (nI n) f2 f3 f4 f5 (nI 6) (nI 0) (nI 0) (fl f1 (fun _ => nI 0) 0 6) = _
      simp (disch := omega) only [B_Grammar_findFirsts_0, i_lit, nI_ltI, nI_leI, nI_eq, nI_add, pk_mul, pk_sub, nI_clamp, if_pos, if_neg, if_true, if_false, Option.bind_some, true_or, or_true, false_or, or_false, or_self, not_true_eq_false, not_false_eq_true, i_m1lt, i_m1le, i_nlt1, i_nle1, i_ne1, i_1ne]
    | succ d ih =>
      intro i m hi
      rw [← ih (i + 1) m (by omega)]
      have hu := fl_up f1 (fun _ => nI 0) 0 i
      rw [Nat.zero_add] at hu
      show B_Grammar_findFirsts_0 (F_Grammar_findFirsts (nI n) f2 f3 f4 f5 (m + (d + 1))) (nI n) f2 f3 f4 f5 (nI i) (nI 0) (nI 0) (fl f1 (fun _ => nI 0) 0 i) = _
      simp (disch := omega) only [B_Grammar_findFirsts_0, hu, i_lit, nI_ltI, nI_leI, nI_eq, nI_add, pk_mul, pk_sub, nI_clamp, if_pos, if_neg, if_true, if_false, Option.bind_some, true_or, or_true, false_or, or_false, or_self, not_true_eq_false, not_false_eq_true, i_m1lt, i_m1le, i_nlt1, i_nle1, i_ne1, i_1ne]
  obtain ⟨m, hm⟩ := fuelled (k := 43 * (n + 2) + 1 + 7) (by omega)
  have h0 := k0 6 0 (m + (43 * (n + 2) + 1)) (by omega)
  rw [fl_0] at h0
  rw [S_Grammar_findFirsts, hm, show m + (43 * (n + 2) + 1 + 7) = m + (43 * (n + 2) + 1) + (6 + 1) by omega]
  exact h0.trans (b3 m)
theorem m_prep (hn : n ≤ 10) {f1 f2 f3 f4 f5 f6 f7 : Nat → Int32} (hl : GLm n lf f4) (hs : GSm n ln sy f6 f5) :
    ∃ f1' f2' f3' f7', S_Model_prepare (nI n) f1 f2 f3 f4 f5 f6 f7 = some (f1', f2', f3', f7') ∧ ∃ fr : Nat → Bool, RB 6 fr f1' ∧ (∀ x, fr x = true ↔ Fr n lf ln sy x) ∧ RB n (fun r => hfd sy fr r (ln r) 0) f7' ∧ ∀ us : Nat → Bool, (∀ r, r < n → us r = hfd sy fr r (ln r) 0) → RF (lim (fiR n lf ln sy us) 43 (fun _ => 0)) f2' f3' := by
  have hj : muJ n lf ln sy (fun _ => false) := ⟨fun r hr => (hl r hr).1, fun x hx => by cases hx⟩
  obtain ⟨C1, f1', f7', a0, a1, a2, a3⟩ := m_pr1 hn hl hs (f2 := fl f2 (fun _ => nI 0) 0 6) (f3 := fl f3 (fun _ => nI 0) 0 6) 7 (fun _ => false) (fl f1 (fun _ => nI 0) 0 6) f7 hj (by omega) (fun r hr => fl_in (by omega) (by omega))
  have hfr := mu_end 7 (fun _ => false) (by omega) hj
  have hRF : ∀ us : Nat → Bool, (∀ r, r < n → us r = hfd sy (lim (muR n lf ln sy) 7 (fun _ => false)) r (ln r) 0) → ∃ C f2' f3', C ≤ 3000 ∧ RF (lim (fiR n lf ln sy us) 43 (fun _ => 0)) f2' f3' ∧ ∀ m, F_Model_prepare (nI n) f4 f5 f6 (m + C) 4 (nI 1) (nI 0) (nI 0) (nI 0) (nI 0) (nI 0) f1' (fl f2 (fun _ => nI 0) 0 6) (fl f3 (fun _ => nI 0) 0 6) f7' = some (f1', f2', f3', f7') := by
    intro us hus
    obtain ⟨C, f2', f3', b0, b1, b2⟩ := m_f4 (us := us) hn hl hs (f7 := f7') (fun r hr => by rw [hus r hr]; exact a2 r hr) (f1 := f1') 43 (fun _ => 0) (fl f2 (fun _ => nI 0) 0 6) (fl f3 (fun _ => nI 0) 0 6) (fun x => (by decide : (0 : Nat) < 128)) (by omega) (fun x hx => ⟨by rw [fl_in (by omega) (by omega)]; show nI 0 = bI (Nat.testBit 0 6); rw [Nat.zero_testBit]; rfl, by rw [fl_in (by omega) (by omega)]; rfl⟩)
    exact ⟨C, f2', f3', by omega, b1, b2⟩
  obtain ⟨C2, f2', f3', b0, -, b2⟩ := hRF (fun r => hfd sy (lim (muR n lf ln sy) 7 (fun _ => false)) r (ln r) 0) (fun r hr => rfl)
  have k0 : ∀ d i m, i + d = 6 → F_Model_prepare (nI n) f4 f5 f6 (m + (d + 1)) 0 (nI i) (nI 0) (nI 0) (nI 0) (nI 0) (nI 0) (fl f1 (fun _ => nI 0) 0 i) (fl f2 (fun _ => nI 0) 0 i) (fl f3 (fun _ => nI 0) 0 i) f7 = F_Model_prepare (nI n) f4 f5 f6 m 1 (nI 1) (nI 0) (nI 0) (nI 0) (nI 0) (nI 0) (fl f1 (fun _ => nI 0) 0 6) (fl f2 (fun _ => nI 0) 0 6) (fl f3 (fun _ => nI 0) 0 6) f7 := by
    intro d
    induction d with
    | zero =>
      intro i m hi
      have : i = 6 := by omega
      subst this
      show B_Model_prepare_0 (F_Model_prepare (nI n) f4 f5 f6 m) (nI n) f4 f5 f6 (nI 6) (nI 0) (nI 0) (nI 0) (nI 0) (nI 0) (fl f1 (fun _ => nI 0) 0 6) (fl f2 (fun _ => nI 0) 0 6) (fl f3 (fun _ => nI 0) 0 6) f7 = _
      simp (disch := omega) only [B_Model_prepare_0, i_lit, nI_ltI, nI_leI, nI_eq, nI_add, pk_mul, pk_sub, nI_clamp, if_pos, if_neg, if_true, if_false, Option.bind_some, true_or, or_true, false_or, or_false, or_self, not_true_eq_false, not_false_eq_true, i_m1lt, i_m1le, i_nlt1, i_nle1, i_ne1, i_1ne]
    | succ d ih =>
      intro i m hi
      rw [← ih (i + 1) m (by omega)]
      have hu1 := fl_up f1 (fun _ => nI 0) 0 i
      have hu2 := fl_up f2 (fun _ => nI 0) 0 i
      have hu3 := fl_up f3 (fun _ => nI 0) 0 i
      rw [Nat.zero_add] at hu1 hu2 hu3
      show B_Model_prepare_0 (F_Model_prepare (nI n) f4 f5 f6 (m + (d + 1))) (nI n) f4 f5 f6 (nI i) (nI 0) (nI 0) (nI 0) (nI 0) (nI 0) (fl f1 (fun _ => nI 0) 0 i) (fl f2 (fun _ => nI 0) 0 i) (fl f3 (fun _ => nI 0) 0 i) f7 = _
      simp (disch := omega) only [B_Model_prepare_0, i_nb0, hu1, hu2, hu3, i_lit, nI_ltI, nI_leI, nI_eq, nI_add, pk_mul, pk_sub, nI_clamp, if_pos, if_neg, if_true, if_false, Option.bind_some, true_or, or_true, false_or, or_false, or_self, not_true_eq_false, not_false_eq_true, i_m1lt, i_m1le, i_nlt1, i_nle1, i_ne1, i_1ne]
  obtain ⟨m, hm⟩ := fuelled (k := C2 + C1 + 7) (by omega)
  have h0 := k0 6 0 (m + C2 + C1) (by omega)
  rw [fl_0, fl_0, fl_0] at h0
  have hS : S_Model_prepare (nI n) f1 f2 f3 f4 f5 f6 f7 = some (f1', f2', f3', f7') := by
    rw [S_Model_prepare, hm, show m + (C2 + C1 + 7) = m + C2 + C1 + (6 + 1) by omega]
    exact h0.trans ((a3 (m + C2)).trans (b2 m))
  refine ⟨f1', f2', f3', f7', hS, lim (muR n lf ln sy) 7 (fun _ => false), a1, hfr, a2, fun us hus => ?_⟩
  obtain ⟨C3, f2'', f3'', c0, c1, c2⟩ := hRF us hus
  have e1 := b2 C3
  have e2 := c2 C2
  rw [Nat.add_comm C2 C3, e1] at e2
  cases e2
  exact c1
end
