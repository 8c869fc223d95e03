theorem upd_upd (f : Nat → Int32) (j : Nat) (a b : Int32) : upd (upd f j a) j b = upd f j b := by
  funext i
  by_cases e : i = j
  · subst e; rw [pk_us, pk_us]
  · rw [pk_un e, pk_un e, pk_un e]
section
variable {n : Nat} {lf ln : Nat → Nat} {sy : Nat → Nat → Nat}
def muS (lf ln : Nat → Nat) (sy : Nat → Nat → Nat) (r : Nat) (a : Bool × (Nat → Bool)) : Bool × (Nat → Bool) :=
  if a.2 (lf r) = false ∧ hfd sy a.2 r (ln r) 0 = true then (true, upB a.2 (lf r)) else a
def muR (n : Nat) (lf ln : Nat → Nat) (sy : Nat → Nat → Nat) (a : Nat → Bool) : Bool × (Nat → Bool) := fold (muS lf ln sy) n 0 (false, a)
def muJ (n : Nat) (lf ln : Nat → Nat) (sy : Nat → Nat → Nat) (a : Nat → Bool) : Prop := (∀ r, r < n → lf r < 6) ∧ ∀ x, a x = true → Fr n lf ln sy x
theorem muS_J : ∀ r (a : Bool × (Nat → Bool)), r < n → muJ n lf ln sy a.2 → muJ n lf ln sy (muS lf ln sy r a).2 ∧ (muS lf ln sy r a = a ∨ (muS lf ln sy r a).1 = true ∧ cnt a.2 6 < cnt (muS lf ln sy r a).2 6) := by
  intro r a hr hj
  by_cases e : a.2 (lf r) = false ∧ hfd sy a.2 r (ln r) 0 = true
  · have hS : muS lf ln sy r a = (true, upB a.2 (lf r)) := by simp only [muS]; rw [if_pos e]
    rw [hS]
    refine ⟨⟨hj.1, fun x hx => ?_⟩, Or.inr ⟨rfl, ?_⟩⟩
    · by_cases e1 : x = lf r
      · rw [e1]
        exact Fr_c hr (fun k hk => (hfd_0.mp e.2 k hk).imp id (hj.2 _))
      · exact hj.2 x (by rw [← upB_n a.2 e1]; exact hx)
    · show cnt a.2 6 < cnt (upB a.2 (lf r)) 6
      rw [cnt_up a.2 e.1 6 (hj.1 r hr)]; omega
  · have hS : muS lf ln sy r a = a := by simp only [muS]; rw [if_neg e]
    rw [hS]; exact ⟨hj, Or.inl rfl⟩
theorem mu_end : ∀ K a, 6 < cnt a 6 + K → muJ n lf ln sy a → ∀ x, lim (muR n lf ln sy) K a x = true ↔ Fr n lf ln sy x := by
  intro K a hK hj
  have hR : ∀ a, muJ n lf ln sy a → muJ n lf ln sy (muR n lf ln sy a).2 := fun a h => (fold_mu (N := n) (μ := fun a => cnt a 6) (muS_J (n := n)) n 0 (false, a) (by omega) h).1
  have hf := lim_fix (R := muR n lf ln sy) (μ := fun a => cnt a 6) (M := 6) (J := muJ n lf ln sy) hR
    (fun a h h1 => by
      rcases (fold_mu (N := n) (μ := fun a => cnt a 6) (muS_J (n := n)) n 0 (false, a) (by omega) h).2 with h2 | ⟨h2, -⟩
      · show (fold _ n 0 (false, a)).2 = a; rw [h2]
      · have h1' : (fold (muS lf ln sy) n 0 (false, a)).1 = false := h1
        rw [h1'] at h2; cases h2)
    (fun a h h1 => by
      rcases (fold_mu (N := n) (μ := fun a => cnt a 6) (muS_J (n := n)) n 0 (false, a) (by omega) h).2 with h2 | ⟨-, h2⟩
      · have h1' : (fold (muS lf ln sy) n 0 (false, a)).1 = true := h1
        rw [h2] at h1'; cases h1'
      · exact h2)
    (fun a h => cnt_le a 6) K a hj hK
  have hj' := lim_ind (R := muR n lf ln sy) hR K a hj
  refine fun x => ⟨hj'.2 x, fun hx => ?_⟩
  generalize lim (muR n lf ln sy) K a = b at *
  refine hx (fun x => b x = true) (fun r hr h => ?_)
  have := fold_id (N := n) (μ := fun a => cnt a 6) (muS_J (n := n)) n 0 (false, b) (by omega) hj' hf r (by omega) (by omega)
  have hh := hfd_0.mpr h
  apply Classical.byContradiction
  intro e
  have e' : b (lf r) = false := by cases h2 : b (lf r) <;> simp_all
  simp only [muS] at this
  rw [if_pos ⟨e', hh⟩] at this
  have := congrArg Prod.fst this
  cases this
theorem m_pr3 (hn : n ≤ 10) {f4 f5 f6 : Nat → Int32} (hs : GSm n ln sy f6 f5) {fr : Nat → Bool} {f1 f2 f3 : Nat → Int32} (hf : RB 6 fr f1) {r : Nat} (hr : r < n) (l1 : Int32) : ∀ d p c f7, p + d = ln r → f7 r = bI c →
    ∀ m, F_Model_prepare (nI n) f4 f5 f6 (m + d) 3 l1 (nI r) (nI (4 * r + p)) (nI 0) (nI 0) (nI 0) f1 f2 f3 f7 = F_Model_prepare (nI n) f4 f5 f6 m 3 l1 (nI r) (nI (4 * r + ln r)) (nI 0) (nI 0) (nI 0) f1 f2 f3 (upd f7 r (bI (c && hfd sy fr r d p)))
  | 0, p, c, f7, hp, hc, m => by
    rw [show p = ln r by omega, upd_self f7 r (by rw [hc, hfd, Bool.and_true])]
    rfl
  | d + 1, p, c, f7, hp, hc, m => by
    obtain ⟨h1, h2, h3⟩ := hs r hr
    obtain ⟨h4, h5⟩ := h3 p (by omega)
    show B_Model_prepare_3 (F_Model_prepare (nI n) f4 f5 f6 (m + d)) (nI n) f4 f5 f6 l1 (nI r) (nI (4 * r + p)) (nI 0) (nI 0) (nI 0) f1 f2 f3 f7 = _
    have e1 : 4 * r + p + 1 = 4 * r + (p + 1) := by omega
    cases c with
    | false =>
      rw [bI_f] at hc
      have ih := m_pr3 hn (f4 := f4) (f2 := f2) (f3 := f3) hs hf hr l1 d (p + 1) false (upd f7 r (nI 0)) (by omega) pk_us m
      rw [upd_upd] at ih
      simp (disch := omega) only [B_Model_prepare_3, h2, hc, i_nb0, e1, i_lit, nI_ltI, nI_leI, nI_eq, nI_add, pk_mul, pk_sub, nI_clamp, if_pos, if_neg, if_true, if_false, Option.bind_some, true_or, or_true, false_or, or_false, or_self, not_true_eq_false, not_false_eq_true, i_m1lt, i_m1le, i_nlt1, i_nle1, i_ne1, i_1ne]
      exact ih
    | true =>
      rw [bI_t] at hc
      by_cases h6 : sy r p < 6
      · have ih := m_pr3 hn (f4 := f4) (f2 := f2) (f3 := f3) hs hf hr l1 d (p + 1) true (upd f7 r (nI 1)) (by omega) pk_us m
        rw [upd_upd] at ih
        simp (disch := omega) only [B_Model_prepare_3, h2, hc, i_nb1, i_10, e1, h5, hfd, decide_eq_true h6, Bool.true_or, Bool.true_and, i_lit, nI_ltI, nI_leI, nI_eq, nI_add, pk_mul, pk_sub, nI_clamp, if_pos, if_neg, if_true, if_false, Option.bind_some, true_or, or_true, false_or, or_false, or_self, not_true_eq_false, not_false_eq_true, i_m1lt, i_m1le, i_nlt1, i_nle1, i_ne1, i_1ne]
        rw [Bool.true_and] at ih
        exact ih
      · have h7 := hf (sy r p - 6) (by omega)
        cases h8 : fr (sy r p - 6) with
        | true =>
          rw [h8, bI_t] at h7
          have ih := m_pr3 hn (f4 := f4) (f2 := f2) (f3 := f3) hs hf hr l1 d (p + 1) true (upd f7 r (nI 1)) (by omega) pk_us m
          rw [upd_upd, Bool.true_and] at ih
          simp (disch := omega) only [B_Model_prepare_3, h2, hc, i_nb1, i_10, e1, h5, h7, hfd, h8, Bool.or_true, Bool.true_and, i_lit, nI_ltI, nI_leI, nI_eq, nI_add, pk_mul, pk_sub, nI_clamp, if_pos, if_neg, if_true, if_false, Option.bind_some, true_or, or_true, false_or, or_false, or_self, not_true_eq_false, not_false_eq_true, i_m1lt, i_m1le, i_nlt1, i_nle1, i_ne1, i_1ne]
          exact ih
        | false =>
          rw [h8, bI_f] at h7
          have ih := m_pr3 hn (f4 := f4) (f2 := f2) (f3 := f3) hs hf hr l1 d (p + 1) false (upd f7 r (nI 0)) (by omega) pk_us m
          rw [upd_upd, Bool.false_and] at ih
          simp (disch := omega) only [B_Model_prepare_3, h2, hc, i_nb0, i_10, e1, h5, h7, hfd, h8, decide_eq_false h6, Bool.or_self, Bool.false_and, Bool.and_false, i_lit, nI_ltI, nI_leI, nI_eq, nI_add, pk_mul, pk_sub, nI_clamp, if_pos, if_neg, if_true, if_false, Option.bind_some, true_or, or_true, false_or, or_false, or_self, not_true_eq_false, not_false_eq_true, i_m1lt, i_m1le, i_nlt1, i_nle1, i_ne1, i_1ne]
          exact ih
theorem m_pr2 (hn : n ≤ 10) {f4 f5 f6 : Nat → Int32} (hl : GLm n lf f4) (hs : GSm n ln sy f6 f5) {f2 f3 : Nat → Int32} : ∀ d r a f1 f7, r + d = n → muJ n lf ln sy a.2 → RB 6 a.2 f1 →
    ∃ C f1' f7', C ≤ 6 * d ∧ RB 6 (fold (muS lf ln sy) d r a).2 f1' ∧ (∀ i, i < r → f7' i = f7 i) ∧ ((fold (muS lf ln sy) d r a).1 = false → ∀ i, r ≤ i → i < n → f7' i = bI (hfd sy a.2 i (ln i) 0)) ∧
      ∀ m, F_Model_prepare (nI n) f4 f5 f6 (m + C) 2 (bI a.1) (nI r) (nI 0) (nI 0) (nI 0) (nI 0) f1 f2 f3 f7 = F_Model_prepare (nI n) f4 f5 f6 m 2 (bI (fold (muS lf ln sy) d r a).1) (nI n) (nI 0) (nI 0) (nI 0) (nI 0) f1' f2 f3 f7'
  | 0, r, a, f1, f7, hr, hj, h1 => by
    have : r = n := by omega
    subst this
    exact ⟨0, f1, f7, by omega, h1, fun _ _ => rfl, fun _ i h2 h3 => absurd h3 (by omega), fun m => rfl⟩
  | d + 1, r, a, f1, f7, hr, hj, h1 => by
    obtain ⟨hl1, hl2⟩ := hl r (by omega)
    obtain ⟨hs1, hs2, hs3⟩ := hs r (by omega)
    have hJ := muS_J (n := n) r a (by omega) hj
    have hfl := (fold_mu (N := n) (μ := fun a => cnt a 6) (muS_J (n := n)) d (r + 1) (muS lf ln sy r a) (by omega) hJ.1).2
    have s0 : ∀ m, F_Model_prepare (nI n) f4 f5 f6 (m + 1 + ln r + 1) 2 (bI a.1) (nI r) (nI 0) (nI 0) (nI 0) (nI 0) f1 f2 f3 f7 = F_Model_prepare (nI n) f4 f5 f6 (m + 1) 3 (bI a.1) (nI r) (nI (4 * r + ln r)) (nI 0) (nI 0) (nI 0) f1 f2 f3 (upd f7 r (bI (hfd sy a.2 r (ln r) 0))) := by
      intro m
      have := m_pr3 hn (f4 := f4) hs (f2 := f2) (f3 := f3) h1 (show r < n by omega) (bI a.1) (ln r) 0 true (upd f7 r (nI 1)) (by omega) pk_us (m + 1)
      rw [upd_upd, Bool.true_and] at this
      rw [← this]
      show B_Model_prepare_2 (F_Model_prepare (nI n) f4 f5 f6 (m + 1 + ln r)) (nI n) f4 f5 f6 (bI a.1) (nI r) (nI 0) (nI 0) (nI 0) (nI 0) f1 f2 f3 f7 = _
      simp (disch := omega) only [B_Model_prepare_2, i_nb1, Nat.add_zero, i_lit, nI_ltI, nI_leI, nI_eq, nI_add, pk_mul, pk_sub, nI_clamp, if_pos, if_neg, if_true, if_false, Option.bind_some, true_or, or_true, false_or, or_false, or_self, not_true_eq_false, not_false_eq_true, i_m1lt, i_m1le, i_nlt1, i_nle1, i_ne1, i_1ne]
    have hlr := h1 (lf r) hl1
    have hu : ∀ v, upd f7 r v r = v := fun v => pk_us
    by_cases e : a.2 (lf r) = false ∧ hfd sy a.2 r (ln r) 0 = true
    · have hS : muS lf ln sy r a = (true, upB a.2 (lf r)) := by simp only [muS]; rw [if_pos e]
      obtain ⟨C, f1', f7', b0, b1, b2, b3, b4⟩ := m_pr2 hn hl hs (f2 := f2) (f3 := f3) d (r + 1) (muS lf ln sy r a) (upd f1 (lf r) (nI 1)) (upd f7 r (nI 1)) (by omega) hJ.1 (by rw [hS]; exact RB_up h1 _)
      refine ⟨C + (ln r + 2), f1', f7', by omega, b1, fun i hi => by rw [b2 i (by omega), pk_un (by omega)], fun hf => ?_, fun m => ?_⟩
      · have hf' : (fold (muS lf ln sy) d (r + 1) (muS lf ln sy r a)).1 = false := hf
        rcases hfl with h | ⟨h, -⟩
        · rw [h, hS] at hf'; cases hf'
        · rw [h] at hf'; cases hf'
      · show _ = F_Model_prepare (nI n) f4 f5 f6 m 2 (bI (fold (muS lf ln sy) d (r + 1) (muS lf ln sy r a)).1) (nI n) (nI 0) (nI 0) (nI 0) (nI 0) f1' f2 f3 f7'
        rw [← b4 m, show m + (C + (ln r + 2)) = m + C + 1 + ln r + 1 by omega, s0, hS, e.2, bI_t]
        rw [e.1, bI_f] at hlr
        show B_Model_prepare_3 (F_Model_prepare (nI n) f4 f5 f6 (m + C)) (nI n) f4 f5 f6 (bI a.1) (nI r) (nI (4 * r + ln r)) (nI 0) (nI 0) (nI 0) f1 f2 f3 (upd f7 r (nI 1)) = _
        cases hc : a.1 with
        | true => simp (disch := omega) only [B_Model_prepare_3, hs2, bI_t, i_10, hl2, hlr, hu, i_nb1, i_lit, nI_ltI, nI_leI, nI_eq, nI_add, pk_mul, pk_sub, nI_clamp, if_pos, if_neg, if_true, if_false, Option.bind_some, true_or, or_true, false_or, or_false, or_self, not_true_eq_false, not_false_eq_true, i_m1lt, i_m1le, i_nlt1, i_nle1, i_ne1, i_1ne]
        | false => simp (disch := omega) only [B_Model_prepare_3, hs2, bI_t, bI_f, i_10, hl2, hlr, hu, i_nb1, i_lit, nI_ltI, nI_leI, nI_eq, nI_add, pk_mul, pk_sub, nI_clamp, if_pos, if_neg, if_true, if_false, Option.bind_some, true_or, or_true, false_or, or_false, or_self, not_true_eq_false, not_false_eq_true, i_m1lt, i_m1le, i_nlt1, i_nle1, i_ne1, i_1ne]
    · have hS : muS lf ln sy r a = a := by simp only [muS]; rw [if_neg e]
      obtain ⟨C, f1', f7', b0, b1, b2, b3, b4⟩ := m_pr2 hn hl hs (f2 := f2) (f3 := f3) d (r + 1) (muS lf ln sy r a) f1 (upd f7 r (bI (hfd sy a.2 r (ln r) 0))) (by omega) hJ.1 (by rw [hS]; exact h1)
      refine ⟨C + (ln r + 2), f1', f7', by omega, b1, fun i hi => by rw [b2 i (by omega), pk_un (by omega)], fun hf i hi1 hi2 => ?_, fun m => ?_⟩
      · have hf' : (fold (muS lf ln sy) d (r + 1) (muS lf ln sy r a)).1 = false := hf
        by_cases ei : i = r
        · rw [ei, b2 r (by omega), pk_us]
        · rw [b3 hf' i (by omega) hi2, hS]
      · show _ = F_Model_prepare (nI n) f4 f5 f6 m 2 (bI (fold (muS lf ln sy) d (r + 1) (muS lf ln sy r a)).1) (nI n) (nI 0) (nI 0) (nI 0) (nI 0) f1' f2 f3 f7'
        rw [← b4 m, show m + (C + (ln r + 2)) = m + C + 1 + ln r + 1 by omega, s0, hS]
        show B_Model_prepare_3 (F_Model_prepare (nI n) f4 f5 f6 (m + C)) (nI n) f4 f5 f6 (bI a.1) (nI r) (nI (4 * r + ln r)) (nI 0) (nI 0) (nI 0) f1 f2 f3 (upd f7 r (bI (hfd sy a.2 r (ln r) 0))) = _
        cases hc : a.1 with
        | true =>
          cases hk : a.2 (lf r) with
          | true =>
            rw [hk, bI_t] at hlr
            simp (disch := omega) only [B_Model_prepare_3, hs2, bI_t, i_10, hl2, hlr, i_nb1, upd_self f1 (lf r) hlr, i_lit, nI_ltI, nI_leI, nI_eq, nI_add, pk_mul, pk_sub, nI_clamp, if_pos, if_neg, if_true, if_false, Option.bind_some, true_or, or_true, false_or, or_false, or_self, not_true_eq_false, not_false_eq_true, i_m1lt, i_m1le, i_nlt1, i_nle1, i_ne1, i_1ne]
          | false =>
            rw [hk, bI_f] at hlr
            have hh : hfd sy a.2 r (ln r) 0 = false := by
              cases h2 : hfd sy a.2 r (ln r) 0 with
              | false => rfl
              | true => exact absurd ⟨hk, h2⟩ e
            rw [hh]
            simp (disch := omega) only [B_Model_prepare_3, hs2, bI_t, bI_f, i_10, hl2, hlr, hu, i_nb0, upd_self f1 (lf r) hlr, i_lit, nI_ltI, nI_leI, nI_eq, nI_add, pk_mul, pk_sub, nI_clamp, if_pos, if_neg, if_true, if_false, Option.bind_some, true_or, or_true, false_or, or_false, or_self, not_true_eq_false, not_false_eq_true, i_m1lt, i_m1le, i_nlt1, i_nle1, i_ne1, i_1ne]
        | false =>
          cases hk : a.2 (lf r) with
          | true =>
            rw [hk, bI_t] at hlr
            cases hfd sy a.2 r (ln r) 0 with
            | true => simp (disch := omega) only [B_Model_prepare_3, hs2, bI_t, bI_f, i_10, hl2, hlr, hu, i_nb1, upd_self f1 (lf r) hlr, i_lit, nI_ltI, nI_leI, nI_eq, nI_add, pk_mul, pk_sub, nI_clamp, if_pos, if_neg, if_true, if_false, Option.bind_some, true_or, or_true, false_or, or_false, or_self, not_true_eq_false, not_false_eq_true, i_m1lt, i_m1le, i_nlt1, i_nle1, i_ne1, i_1ne]
            | false => simp (disch := omega) only [B_Model_prepare_3, hs2, bI_t, bI_f, i_10, hl2, hlr, hu, i_nb1, upd_self f1 (lf r) hlr, i_lit, nI_ltI, nI_leI, nI_eq, nI_add, pk_mul, pk_sub, nI_clamp, if_pos, if_neg, if_true, if_false, Option.bind_some, true_or, or_true, false_or, or_false, or_self, not_true_eq_false, not_false_eq_true, i_m1lt, i_m1le, i_nlt1, i_nle1, i_ne1, i_1ne]
          | false =>
            rw [hk, bI_f] at hlr
            have hh : hfd sy a.2 r (ln r) 0 = false := by
              cases h2 : hfd sy a.2 r (ln r) 0 with
              | false => rfl
              | true => exact absurd ⟨hk, h2⟩ e
            rw [hh]
            simp (disch := omega) only [B_Model_prepare_3, hs2, bI_t, bI_f, i_10, hl2, hlr, hu, i_nb0, upd_self f1 (lf r) hlr, i_lit, nI_ltI, nI_leI, nI_eq, nI_add, pk_mul, pk_sub, nI_clamp, if_pos, if_neg, if_true, if_false, Option.bind_some, true_or, or_true, false_or, or_false, or_self, not_true_eq_false, not_false_eq_true, i_m1lt, i_m1le, i_nlt1, i_nle1, i_ne1, i_1ne]
theorem m_pr1 (hn : n ≤ 10) {f4 f5 f6 : Nat → Int32} (hl : GLm n lf f4) (hs : GSm n ln sy f6 f5) {f2 f3 : Nat → Int32} : ∀ k a f1 f7, muJ n lf ln sy a → 6 < cnt a 6 + k → RB 6 a f1 →
    ∃ C f1' f7', C ≤ 62 * k + 1 ∧ RB 6 (lim (muR n lf ln sy) k a) f1' ∧ (∀ i, i < n → f7' i = bI (hfd sy (lim (muR n lf ln sy) k a) i (ln i) 0)) ∧
      ∀ m, F_Model_prepare (nI n) f4 f5 f6 (m + C) 1 (nI 1) (nI 0) (nI 0) (nI 0) (nI 0) (nI 0) f1 f2 f3 f7 = F_Model_prepare (nI n) f4 f5 f6 m 4 (nI 1) (nI 0) (nI 0) (nI 0) (nI 0) (nI 0) f1' f2 f3 f7'
  | 0, a, f1, f7, hj, hk, h1 => absurd (cnt_le a 6) (by omega)
  | k + 1, a, f1, f7, hj, hk, h1 => by
    obtain ⟨C, f1', f7', b0, b1, b2, b3, b4⟩ := m_pr2 hn hl hs (f2 := f2) (f3 := f3) n 0 (false, a) f1 f7 (by omega) hj h1
    have hfm := fold_mu (N := n) (μ := fun a => cnt a 6) (muS_J (n := n)) n 0 (false, a) (by omega) hj
    have s1 : ∀ m, F_Model_prepare (nI n) f4 f5 f6 (m + 1 + C + 1) 1 (nI 1) (nI 0) (nI 0) (nI 0) (nI 0) (nI 0) f1 f2 f3 f7 = F_Model_prepare (nI n) f4 f5 f6 m 1 (bI (muR n lf ln sy a).1) (nI 0) (nI 0) (nI 0) (nI 0) (nI 0) f1' f2 f3 f7' := by
      intro m
      have e1 : F_Model_prepare (nI n) f4 f5 f6 (m + 1 + C + 1) 1 (nI 1) (nI 0) (nI 0) (nI 0) (nI 0) (nI 0) f1 f2 f3 f7 = F_Model_prepare (nI n) f4 f5 f6 (m + 1 + C) 2 (bI false) (nI 0) (nI 0) (nI 0) (nI 0) (nI 0) f1 f2 f3 f7 := by
        show B_Model_prepare_1 (F_Model_prepare (nI n) f4 f5 f6 (m + 1 + C)) (nI n) f4 f5 f6 (nI 1) (nI 0) (nI 0) (nI 0) (nI 0) (nI 0) f1 f2 f3 f7 = _
        simp (disch := omega) only [B_Model_prepare_1, i_10, bI_f, i_lit, nI_ltI, nI_leI, nI_eq, nI_add, pk_mul, pk_sub, nI_clamp, if_pos, if_neg, if_true, if_false, Option.bind_some, true_or, or_true, false_or, or_false, or_self, not_true_eq_false, not_false_eq_true, i_m1lt, i_m1le, i_nlt1, i_nle1, i_ne1, i_1ne]
      rw [e1, b4 (m + 1)]
      show B_Model_prepare_2 (F_Model_prepare (nI n) f4 f5 f6 m) (nI n) f4 f5 f6 (bI (muR n lf ln sy a).1) (nI n) (nI 0) (nI 0) (nI 0) (nI 0) f1' f2 f3 f7' = _
      simp (disch := omega) only [B_Model_prepare_2, i_lit, nI_ltI, nI_leI, nI_eq, nI_add, pk_mul, pk_sub, nI_clamp, if_pos, if_neg, if_true, if_false, Option.bind_some, true_or, or_true, false_or, or_false, or_self, not_true_eq_false, not_false_eq_true, i_m1lt, i_m1le, i_nlt1, i_nle1, i_ne1, i_1ne]
    cases hc : (muR n lf ln sy a).1 with
    | true =>
      have hm : cnt a 6 < cnt (muR n lf ln sy a).2 6 := by
        rcases hfm.2 with h | ⟨-, h⟩
        · have hc' : (fold (muS lf ln sy) n 0 (false, a)).1 = true := hc
          rw [h] at hc'; cases hc'
        · exact h
      obtain ⟨C2, f1'', f7'', c0, c1, c2, c3⟩ := m_pr1 hn hl hs (f2 := f2) (f3 := f3) k (muR n lf ln sy a).2 f1' f7' hfm.1 (by omega) b1
      refine ⟨C2 + (C + 2), f1'', f7'', by omega, by simp only [lim]; rw [if_pos hc]; exact c1, by simp only [lim]; rw [if_pos hc]; exact c2, fun m => ?_⟩
      have := s1 (m + C2)
      rw [hc, bI_t, c3 m] at this
      rw [← this]
      congr 1
      omega
    | false =>
      have hst : (muR n lf ln sy a).2 = a := by
        rcases hfm.2 with h | ⟨h, -⟩
        · show (fold (muS lf ln sy) n 0 (false, a)).2 = a
          rw [h]
        · have hc' : (fold (muS lf ln sy) n 0 (false, a)).1 = false := hc
          rw [h] at hc'; cases hc'
      refine ⟨C + 3, f1', f7', by omega, by simp only [lim]; rw [if_neg (by rw [hc]; simp)]; exact b1, ?_, fun m => ?_⟩
      · simp only [lim]; rw [if_neg (by rw [hc]; simp), hst]
        exact fun i hi => b3 hc i (by omega) hi
      have := s1 (m + 1)
      rw [hc, bI_f] at this
      rw [show m + (C + 3) = m + 1 + 1 + C + 1 by omega, this]
      show B_Model_prepare_1 (F_Model_prepare (nI n) f4 f5 f6 m) (nI n) f4 f5 f6 (nI 0) (nI 0) (nI 0) (nI 0) (nI 0) (nI 0) f1' f2 f3 f7' = _
      simp (disch := omega) only [B_Model_prepare_1, i_lit, nI_ltI, nI_leI, nI_eq, nI_add, pk_mul, pk_sub, nI_clamp, if_pos, if_neg, if_true, if_false, Option.bind_some, true_or, or_true, false_or, or_false, or_self, not_true_eq_false, not_false_eq_true, i_m1lt, i_m1le, i_nlt1, i_nle1, i_ne1, i_1ne]
end
