/-! the reference's conflicts -/
def chk (ln : Nat → Nat) (sy : Nat → Nat → Nat) (row : Nat → Nat) (r q' p : Nat) : Prop :=
  ¬ (q' = r ∧ p = ln r) ∧ p ≤ ln q' ∧ ((p = ln q' ∧ ∃ t, t < 7 ∧ (row (5 * q' + p)).testBit t = true ∧ (row (5 * r + ln r)).testBit t = true) ∨ (p < ln q' ∧ ¬ row (5 * q' + p) = 0 ∧ sy q' p < 6 ∧ (row (5 * r + ln r)).testBit (sy q' p) = true))
section
variable {ln : Nat → Nat} {sy : Nat → Nat → Nat}
theorem m_ic2 {q : Nat} (hq : q ≤ 40) {f1 f2 f3 : Nat → Int32} (hs : GSm 11 ln sy f3 f2) {row : Nat → Nat} (hw : wfb row) (h1 : ∀ c, c < 55 → f1 (55 * q + c) = nI (row c)) {r q' : Nat} (hr : r < 11) (hq' : q' < 11) : ∀ d p, p + d = 5 →
    (∃ p' C, p ≤ p' ∧ p' < 5 ∧ chk ln sy row r q' p' ∧ C ≤ 4 * d + 1 ∧ ∀ k, F_Model_isConflict f1 f2 f3 (k + C) 2 (nI q) (nI r) (nI (row (5 * r + ln r))) (nI q') (nI p) (nI 0) = some (nI 1)) ∨
    ((∀ p', p ≤ p' → p' < 5 → ¬ chk ln sy row r q' p') ∧ ∃ C, C ≤ 4 * d + 1 ∧ ∀ k, F_Model_isConflict f1 f2 f3 (k + C) 2 (nI q) (nI r) (nI (row (5 * r + ln r))) (nI q') (nI p) (nI 0) = F_Model_isConflict f1 f2 f3 k 1 (nI q) (nI r) (nI (row (5 * r + ln r))) (nI (q' + 1)) (nI 0) (nI 0))
  | 0, p, hp => by
    refine Or.inr ⟨fun p' h2 h3 => absurd h3 (by omega), 1, by omega, fun k => ?_⟩
    show B_Model_isConflict_2 (F_Model_isConflict f1 f2 f3 k) f1 f2 f3 (nI q) (nI r) (nI (row (5 * r + ln r))) (nI q') (nI p) (nI 0) = _
    simp (disch := omega) only [B_Model_isConflict_2, i_lit, nI_ltI, nI_leI, nI_eq, nI_add, pk_mul, pk_sub, nI_clamp, if_pos, if_neg, if_true, if_false, Option.bind_some, true_or, or_true, false_or, or_false, or_self, not_true_eq_false, not_false_eq_true, i_m1lt, i_m1le, i_nlt1, i_nle1, i_ne1, i_1ne]
  | d + 1, p, hp => by
    obtain ⟨hr1, hr2, -⟩ := hs r hr
    obtain ⟨hs1, hs2, hs3⟩ := hs q' hq'
    have hwr := hw (5 * r + ln r)
    have hwo := hw (5 * q' + p)
    have e0 : 55 * q + 5 * q' + p = 55 * q + (5 * q' + p) := by omega
    have hrow := h1 (5 * q' + p) (by omega)
    -- to head 5, with what the other item has
    have to5 : ∃ C, C ≤ 3 ∧ ∀ k, F_Model_isConflict f1 f2 f3 (k + C) 2 (nI q) (nI r) (nI (row (5 * r + ln r))) (nI q') (nI p) (nI 0) = F_Model_isConflict f1 f2 f3 k 5 (nI q) (nI r) (nI (row (5 * r + ln r))) (nI q') (nI p) (nI (if ¬ (q' = r ∧ p = ln r) ∧ p ≤ ln q' then row (5 * q' + p) else 0)) := by
      have s4 : ∀ k, F_Model_isConflict f1 f2 f3 (k + 1) 4 (nI q) (nI r) (nI (row (5 * r + ln r))) (nI q') (nI p) (nI 0) = F_Model_isConflict f1 f2 f3 k 5 (nI q) (nI r) (nI (row (5 * r + ln r))) (nI q') (nI p) (nI 0) := fun k => rfl
      by_cases e1 : q' = r ∧ p = ln r
      · refine ⟨2, by omega, fun k => ?_⟩
        rw [if_neg (fun h => h.1 e1), ← s4 k]
        show B_Model_isConflict_2 (F_Model_isConflict f1 f2 f3 (k + 1)) f1 f2 f3 (nI q) (nI r) (nI (row (5 * r + ln r))) (nI q') (nI p) (nI 0) = _
        simp (disch := omega) only [B_Model_isConflict_2, e1.1, e1.2, hr2, i_lit, nI_ltI, nI_leI, nI_eq, nI_add, pk_mul, pk_sub, nI_clamp, if_pos, if_neg, if_true, if_false, Option.bind_some, true_or, or_true, false_or, or_false, or_self, not_true_eq_false, not_false_eq_true, i_m1lt, i_m1le, i_nlt1, i_nle1, i_ne1, i_1ne]
      · have s3 : ∀ k, F_Model_isConflict f1 f2 f3 (k + 1) 2 (nI q) (nI r) (nI (row (5 * r + ln r))) (nI q') (nI p) (nI 0) = F_Model_isConflict f1 f2 f3 k 3 (nI q) (nI r) (nI (row (5 * r + ln r))) (nI q') (nI p) (nI 0) := by
          intro k
          show B_Model_isConflict_2 (F_Model_isConflict f1 f2 f3 k) f1 f2 f3 (nI q) (nI r) (nI (row (5 * r + ln r))) (nI q') (nI p) (nI 0) = _
          by_cases e2 : q' = r
          · have e3 : ¬ p = ln r := fun h => e1 ⟨e2, h⟩
            simp (disch := omega) only [B_Model_isConflict_2, e2, hr2, i_lit, nI_ltI, nI_leI, nI_eq, nI_add, pk_mul, pk_sub, nI_clamp, if_pos, if_neg, if_true, if_false, Option.bind_some, true_or, or_true, false_or, or_false, or_self, not_true_eq_false, not_false_eq_true, i_m1lt, i_m1le, i_nlt1, i_nle1, i_ne1, i_1ne]
          · simp (disch := omega) only [B_Model_isConflict_2, i_lit, nI_ltI, nI_leI, nI_eq, nI_add, pk_mul, pk_sub, nI_clamp, if_pos, if_neg, if_true, if_false, Option.bind_some, true_or, or_true, false_or, or_false, or_self, not_true_eq_false, not_false_eq_true, i_m1lt, i_m1le, i_nlt1, i_nle1, i_ne1, i_1ne]
        by_cases e2 : p ≤ ln q'
        · refine ⟨2, by omega, fun k => ?_⟩
          rw [if_pos ⟨e1, e2⟩, show k + 2 = k + 1 + 1 by omega, s3]
          show B_Model_isConflict_3 (F_Model_isConflict f1 f2 f3 k) f1 f2 f3 (nI q) (nI r) (nI (row (5 * r + ln r))) (nI q') (nI p) (nI 0) = _
          simp (disch := omega) only [B_Model_isConflict_3, hs2, e0, hrow, i_lit, nI_ltI, nI_leI, nI_eq, nI_add, pk_mul, pk_sub, nI_clamp, if_pos, if_neg, if_true, if_false, Option.bind_some, true_or, or_true, false_or, or_false, or_self, not_true_eq_false, not_false_eq_true, i_m1lt, i_m1le, i_nlt1, i_nle1, i_ne1, i_1ne]
        · refine ⟨3, by omega, fun k => ?_⟩
          rw [if_neg (fun h => e2 h.2), show k + 3 = k + 1 + 1 + 1 by omega, s3, ← s4 k]
          show B_Model_isConflict_3 (F_Model_isConflict f1 f2 f3 (k + 1)) f1 f2 f3 (nI q) (nI r) (nI (row (5 * r + ln r))) (nI q') (nI p) (nI 0) = _
          simp (disch := omega) only [B_Model_isConflict_3, hs2, i_lit, nI_ltI, nI_leI, nI_eq, nI_add, pk_mul, pk_sub, nI_clamp, if_pos, if_neg, if_true, if_false, Option.bind_some, true_or, or_true, false_or, or_false, or_self, not_true_eq_false, not_false_eq_true, i_m1lt, i_m1le, i_nlt1, i_nle1, i_ne1, i_1ne]
    obtain ⟨C5, c5, s5⟩ := to5
    have hsy : ∃ z, S_Model_symbol (nI q') (nI p) f2 f3 = some z ∧ (p < ln q' → z = nI (sy q' p) ∧ sy q' p < 12) := by
      by_cases e : p < ln q'
      · obtain ⟨hy1, hy2⟩ := hs3 p e
        exact ⟨nI (sy q' p), by simp (disch := omega) only [S_Model_symbol, hs2, hy2, i_lit, nI_ltI, nI_leI, nI_eq, nI_add, pk_mul, pk_sub, nI_clamp, if_pos, if_neg, if_true, if_false, Option.bind_some, true_or, or_true, false_or, or_false, or_self, not_true_eq_false, not_false_eq_true, i_m1lt, i_m1le, i_nlt1, i_nle1, i_ne1, i_1ne], fun _ => ⟨rfl, hy1⟩⟩
      · exact ⟨-nI 1, by simp (disch := omega) only [S_Model_symbol, hs2, i_lit, nI_ltI, nI_leI, nI_eq, nI_add, pk_mul, pk_sub, nI_clamp, if_pos, if_neg, if_true, if_false, Option.bind_some, true_or, or_true, false_or, or_false, or_self, not_true_eq_false, not_false_eq_true, i_m1lt, i_m1le, i_nlt1, i_nle1, i_ne1, i_1ne], fun h => absurd h e⟩
    obtain ⟨z, hz1, hz2⟩ := hsy
    have step : (chk ln sy row r q' p ∧ ∀ k, F_Model_isConflict f1 f2 f3 (k + 1) 5 (nI q) (nI r) (nI (row (5 * r + ln r))) (nI q') (nI p) (nI (if ¬ (q' = r ∧ p = ln r) ∧ p ≤ ln q' then row (5 * q' + p) else 0)) = some (nI 1)) ∨
        (¬ chk ln sy row r q' p ∧ ∀ k, F_Model_isConflict f1 f2 f3 (k + 1) 5 (nI q) (nI r) (nI (row (5 * r + ln r))) (nI q') (nI p) (nI (if ¬ (q' = r ∧ p = ln r) ∧ p ≤ ln q' then row (5 * q' + p) else 0)) = F_Model_isConflict f1 f2 f3 k 2 (nI q) (nI r) (nI (row (5 * r + ln r))) (nI q') (nI (p + 1)) (nI 0)) := by
      by_cases e1 : ¬ (q' = r ∧ p = ln r) ∧ p ≤ ln q'
      · rw [if_pos e1]
        by_cases e2 : row (5 * q' + p) = 0
        · right
          constructor
          · rintro ⟨-, -, ⟨g1, t, g2, g3, g4⟩ | ⟨g1, g2, -⟩⟩
            · rw [e2] at g3; simp at g3
            · exact g2 e2
          · intro k
            show B_Model_isConflict_5 (F_Model_isConflict f1 f2 f3 k) f1 f2 f3 (nI q) (nI r) (nI (row (5 * r + ln r))) (nI q') (nI p) (nI (row (5 * q' + p))) = _
            rw [e2]
            simp (disch := omega) only [B_Model_isConflict_5, hz1, i_lit, nI_ltI, nI_leI, nI_eq, nI_add, pk_mul, pk_sub, nI_clamp, if_pos, if_neg, if_true, if_false, Option.bind_some, true_or, or_true, false_or, or_false, or_self, not_true_eq_false, not_false_eq_true, i_m1lt, i_m1le, i_nlt1, i_nle1, i_ne1, i_1ne]
        · by_cases e3 : p = ln q'
          · have ha := i_and0 hwo hwr
            by_cases e4 : ∃ t, t < 7 ∧ (row (5 * q' + p)).testBit t = true ∧ (row (5 * r + ln r)).testBit t = true
            · left
              refine ⟨⟨e1.1, e1.2, Or.inl ⟨e3, e4⟩⟩, fun k => ?_⟩
              have ha' : ¬ (nI (row (5 * q' + p)) &&& nI (row (5 * r + ln r)) = nI 0) := fun h => ha.mp h e4
              show B_Model_isConflict_5 (F_Model_isConflict f1 f2 f3 k) f1 f2 f3 (nI q) (nI r) (nI (row (5 * r + ln r))) (nI q') (nI p) (nI (row (5 * q' + p))) = _
              simp (disch := omega) only [B_Model_isConflict_5, hz1, e2, hs2, ha', i_lit, nI_ltI, nI_leI, nI_eq, nI_add, pk_mul, pk_sub, nI_clamp, if_pos, if_neg, if_true, if_false, Option.bind_some, true_or, or_true, false_or, or_false, or_self, not_true_eq_false, not_false_eq_true, i_m1lt, i_m1le, i_nlt1, i_nle1, i_ne1, i_1ne]
            · right
              refine ⟨?_, fun k => ?_⟩
              · rintro ⟨-, -, ⟨g1, g2⟩ | ⟨g1, -⟩⟩
                · exact e4 g2
                · omega
              · have ha' := ha.mpr e4
                show B_Model_isConflict_5 (F_Model_isConflict f1 f2 f3 k) f1 f2 f3 (nI q) (nI r) (nI (row (5 * r + ln r))) (nI q') (nI p) (nI (row (5 * q' + p))) = _
                simp (disch := omega) only [B_Model_isConflict_5, hz1, e2, hs2, ha', i_lit, nI_ltI, nI_leI, nI_eq, nI_add, pk_mul, pk_sub, nI_clamp, if_pos, if_neg, if_true, if_false, Option.bind_some, true_or, or_true, false_or, or_false, or_self, not_true_eq_false, not_false_eq_true, i_m1lt, i_m1le, i_nlt1, i_nle1, i_ne1, i_1ne]
          · obtain ⟨hz3, hz4⟩ := hz2 (by omega)
            subst hz3
            by_cases e5 : sy q' p < 6
            · have hib := i_bit hwr (show sy q' p < 7 by omega)
              by_cases e6 : (row (5 * r + ln r)).testBit (sy q' p) = true
              · left
                rw [if_pos e6] at hib
                refine ⟨⟨e1.1, e1.2, Or.inr ⟨by omega, e2, e5, e6⟩⟩, fun k => ?_⟩
                show B_Model_isConflict_5 (F_Model_isConflict f1 f2 f3 k) f1 f2 f3 (nI q) (nI r) (nI (row (5 * r + ln r))) (nI q') (nI p) (nI (row (5 * q' + p))) = _
                simp (disch := omega) only [B_Model_isConflict_5, hz1, e2, hs2, e3, hib, i_lit, nI_ltI, nI_leI, nI_eq, nI_add, pk_mul, pk_sub, nI_clamp, if_pos, if_neg, if_true, if_false, Option.bind_some, true_or, or_true, false_or, or_false, or_self, not_true_eq_false, not_false_eq_true, i_m1lt, i_m1le, i_nlt1, i_nle1, i_ne1, i_1ne]
              · right
                rw [if_neg e6] at hib
                refine ⟨?_, fun k => ?_⟩
                · rintro ⟨-, -, ⟨g1, g2⟩ | ⟨g1, g2, g3, g4⟩⟩
                  · exact e3 g1
                  · exact e6 g4
                · show B_Model_isConflict_5 (F_Model_isConflict f1 f2 f3 k) f1 f2 f3 (nI q) (nI r) (nI (row (5 * r + ln r))) (nI q') (nI p) (nI (row (5 * q' + p))) = _
                  simp (disch := omega) only [B_Model_isConflict_5, hz1, e2, hs2, e3, hib, i_lit, nI_ltI, nI_leI, nI_eq, nI_add, pk_mul, pk_sub, nI_clamp, if_pos, if_neg, if_true, if_false, Option.bind_some, true_or, or_true, false_or, or_false, or_self, not_true_eq_false, not_false_eq_true, i_m1lt, i_m1le, i_nlt1, i_nle1, i_ne1, i_1ne]
            · right
              refine ⟨?_, fun k => ?_⟩
              · rintro ⟨-, -, ⟨g1, g2⟩ | ⟨g1, g2, g3, g4⟩⟩
                · exact e3 g1
                · exact e5 g3
              · show B_Model_isConflict_5 (F_Model_isConflict f1 f2 f3 k) f1 f2 f3 (nI q) (nI r) (nI (row (5 * r + ln r))) (nI q') (nI p) (nI (row (5 * q' + p))) = _
                simp (disch := omega) only [B_Model_isConflict_5, hz1, e2, hs2, e3, i_lit, nI_ltI, nI_leI, nI_eq, nI_add, pk_mul, pk_sub, nI_clamp, if_pos, if_neg, if_true, if_false, Option.bind_some, true_or, or_true, false_or, or_false, or_self, not_true_eq_false, not_false_eq_true, i_m1lt, i_m1le, i_nlt1, i_nle1, i_ne1, i_1ne]
      · rw [if_neg e1]
        right
        refine ⟨fun h => e1 ⟨h.1, h.2.1⟩, fun k => ?_⟩
        show B_Model_isConflict_5 (F_Model_isConflict f1 f2 f3 k) f1 f2 f3 (nI q) (nI r) (nI (row (5 * r + ln r))) (nI q') (nI p) (nI 0) = _
        simp (disch := omega) only [B_Model_isConflict_5, hz1, i_lit, nI_ltI, nI_leI, nI_eq, nI_add, pk_mul, pk_sub, nI_clamp, if_pos, if_neg, if_true, if_false, Option.bind_some, true_or, or_true, false_or, or_false, or_self, not_true_eq_false, not_false_eq_true, i_m1lt, i_m1le, i_nlt1, i_nle1, i_ne1, i_1ne]
    rcases step with ⟨t1, t2⟩ | ⟨t1, t2⟩
    · exact Or.inl ⟨p, 1 + C5, by omega, by omega, t1, by omega, fun k => by rw [show k + (1 + C5) = k + 1 + C5 by omega, s5]; exact t2 k⟩
    · rcases m_ic2 hq hs hw h1 hr hq' d (p + 1) (by omega) with ⟨p', C, c1, c2, c3, c4, c6⟩ | ⟨c1, C, c2, c3⟩
      · exact Or.inl ⟨p', C + 1 + C5, by omega, c2, c3, by omega, fun k => by rw [show k + (C + 1 + C5) = k + C + 1 + C5 by omega, s5, t2]; exact c6 k⟩
      · refine Or.inr ⟨fun p' h2 h3 => ?_, C + 1 + C5, by omega, fun k => by rw [show k + (C + 1 + C5) = k + C + 1 + C5 by omega, s5, t2]; exact c3 k⟩
        by_cases e : p' = p
        · rw [e]; exact t1
        · exact c1 p' (by omega) h3
theorem m_ic1 {q : Nat} (hq : q ≤ 40) {f1 f2 f3 : Nat → Int32} (hs : GSm 11 ln sy f3 f2) {row : Nat → Nat} (hw : wfb row) (h1 : ∀ c, c < 55 → f1 (55 * q + c) = nI (row c)) {r : Nat} (hr : r < 11) : ∀ d q', q' + d = 11 →
    (∃ q'' p' C, q'' < 11 ∧ p' < 5 ∧ chk ln sy row r q'' p' ∧ C ≤ 30 * d + 1 ∧ ∀ k, F_Model_isConflict f1 f2 f3 (k + C) 1 (nI q) (nI r) (nI (row (5 * r + ln r))) (nI q') (nI 0) (nI 0) = some (nI 1)) ∨
    ((∀ q'' p', q' ≤ q'' → q'' < 11 → p' < 5 → ¬ chk ln sy row r q'' p') ∧ ∃ C, C ≤ 30 * d + 1 ∧ ∀ k, F_Model_isConflict f1 f2 f3 (k + C) 1 (nI q) (nI r) (nI (row (5 * r + ln r))) (nI q') (nI 0) (nI 0) = F_Model_isConflict f1 f2 f3 k 0 (nI q) (nI (r + 1)) (nI 0) (nI 0) (nI 0) (nI 0))
  | 0, q', hd => by
    refine Or.inr ⟨fun q'' p' h2 h3 => absurd h3 (by omega), 1, by omega, fun k => ?_⟩
    show B_Model_isConflict_1 (F_Model_isConflict f1 f2 f3 k) f1 f2 f3 (nI q) (nI r) (nI (row (5 * r + ln r))) (nI q') (nI 0) (nI 0) = _
    simp (disch := omega) only [B_Model_isConflict_1, i_lit, nI_ltI, nI_leI, nI_eq, nI_add, pk_mul, pk_sub, nI_clamp, if_pos, if_neg, if_true, if_false, Option.bind_some, true_or, or_true, false_or, or_false, or_self, not_true_eq_false, not_false_eq_true, i_m1lt, i_m1le, i_nlt1, i_nle1, i_ne1, i_1ne]
  | d + 1, q', hd => by
    have hwr := hw (5 * r + ln r)
    by_cases e0 : row (5 * r + ln r) = 0
    · refine Or.inr ⟨?_, 1, by omega, fun k => ?_⟩
      · rintro q'' p' - - - ⟨-, -, ⟨-, t, -, -, g⟩ | ⟨-, -, -, g⟩⟩
        · rw [e0] at g; simp at g
        · rw [e0] at g; simp at g
      · show B_Model_isConflict_1 (F_Model_isConflict f1 f2 f3 k) f1 f2 f3 (nI q) (nI r) (nI (row (5 * r + ln r))) (nI q') (nI 0) (nI 0) = _
        simp (disch := omega) only [B_Model_isConflict_1, e0, i_lit, nI_ltI, nI_leI, nI_eq, nI_add, pk_mul, pk_sub, nI_clamp, if_pos, if_neg, if_true, if_false, Option.bind_some, true_or, or_true, false_or, or_false, or_self, not_true_eq_false, not_false_eq_true, i_m1lt, i_m1le, i_nlt1, i_nle1, i_ne1, i_1ne]
    · have st : ∀ k, F_Model_isConflict f1 f2 f3 (k + 1) 1 (nI q) (nI r) (nI (row (5 * r + ln r))) (nI q') (nI 0) (nI 0) = F_Model_isConflict f1 f2 f3 k 2 (nI q) (nI r) (nI (row (5 * r + ln r))) (nI q') (nI 0) (nI 0) := by
        intro k
        show B_Model_isConflict_1 (F_Model_isConflict f1 f2 f3 k) f1 f2 f3 (nI q) (nI r) (nI (row (5 * r + ln r))) (nI q') (nI 0) (nI 0) = _
        simp (disch := omega) only [B_Model_isConflict_1, e0, i_lit, nI_ltI, nI_leI, nI_eq, nI_add, pk_mul, pk_sub, nI_clamp, if_pos, if_neg, if_true, if_false, Option.bind_some, true_or, or_true, false_or, or_false, or_self, not_true_eq_false, not_false_eq_true, i_m1lt, i_m1le, i_nlt1, i_nle1, i_ne1, i_1ne]
      rcases m_ic2 hq hs hw h1 hr (show q' < 11 by omega) 5 0 (by omega) with ⟨p', C, c1, c2, c3, c4, c6⟩ | ⟨c1, C, c2, c3⟩
      · exact Or.inl ⟨q', p', C + 1, by omega, c2, c3, by omega, fun k => by rw [show k + (C + 1) = k + C + 1 by omega, st]; exact c6 k⟩
      · rcases m_ic1 hq hs hw h1 hr d (q' + 1) (by omega) with ⟨q'', p', C2, d1, d2, d3, d4, d5⟩ | ⟨d1, C2, d2, d3⟩
        · exact Or.inl ⟨q'', p', C2 + C + 1, d1, d2, d3, by omega, fun k => by rw [show k + (C2 + C + 1) = k + C2 + C + 1 by omega, st, c3]; exact d5 k⟩
        · refine Or.inr ⟨fun q'' p' h2 h3 h4 => ?_, C2 + C + 1, by omega, fun k => by rw [show k + (C2 + C + 1) = k + C2 + C + 1 by omega, st, c3]; exact d3 k⟩
          by_cases e : q'' = q'
          · rw [e]; exact c1 p' (by omega) h4
          · exact d1 q'' p' (by omega) h3 h4
theorem m_ic0 {q : Nat} (hq : q ≤ 40) {f1 f2 f3 : Nat → Int32} (hs : GSm 11 ln sy f3 f2) {row : Nat → Nat} (hw : wfb row) (h1 : ∀ c, c < 55 → f1 (55 * q + c) = nI (row c)) : ∀ d r, r + d = 11 →
    (∃ r' q' p' C, r' < 11 ∧ q' < 11 ∧ p' < 5 ∧ chk ln sy row r' q' p' ∧ C ≤ 400 * d + 1 ∧ ∀ k, F_Model_isConflict f1 f2 f3 (k + C) 0 (nI q) (nI r) (nI 0) (nI 0) (nI 0) (nI 0) = some (nI 1)) ∨
    ((∀ r' q' p', r ≤ r' → r' < 11 → q' < 11 → p' < 5 → ¬ chk ln sy row r' q' p') ∧ ∃ C, C ≤ 400 * d + 1 ∧ ∀ k, F_Model_isConflict f1 f2 f3 (k + C) 0 (nI q) (nI r) (nI 0) (nI 0) (nI 0) (nI 0) = some (nI 0))
  | 0, r, hd => by
    refine Or.inr ⟨fun r' q'' p' h2 h3 => absurd h3 (by omega), 1, by omega, fun k => ?_⟩
    show B_Model_isConflict_0 (F_Model_isConflict f1 f2 f3 k) f1 f2 f3 (nI q) (nI r) (nI 0) (nI 0) (nI 0) (nI 0) = _
    simp (disch := omega) only [B_Model_isConflict_0, i_lit, nI_ltI, nI_leI, nI_eq, nI_add, pk_mul, pk_sub, nI_clamp, if_pos, if_neg, if_true, if_false, Option.bind_some, true_or, or_true, false_or, or_false, or_self, not_true_eq_false, not_false_eq_true, i_m1lt, i_m1le, i_nlt1, i_nle1, i_ne1, i_1ne]
  | d + 1, r, hd => by
    obtain ⟨hr1, hr2, -⟩ := hs r (by omega)
    have e0 : 55 * q + 5 * r + ln r = 55 * q + (5 * r + ln r) := by omega
    have hrow := h1 (5 * r + ln r) (by omega)
    have st : ∀ k, F_Model_isConflict f1 f2 f3 (k + 1) 0 (nI q) (nI r) (nI 0) (nI 0) (nI 0) (nI 0) = F_Model_isConflict f1 f2 f3 k 1 (nI q) (nI r) (nI (row (5 * r + ln r))) (nI 0) (nI 0) (nI 0) := by
      intro k
      show B_Model_isConflict_0 (F_Model_isConflict f1 f2 f3 k) f1 f2 f3 (nI q) (nI r) (nI 0) (nI 0) (nI 0) (nI 0) = _
      simp (disch := omega) only [B_Model_isConflict_0, hr2, e0, hrow, i_lit, nI_ltI, nI_leI, nI_eq, nI_add, pk_mul, pk_sub, nI_clamp, if_pos, if_neg, if_true, if_false, Option.bind_some, true_or, or_true, false_or, or_false, or_self, not_true_eq_false, not_false_eq_true, i_m1lt, i_m1le, i_nlt1, i_nle1, i_ne1, i_1ne]
    rcases m_ic1 hq hs hw h1 (show r < 11 by omega) 11 0 (by omega) with ⟨q'', p', C, c1, c2, c3, c4, c6⟩ | ⟨c1, C, c2, c3⟩
    · exact Or.inl ⟨r, q'', p', C + 1, by omega, c1, c2, c3, by omega, fun k => by rw [show k + (C + 1) = k + C + 1 by omega, st]; exact c6 k⟩
    · rcases m_ic0 hq hs hw h1 d (r + 1) (by omega) with ⟨r', q'', p', C2, d0, d1, d2, d3, d4, d5⟩ | ⟨d1, C2, d2, d3⟩
      · exact Or.inl ⟨r', q'', p', C2 + C + 1, d0, d1, d2, d3, by omega, fun k => by rw [show k + (C2 + C + 1) = k + C2 + C + 1 by omega, st, c3]; exact d5 k⟩
      · refine Or.inr ⟨fun r' q'' p' h2 h3 h4 h5 => ?_, C2 + C + 1, by omega, fun k => by rw [show k + (C2 + C + 1) = k + C2 + C + 1 by omega, st, c3]; exact d3 k⟩
        by_cases e : r' = r
        · rw [e]; exact c1 q'' p' (by omega) h4 h5
        · exact d1 r' q'' p' (by omega) h3 h4 h5
theorem m_conf {q : Nat} (hq : q ≤ 40) {f1 f2 f3 : Nat → Int32} (hs : GSm 11 ln sy f3 f2) {row : Nat → Nat} (hw : wfb row) (h1 : ∀ c, c < 55 → f1 (55 * q + c) = nI (row c)) :
    (S_Model_isConflict (nI q) f1 f2 f3 = some (nI 1) ∧ ∃ r q' p, r < 11 ∧ q' < 11 ∧ p < 5 ∧ chk ln sy row r q' p) ∨ (S_Model_isConflict (nI q) f1 f2 f3 = some (nI 0) ∧ ∀ r q' p, r < 11 → q' < 11 → p < 5 → ¬ chk ln sy row r q' p) := by
  rcases m_ic0 hq hs hw h1 11 0 (by omega) with ⟨r', q'', p', C2, d0, d1, d2, d3, d4, d5⟩ | ⟨d1, C2, d2, d3⟩
  · obtain ⟨k, hk⟩ := fuelled (k := C2) (by omega)
    exact Or.inl ⟨by rw [S_Model_isConflict, hk]; exact d5 k, r', q'', p', d0, d1, d2, d3⟩
  · obtain ⟨k, hk⟩ := fuelled (k := C2) (by omega)
    exact Or.inr ⟨by rw [S_Model_isConflict, hk]; exact d3 k, fun r q' p h2 h3 h4 => d1 r q' p (by omega) h2 h3 h4⟩
end
