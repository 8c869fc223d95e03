/-! the reference's closure -/
section
variable {n : Nat} {lf ln : Nat → Nat} {sy : Nat → Nat → Nat} {us : Nat → Bool} {b : Nat → Nat}
theorem m_ar (hn : n ≤ 10) {f2 f3 f0 : Nat → Int32} (hl : GLm n lf f2) (hu : RB n us f3) {q x v : Nat} (hq : q ≤ 40) (hx : x < 6) (hv : v < 128) : ∀ d r a f, r + d = n → wfb a.2 → RW q a.2 f0 f →
    ∃ f', RW q (fold (arS lf us x v) d r a).2 f0 f' ∧ ∀ m, F_Model_spread (nI n) f2 f3 (m + (d + 1)) 0 (nI q) (nI x) (nI v) (bI a.1) (nI r) f = some (bI (fold (arS lf us x v) d r a).1, f')
  | 0, r, a, f, hr, hw, h1 => by
    refine ⟨f, h1, fun m => ?_⟩
    show B_Model_spread_0 (F_Model_spread (nI n) f2 f3 m) (nI n) f2 f3 (nI q) (nI x) (nI v) (bI a.1) (nI r) f = some (bI a.1, f)
    cases a.1 with
    | true => simp (disch := omega) only [B_Model_spread_0, bI_t, i_lit, nI_ltI, nI_leI, nI_eq, nI_add, pk_mul, pk_sub, nI_clamp, if_pos, if_neg, if_true, if_false, Option.bind_some, true_or, or_true, false_or, or_false, or_self, not_true_eq_false, not_false_eq_true, i_m1lt, i_m1le, i_nlt1, i_nle1, i_ne1, i_1ne]
    | false => simp (disch := omega) only [B_Model_spread_0, bI_f, i_lit, nI_ltI, nI_leI, nI_eq, nI_add, pk_mul, pk_sub, nI_clamp, if_pos, if_neg, if_true, if_false, Option.bind_some, true_or, or_true, false_or, or_false, or_self, not_true_eq_false, not_false_eq_true, i_m1lt, i_m1le, i_nlt1, i_nle1, i_ne1, i_1ne]
  | d + 1, r, a, f, hr, hw, h1 => by
    have hwS := (arS_J (lf := lf) (us := us) (x := x) hv r a (by omega) hw).1
    have hur := hu r (by omega)
    obtain ⟨hl1, hl2⟩ := hl r (by omega)
    have hrow := h1.1 (5 * r) (by omega)
    have hwr := hw (5 * r)
    have hol := or_lt hwr hv
    by_cases e : us r = true ∧ lf r = x ∧ ¬ (a.2 (5 * r) ||| v) = a.2 (5 * r)
    · have hS : arS lf us x v r a = (true, upN a.2 (5 * r) (a.2 (5 * r) ||| v)) := by simp only [arS]; rw [if_pos e]
      obtain ⟨f', b1, b2⟩ := m_ar hn hl hu hq hx hv d (r + 1) (arS lf us x v r a) (upd f (55 * q + 5 * r) (nI (a.2 (5 * r) ||| v))) (by omega) hwS (by rw [hS]; exact RW_up h1 (by omega))
      refine ⟨f', b1, fun m => ?_⟩
      show _ = some (bI (fold (arS lf us x v) d (r + 1) (arS lf us x v r a)).1, f')
      rw [← b2 m, hS]
      show B_Model_spread_0 (F_Model_spread (nI n) f2 f3 (m + (d + 1))) (nI n) f2 f3 (nI q) (nI x) (nI v) (bI a.1) (nI r) f = _
      rw [e.1, bI_t] at hur
      have e1 := e.2.1
      have e2 := e.2.2
      rw [e1] at hl2
      cases hc : a.1 with
      | true => simp (disch := omega) only [B_Model_spread_0, hur, i_10, hl2, hrow, i_or, bI_t, i_lit, nI_ltI, nI_leI, nI_eq, nI_add, pk_mul, pk_sub, nI_clamp, if_pos, if_neg, if_true, if_false, Option.bind_some, true_or, or_true, false_or, or_false, or_self, not_true_eq_false, not_false_eq_true, i_m1lt, i_m1le, i_nlt1, i_nle1, i_ne1, i_1ne]
      | false => simp (disch := omega) only [B_Model_spread_0, hur, i_10, hl2, hrow, i_or, e2, bI_t, bI_f, i_lit, nI_ltI, nI_leI, nI_eq, nI_add, pk_mul, pk_sub, nI_clamp, if_pos, if_neg, if_true, if_false, Option.bind_some, true_or, or_true, false_or, or_false, or_self, not_true_eq_false, not_false_eq_true, i_m1lt, i_m1le, i_nlt1, i_nle1, i_ne1, i_1ne]
    · have hS : arS lf us x v r a = a := by simp only [arS]; rw [if_neg e]
      obtain ⟨f', b1, b2⟩ := m_ar hn hl hu hq hx hv d (r + 1) (arS lf us x v r a) f (by omega) hwS (by rw [hS]; exact h1)
      refine ⟨f', b1, fun m => ?_⟩
      show _ = some (bI (fold (arS lf us x v) d (r + 1) (arS lf us x v r a)).1, f')
      rw [← b2 m, hS]
      show B_Model_spread_0 (F_Model_spread (nI n) f2 f3 (m + (d + 1))) (nI n) f2 f3 (nI q) (nI x) (nI v) (bI a.1) (nI r) f = _
      cases hc : us r with
      | false =>
        rw [hc, bI_f] at hur
        simp (disch := omega) only [B_Model_spread_0, hur, i_lit, nI_ltI, nI_leI, nI_eq, nI_add, pk_mul, pk_sub, nI_clamp, if_pos, if_neg, if_true, if_false, Option.bind_some, true_or, or_true, false_or, or_false, or_self, not_true_eq_false, not_false_eq_true, i_m1lt, i_m1le, i_nlt1, i_nle1, i_ne1, i_1ne]
      | true =>
        rw [hc, bI_t] at hur
        by_cases e1 : lf r = x
        · have e2 : (a.2 (5 * r) ||| v) = a.2 (5 * r) := Classical.byContradiction fun h => e ⟨hc, e1, h⟩
          rw [e1] at hl2
          cases hc : a.1 with
          | true => simp (disch := omega) only [B_Model_spread_0, hur, i_10, hl2, hrow, i_or, e2, upd_self f (55 * q + 5 * r) hrow, bI_t, i_lit, nI_ltI, nI_leI, nI_eq, nI_add, pk_mul, pk_sub, nI_clamp, if_pos, if_neg, if_true, if_false, Option.bind_some, true_or, or_true, false_or, or_false, or_self, not_true_eq_false, not_false_eq_true, i_m1lt, i_m1le, i_nlt1, i_nle1, i_ne1, i_1ne]
          | false => simp (disch := omega) only [B_Model_spread_0, hur, i_10, hl2, hrow, i_or, e2, upd_self f (55 * q + 5 * r) hrow, bI_f, i_lit, nI_ltI, nI_leI, nI_eq, nI_add, pk_mul, pk_sub, nI_clamp, if_pos, if_neg, if_true, if_false, Option.bind_some, true_or, or_true, false_or, or_false, or_self, not_true_eq_false, not_false_eq_true, i_m1lt, i_m1le, i_nlt1, i_nle1, i_ne1, i_1ne]
        · simp (disch := omega) only [B_Model_spread_0, hur, i_10, hl2, i_lit, nI_ltI, nI_leI, nI_eq, nI_add, pk_mul, pk_sub, nI_clamp, if_pos, if_neg, if_true, if_false, Option.bind_some, true_or, or_true, false_or, or_false, or_self, not_true_eq_false, not_false_eq_true, i_m1lt, i_m1le, i_nlt1, i_nle1, i_ne1, i_1ne]
theorem ar_n (hn : n ≤ 10) (hus : ∀ r, r < 10 → us r = true → r < n) {x v : Nat} (a : Bool × (Nat → Nat)) : fold (arS lf us x v) 10 0 a = fold (arS lf us x v) n 0 a := by
  have h1 : fold (arS lf us x v) (n + (10 - n)) 0 a = fold (arS lf us x v) n 0 a := by
    rw [fold_add]
    refine fold_no _ _ _ (fun i h1 h2 => ?_)
    simp only [arS]
    rw [if_neg]
    rintro ⟨h3, -⟩
    have := hus i (by omega) h3
    omega
  rw [show n + (10 - n) = 10 by omega] at h1
  exact h1
theorem m_cl2 (hn : n ≤ 10) {f1 f2 f4 f5 f6 f7 f0 : Nat → Int32} (hb : wfb b) (hf : RF b f1 f2) (hl : GLm n lf f4) (hs : GSm 11 ln sy f6 f5) (hu : RB n us f7) (hus : ∀ r, r < 10 → us r = true → r < n) {q r : Nat} (hq : q ≤ 40) (hr : r < 11) : ∀ d p a f, p + d = 5 → wfb a.2 → RW q a.2 f0 f →
    ∃ f', RW q (fold (clS lf ln sy us b) d (5 * r + p) a).2 f0 f' ∧ ∀ m, F_Model_close (nI n) f1 f2 f4 f5 f6 f7 (m + (2 * d + 1)) 2 (nI q) (bI a.1) (nI r) (nI p) (nI 0) (nI 0) f = F_Model_close (nI n) f1 f2 f4 f5 f6 f7 m 1 (nI q) (bI (fold (clS lf ln sy us b) d (5 * r + p) a).1) (nI (r + 1)) (nI 0) (nI 0) (nI 0) f'
  | 0, p, a, f, hp, hw, h1 => by
    refine ⟨f, h1, fun m => ?_⟩
    show B_Model_close_2 (F_Model_close (nI n) f1 f2 f4 f5 f6 f7 m) (nI n) f1 f2 f4 f5 f6 f7 (nI q) (bI a.1) (nI r) (nI p) (nI 0) (nI 0) f = F_Model_close (nI n) f1 f2 f4 f5 f6 f7 m 1 (nI q) (bI a.1) (nI (r + 1)) (nI 0) (nI 0) (nI 0) f
    simp (disch := omega) only [B_Model_close_2, i_lit, nI_ltI, nI_leI, nI_eq, nI_add, pk_mul, pk_sub, nI_clamp, if_pos, if_neg, if_true, if_false, Option.bind_some, true_or, or_true, false_or, or_false, or_self, not_true_eq_false, not_false_eq_true, i_m1lt, i_m1le, i_nlt1, i_nle1, i_ne1, i_1ne]
  | d + 1, p, a, f, hp, hw, h1 => by
    obtain ⟨hs1, hs2, hs3⟩ := hs r hr
    have hwS := (clS_J (lf := lf) (ln := ln) (sy := sy) (us := us) hb (5 * r + p) a (by omega) hw).1
    have hrow := h1.1 (5 * r + p) (by omega)
    have hwr := hw (5 * r + p)
    have e0 : 55 * q + 5 * r + p = 55 * q + (5 * r + p) := by omega
    have ed : (5 * r + p) / 5 = r := by omega
    have em : (5 * r + p) % 5 = p := by omega
    by_cases e : p < ln r ∧ 6 ≤ sy r p ∧ ¬ a.2 (5 * r + p) = 0
    · obtain ⟨hy1, hy2⟩ := hs3 p (by omega)
      have hS : clS lf ln sy us b (5 * r + p) a = fold (arS lf us (sy r p - 6) (bgn sy b r (ln r - (p + 1)) (p + 1) (a.2 (5 * r + p)))) n 0 a := by simp only [clS, ed, em]; rw [if_pos e, ar_n hn hus]
      have hv := bgn_lt (sy := sy) hb (r := r) (d := ln r - (p + 1)) (p := p + 1) hwr
      obtain ⟨fa, c1, c2⟩ := m_ar hn hl hu hq (show sy r p - 6 < 6 by omega) hv n 0 (false, a.2) f (by omega) hw h1
      have hor := fold_or (arS_or (lf := lf) (us := us) (sy r p - 6) (bgn sy b r (ln r - (p + 1)) (p + 1) (a.2 (5 * r + p)))) n 0 a.1 a.2
      have hS2 : clS lf ln sy us b (5 * r + p) a = (a.1 || (fold (arS lf us (sy r p - 6) (bgn sy b r (ln r - (p + 1)) (p + 1) (a.2 (5 * r + p)))) n 0 (false, a.2)).1, (fold (arS lf us (sy r p - 6) (bgn sy b r (ln r - (p + 1)) (p + 1) (a.2 (5 * r + p)))) n 0 (false, a.2)).2) := by rw [hS]; exact hor
      obtain ⟨f', b1, b2⟩ := m_cl2 hn hb hf hl hs hu hus hq hr d (p + 1) (clS lf ln sy us b (5 * r + p) a) fa (by omega) hwS (by rw [hS2]; exact c1)
      rw [show 5 * r + (p + 1) = 5 * r + p + 1 by omega] at b1 b2
      refine ⟨f', b1, fun m => ?_⟩
      show _ = F_Model_close (nI n) f1 f2 f4 f5 f6 f7 m 1 (nI q) (bI (fold (clS lf ln sy us b) d (5 * r + p + 1) (clS lf ln sy us b (5 * r + p) a)).1) (nI (r + 1)) (nI 0) (nI 0) (nI 0) f'
      rw [← b2 m, hS2]
      have hbg := m_beg (show 11 ≤ 11 by omega) hs hb hf hr (show p + 1 ≤ ln r by omega) hwr
      obtain ⟨m1, hm1⟩ := fuelled (k := n + 1) (by omega)
      have har : S_Model_spread (nI q) (nI (sy r p - 6)) (nI (bgn sy b r (ln r - (p + 1)) (p + 1) (a.2 (5 * r + p)))) (nI n) f f4 f7 = some (bI (fold (arS lf us (sy r p - 6) (bgn sy b r (ln r - (p + 1)) (p + 1) (a.2 (5 * r + p)))) n 0 (false, a.2)).1, fa) := by
        rw [S_Model_spread, hm1]
        exact c2 m1
      have h6 : ¬ sy r p < 6 := by omega
      have h00 := e.2.2
      have hsy : S_Model_symbol (nI r) (nI p) f5 f6 = some (nI (sy r p)) := by simp (disch := omega) only [S_Model_symbol, hs2, hy2, i_lit, nI_ltI, nI_leI, nI_eq, nI_add, pk_mul, pk_sub, nI_clamp, if_pos, if_neg, if_true, if_false, Option.bind_some, true_or, or_true, false_or, or_false, or_self, not_true_eq_false, not_false_eq_true, i_m1lt, i_m1le, i_nlt1, i_nle1, i_ne1, i_1ne]
      have s2 : F_Model_close (nI n) f1 f2 f4 f5 f6 f7 (m + (2 * (d + 1) + 1)) 2 (nI q) (bI a.1) (nI r) (nI p) (nI 0) (nI 0) f = F_Model_close (nI n) f1 f2 f4 f5 f6 f7 (m + (2 * d + 1) + 1) 3 (nI q) (bI a.1) (nI r) (nI p) (nI (a.2 (5 * r + p))) (nI (sy r p)) f := by
        rw [show m + (2 * (d + 1) + 1) = m + (2 * d + 1) + 1 + 1 by omega]
        show B_Model_close_2 (F_Model_close (nI n) f1 f2 f4 f5 f6 f7 (m + (2 * d + 1) + 1)) (nI n) f1 f2 f4 f5 f6 f7 (nI q) (bI a.1) (nI r) (nI p) (nI 0) (nI 0) f = _
        simp (disch := omega) only [B_Model_close_2, e0, hrow, h00, hsy, i_lit, nI_ltI, nI_leI, nI_eq, nI_add, pk_mul, pk_sub, nI_clamp, if_pos, if_neg, if_true, if_false, Option.bind_some, true_or, or_true, false_or, or_false, or_self, not_true_eq_false, not_false_eq_true, i_m1lt, i_m1le, i_nlt1, i_nle1, i_ne1, i_1ne]
      rw [s2]
      show B_Model_close_3 (F_Model_close (nI n) f1 f2 f4 f5 f6 f7 (m + (2 * d + 1))) (nI n) f1 f2 f4 f5 f6 f7 (nI q) (bI a.1) (nI r) (nI p) (nI (a.2 (5 * r + p))) (nI (sy r p)) f = _
      generalize (fold (arS lf us (sy r p - 6) (bgn sy b r (ln r - (p + 1)) (p + 1) (a.2 (5 * r + p)))) n 0 (false, a.2)) = z at *
      cases hz : z.1 with
      | true =>
        rw [hz, bI_t] at har
        simp (disch := omega) only [B_Model_close_3, h6, hbg, har, i_10, Bool.or_true, bI_t, i_lit, nI_ltI, nI_leI, nI_eq, nI_add, pk_mul, pk_sub, nI_clamp, if_pos, if_neg, if_true, if_false, Option.bind_some, true_or, or_true, false_or, or_false, or_self, not_true_eq_false, not_false_eq_true, i_m1lt, i_m1le, i_nlt1, i_nle1, i_ne1, i_1ne]
      | false =>
        rw [hz, bI_f] at har
        cases hc : a.1 with
        | true => simp (disch := omega) only [B_Model_close_3, h6, hbg, har, i_10, Bool.true_or, bI_t, i_lit, nI_ltI, nI_leI, nI_eq, nI_add, pk_mul, pk_sub, nI_clamp, if_pos, if_neg, if_true, if_false, Option.bind_some, true_or, or_true, false_or, or_false, or_self, not_true_eq_false, not_false_eq_true, i_m1lt, i_m1le, i_nlt1, i_nle1, i_ne1, i_1ne]
        | false => simp (disch := omega) only [B_Model_close_3, h6, hbg, har, i_10, Bool.or_self, bI_f, i_lit, nI_ltI, nI_leI, nI_eq, nI_add, pk_mul, pk_sub, nI_clamp, if_pos, if_neg, if_true, if_false, Option.bind_some, true_or, or_true, false_or, or_false, or_self, not_true_eq_false, not_false_eq_true, i_m1lt, i_m1le, i_nlt1, i_nle1, i_ne1, i_1ne]
    · have hS : clS lf ln sy us b (5 * r + p) a = a := by simp only [clS, ed, em]; rw [if_neg e]
      obtain ⟨f', b1, b2⟩ := m_cl2 hn hb hf hl hs hu hus hq hr d (p + 1) (clS lf ln sy us b (5 * r + p) a) f (by omega) hwS (by rw [hS]; exact h1)
      rw [show 5 * r + (p + 1) = 5 * r + p + 1 by omega] at b1 b2
      refine ⟨f', b1, fun m => ?_⟩
      show _ = F_Model_close (nI n) f1 f2 f4 f5 f6 f7 m 1 (nI q) (bI (fold (clS lf ln sy us b) d (5 * r + p + 1) (clS lf ln sy us b (5 * r + p) a)).1) (nI (r + 1)) (nI 0) (nI 0) (nI 0) f'
      rw [← b2 m, hS, show m + (2 * (d + 1) + 1) = m + (2 * d + 1) + 1 + 1 by omega]
      have low : ∀ z v : Int32, z < nI 6 → F_Model_close (nI n) f1 f2 f4 f5 f6 f7 (m + (2 * d + 1) + 1) 3 (nI q) (bI a.1) (nI r) (nI p) v z f = F_Model_close (nI n) f1 f2 f4 f5 f6 f7 (m + (2 * d + 1)) 2 (nI q) (bI a.1) (nI r) (nI (p + 1)) (nI 0) (nI 0) f := by
        intro z v hz
        show B_Model_close_3 (F_Model_close (nI n) f1 f2 f4 f5 f6 f7 (m + (2 * d + 1))) (nI n) f1 f2 f4 f5 f6 f7 (nI q) (bI a.1) (nI r) (nI p) v z f = _
        simp (disch := omega) only [B_Model_close_3, hz, i_lit, nI_ltI, nI_leI, nI_eq, nI_add, pk_mul, pk_sub, nI_clamp, if_pos, if_neg, if_true, if_false, Option.bind_some, true_or, or_true, false_or, or_false, or_self, not_true_eq_false, not_false_eq_true, i_m1lt, i_m1le, i_nlt1, i_nle1, i_ne1, i_1ne]
      by_cases h00 : a.2 (5 * r + p) = 0
      · rw [← low (-nI 1) (nI 0) (i_m1lt (by omega))]
        show B_Model_close_2 (F_Model_close (nI n) f1 f2 f4 f5 f6 f7 (m + (2 * d + 1) + 1)) (nI n) f1 f2 f4 f5 f6 f7 (nI q) (bI a.1) (nI r) (nI p) (nI 0) (nI 0) f = _
        simp (disch := omega) only [B_Model_close_2, e0, hrow, h00, i_lit, nI_ltI, nI_leI, nI_eq, nI_add, pk_mul, pk_sub, nI_clamp, if_pos, if_neg, if_true, if_false, Option.bind_some, true_or, or_true, false_or, or_false, or_self, not_true_eq_false, not_false_eq_true, i_m1lt, i_m1le, i_nlt1, i_nle1, i_ne1, i_1ne]
      · by_cases hp2 : p < ln r
        · obtain ⟨hy1, hy2⟩ := hs3 p hp2
          have h6 : sy r p < 6 := by
            apply Classical.byContradiction
            intro h6
            exact e ⟨hp2, by omega, h00⟩
          have hsy : S_Model_symbol (nI r) (nI p) f5 f6 = some (nI (sy r p)) := by simp (disch := omega) only [S_Model_symbol, hs2, hy2, i_lit, nI_ltI, nI_leI, nI_eq, nI_add, pk_mul, pk_sub, nI_clamp, if_pos, if_neg, if_true, if_false, Option.bind_some, true_or, or_true, false_or, or_false, or_self, not_true_eq_false, not_false_eq_true, i_m1lt, i_m1le, i_nlt1, i_nle1, i_ne1, i_1ne]
          rw [← low (nI (sy r p)) (nI (a.2 (5 * r + p))) (nI_lt (by omega) (by omega))]
          show B_Model_close_2 (F_Model_close (nI n) f1 f2 f4 f5 f6 f7 (m + (2 * d + 1) + 1)) (nI n) f1 f2 f4 f5 f6 f7 (nI q) (bI a.1) (nI r) (nI p) (nI 0) (nI 0) f = _
          simp (disch := omega) only [B_Model_close_2, e0, hrow, h00, hsy, i_lit, nI_ltI, nI_leI, nI_eq, nI_add, pk_mul, pk_sub, nI_clamp, if_pos, if_neg, if_true, if_false, Option.bind_some, true_or, or_true, false_or, or_false, or_self, not_true_eq_false, not_false_eq_true, i_m1lt, i_m1le, i_nlt1, i_nle1, i_ne1, i_1ne]
        · have hsy : S_Model_symbol (nI r) (nI p) f5 f6 = some (-nI 1) := by simp (disch := omega) only [S_Model_symbol, hs2, i_lit, nI_ltI, nI_leI, nI_eq, nI_add, pk_mul, pk_sub, nI_clamp, if_pos, if_neg, if_true, if_false, Option.bind_some, true_or, or_true, false_or, or_false, or_self, not_true_eq_false, not_false_eq_true, i_m1lt, i_m1le, i_nlt1, i_nle1, i_ne1, i_1ne]
          rw [← low (-nI 1) (nI (a.2 (5 * r + p))) (i_m1lt (by omega))]
          show B_Model_close_2 (F_Model_close (nI n) f1 f2 f4 f5 f6 f7 (m + (2 * d + 1) + 1)) (nI n) f1 f2 f4 f5 f6 f7 (nI q) (bI a.1) (nI r) (nI p) (nI 0) (nI 0) f = _
          simp (disch := omega) only [B_Model_close_2, e0, hrow, h00, hsy, i_lit, nI_ltI, nI_leI, nI_eq, nI_add, pk_mul, pk_sub, nI_clamp, if_pos, if_neg, if_true, if_false, Option.bind_some, true_or, or_true, false_or, or_false, or_self, not_true_eq_false, not_false_eq_true, i_m1lt, i_m1le, i_nlt1, i_nle1, i_ne1, i_1ne]
theorem m_cl1 (hn : n ≤ 10) {f1 f2 f4 f5 f6 f7 f0 : Nat → Int32} (hb : wfb b) (hf : RF b f1 f2) (hl : GLm n lf f4) (hs : GSm 11 ln sy f6 f5) (hu : RB n us f7) (hus : ∀ r, r < 10 → us r = true → r < n) {q : Nat} (hq : q ≤ 40) : ∀ d r a f, r + d = 11 → wfb a.2 → RW q a.2 f0 f →
    ∃ f', RW q (fold (clS lf ln sy us b) (5 * d) (5 * r) a).2 f0 f' ∧ ∀ m, F_Model_close (nI n) f1 f2 f4 f5 f6 f7 (m + 12 * d) 1 (nI q) (bI a.1) (nI r) (nI 0) (nI 0) (nI 0) f = F_Model_close (nI n) f1 f2 f4 f5 f6 f7 m 1 (nI q) (bI (fold (clS lf ln sy us b) (5 * d) (5 * r) a).1) (nI 11) (nI 0) (nI 0) (nI 0) f'
  | 0, r, a, f, hr, hw, h1 => by
    have : r = 11 := by omega
    subst this
    exact ⟨f, h1, fun m => rfl⟩
  | d + 1, r, a, f, hr, hw, h1 => by
    obtain ⟨fa, c1, c2⟩ := m_cl2 hn hb hf hl hs hu hus hq (show r < 11 by omega) 5 0 a f (by omega) hw h1
    have z0 : 5 * r + 0 = 5 * r := rfl
    rw [z0] at c1 c2
    have hw' := (fold_mu (N := 55) (μ := m5) (clS_J (lf := lf) (ln := ln) (sy := sy) (us := us) hb) 5 (5 * r) a (by omega) hw).1
    obtain ⟨f', b1, b2⟩ := m_cl1 hn hb hf hl hs hu hus hq d (r + 1) (fold (clS lf ln sy us b) 5 (5 * r) a) fa (by omega) hw' c1
    have e5 : fold (clS lf ln sy us b) (5 * (d + 1)) (5 * r) a = fold (clS lf ln sy us b) (5 * d) (5 * (r + 1)) (fold (clS lf ln sy us b) 5 (5 * r) a) := by
      rw [show 5 * (d + 1) = 5 + 5 * d by omega, fold_add, show 5 * r + 5 = 5 * (r + 1) by omega]
    rw [e5]
    refine ⟨f', b1, fun m => ?_⟩
    rw [← b2 m, ← c2 (m + 12 * d), show m + 12 * (d + 1) = m + 12 * d + (2 * 5 + 1) + 1 by omega]
    show B_Model_close_1 (F_Model_close (nI n) f1 f2 f4 f5 f6 f7 (m + 12 * d + (2 * 5 + 1))) (nI n) f1 f2 f4 f5 f6 f7 (nI q) (bI a.1) (nI r) (nI 0) (nI 0) (nI 0) f = _
    simp (disch := omega) only [B_Model_close_1, i_lit, nI_ltI, nI_leI, nI_eq, nI_add, pk_mul, pk_sub, nI_clamp, if_pos, if_neg, if_true, if_false, Option.bind_some, true_or, or_true, false_or, or_false, or_self, not_true_eq_false, not_false_eq_true, i_m1lt, i_m1le, i_nlt1, i_nle1, i_ne1, i_1ne]
theorem m_cl0 (hn : n ≤ 10) {f1 f2 f4 f5 f6 f7 f0 : Nat → Int32} (hb : wfb b) (hf : RF b f1 f2) (hl : GLm n lf f4) (hs : GSm 11 ln sy f6 f5) (hu : RB n us f7) (hus : ∀ r, r < 10 → us r = true → r < n) {q : Nat} (hq : q ≤ 40) : ∀ k row f, 70 < m5 row + k → wfb row → RW q row f0 f →
    ∃ C f', C ≤ 134 * k + 1 ∧ RW q (lim (clR lf ln sy us b) k row) f0 f' ∧ ∀ m, F_Model_close (nI n) f1 f2 f4 f5 f6 f7 (m + C) 0 (nI q) (nI 1) (nI 0) (nI 0) (nI 0) (nI 0) f = some f'
  | 0, row, f, hj, hw, h1 => absurd (sm_le (fun i => row (5 * i)) 10) (by simp only [m5] at hj; omega)
  | k + 1, row, f, hj, hw, h1 => by
    obtain ⟨fa, b1, b2⟩ := m_cl1 hn hb hf hl hs hu hus hq 11 0 (false, row) f (by omega) hw h1
    have hfm := fold_mu (N := 55) (μ := m5) (clS_J (lf := lf) (ln := ln) (sy := sy) (us := us) hb) 55 0 (false, row) (by omega) hw
    have s1 : ∀ m, F_Model_close (nI n) f1 f2 f4 f5 f6 f7 (m + 1 + 12 * 11 + 1) 0 (nI q) (nI 1) (nI 0) (nI 0) (nI 0) (nI 0) f = F_Model_close (nI n) f1 f2 f4 f5 f6 f7 m 0 (nI q) (bI (clR lf ln sy us b row).1) (nI 0) (nI 0) (nI 0) (nI 0) fa := by
      intro m
      have e1 : F_Model_close (nI n) f1 f2 f4 f5 f6 f7 (m + 1 + 12 * 11 + 1) 0 (nI q) (nI 1) (nI 0) (nI 0) (nI 0) (nI 0) f = F_Model_close (nI n) f1 f2 f4 f5 f6 f7 (m + 1 + 12 * 11) 1 (nI q) (bI false) (nI 0) (nI 0) (nI 0) (nI 0) f := by
        show B_Model_close_0 (F_Model_close (nI n) f1 f2 f4 f5 f6 f7 (m + 1 + 12 * 11)) (nI n) f1 f2 f4 f5 f6 f7 (nI q) (nI 1) (nI 0) (nI 0) (nI 0) (nI 0) f = _
        simp (disch := omega) only [B_Model_close_0, i_10, bI_f, i_lit, nI_ltI, nI_leI, nI_eq, nI_add, pk_mul, pk_sub, nI_clamp, if_pos, if_neg, if_true, if_false, Option.bind_some, true_or, or_true, false_or, or_false, or_self, not_true_eq_false, not_false_eq_true, i_m1lt, i_m1le, i_nlt1, i_nle1, i_ne1, i_1ne]
      rw [e1, b2 (m + 1)]
      show B_Model_close_1 (F_Model_close (nI n) f1 f2 f4 f5 f6 f7 m) (nI n) f1 f2 f4 f5 f6 f7 (nI q) (bI (clR lf ln sy us b row).1) (nI 11) (nI 0) (nI 0) (nI 0) fa = _
      simp (disch := omega) only [B_Model_close_1, i_lit, nI_ltI, nI_leI, nI_eq, nI_add, pk_mul, pk_sub, nI_clamp, if_pos, if_neg, if_true, if_false, Option.bind_some, true_or, or_true, false_or, or_false, or_self, not_true_eq_false, not_false_eq_true, i_m1lt, i_m1le, i_nlt1, i_nle1, i_ne1, i_1ne]
    cases hc : (clR lf ln sy us b row).1 with
    | true =>
      have hm : m5 row < m5 (clR lf ln sy us b row).2 := by
        rcases hfm.2 with h | ⟨-, h⟩
        · have hc' : (fold (clS lf ln sy us b) 55 0 (false, row)).1 = true := hc
          rw [h] at hc'; cases hc'
        · exact h
      obtain ⟨C2, f', c0, c1, c2⟩ := m_cl0 hn hb hf hl hs hu hus hq k (clR lf ln sy us b row).2 fa (by omega) hfm.1 b1
      refine ⟨C2 + 134, f', by omega, by simp only [lim]; rw [if_pos hc]; exact c1, fun m => ?_⟩
      have := s1 (m + C2)
      rw [hc, bI_t, c2 m] at this
      rw [← this, show m + (C2 + 134) = m + C2 + 1 + 12 * 11 + 1 by omega]
    | false =>
      refine ⟨135, fa, by omega, by simp only [lim]; rw [if_neg (by rw [hc]; simp)]; exact b1, fun m => ?_⟩
      have := s1 (m + 1)
      rw [hc, bI_f] at this
      rw [show m + 135 = m + 1 + 1 + 12 * 11 + 1 by omega, this]
      show B_Model_close_0 (F_Model_close (nI n) f1 f2 f4 f5 f6 f7 m) (nI n) f1 f2 f4 f5 f6 f7 (nI q) (nI 0) (nI 0) (nI 0) (nI 0) (nI 0) fa = _
      simp (disch := omega) only [B_Model_close_0, i_lit, nI_ltI, nI_leI, nI_eq, nI_add, pk_mul, pk_sub, nI_clamp, if_pos, if_neg, if_true, if_false, Option.bind_some, true_or, or_true, false_or, or_false, or_self, not_true_eq_false, not_false_eq_true, i_m1lt, i_m1le, i_nlt1, i_nle1, i_ne1, i_1ne]
theorem m_clo (hn : n ≤ 10) {f1 f2 f4 f5 f6 f7 f0 f : Nat → Int32} (hb : wfb b) (hf : RF b f1 f2) (hl : GLm n lf f4) (hs : GSm 11 ln sy f6 f5) (hu : RB n us f7) (hus : ∀ r, r < 10 → us r = true → r < n) {q : Nat} (hq : q ≤ 40) {row : Nat → Nat} (hw : wfb row) (h1 : RW q row f0 f) :
    ∃ f', S_Model_close (nI q) (nI n) f1 f2 f f4 f5 f6 f7 = some f' ∧ RW q (clo lf ln sy us b row) f0 f' := by
  obtain ⟨C, f', c0, c1, c2⟩ := m_cl0 hn hb hf hl hs hu hus hq 71 row f (by omega) hw h1
  obtain ⟨m, hm⟩ := fuelled (k := C) (by omega)
  exact ⟨f', by rw [S_Model_close, hm]; exact c2 m, c1⟩
end
