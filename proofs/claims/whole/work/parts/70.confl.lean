/-! conflicts, of both -/
theorem i_andp {v t : Nat} (hv : v < 128) (ht : t < 7) : (nI v &&& nI (2 ^ t) = nI 0) ↔ v.testBit t = false := by
  have h1 : (List.range 128).all (fun v => (List.range 7).all fun t => decide ((nI v &&& nI (2 ^ t) = nI 0) ↔ v.testBit t = false)) = true := by decide +kernel
  exact of_decide_eq_true (List.all_eq_true.mp (List.all_eq_true.mp h1 v (List.mem_range.mpr hv)) t (List.mem_range.mpr ht))
theorem i_and0 {a c : Nat} (ha : a < 128) (hc : c < 128) : (nI a &&& nI c = nI 0) ↔ ¬ ∃ t, t < 7 ∧ a.testBit t = true ∧ c.testBit t = true := by
  have hl : a &&& c < 128 := Nat.lt_of_le_of_lt Nat.and_le_left ha
  rw [i_and, nI_eq (by omega) (by omega)]
  constructor
  · rintro h ⟨t, h1, h2, h3⟩
    have : (a &&& c).testBit t = true := by rw [Nat.testBit_and, h2, h3]; rfl
    rw [h] at this
    simp at this
  · intro h
    apply Classical.byContradiction
    intro hne
    obtain ⟨t, h1, h2⟩ := (bit_0 hl).mp hne
    rw [Nat.testBit_and, Bool.and_eq_true] at h2
    exact h ⟨t, h1, h2.1, h2.2⟩
def CF (ln : Nat → Nat) (us : Nat → Bool) (row : Nat → Nat) (tq : Nat → Option Nat) : Prop :=
  ∃ r t, r < 11 ∧ us r = true ∧ t < 7 ∧ (row (5 * r + ln r)).testBit t = true ∧ ((t < 6 ∧ tq t ≠ none) ∨ ∃ r', r' < 11 ∧ r' ≠ r ∧ us r' = true ∧ (row (5 * r' + ln r')).testBit t = true)
section
variable {ln : Nat → Nat} {sy : Nat → Nat → Nat} {us : Nat → Bool}
theorem c_ra {m q r : Nat} (hm : m ≤ 40) (hq : q < m) (hr : r < 11) {v : Nat} (hv : v < 128) {f2 f3 : Nat → Int32} {tq : Nat → Option Nat} (ht : ∀ t, t < 12 → f3 (q * 12 + t) = oI (tq t)) (htl : ∀ t k, tq t = some k → k < 40) (sz : Int32) : ∀ d t (rd : Nat → Option Nat) (f : Nat → Int32), t + d = 7 → (∀ t, t < 7 → f (q * 7 + t) = oI (rd t)) → (∀ t k, rd t = some k → k < 11) →
    (∃ f', (∀ k, F_States_reduceAtEnd (nI m) f2 f3 (k + (d + 1)) 0 (nI q) (nI r) sz (nI v) (nI t) f = some (nI 1, f')) ∧ (∀ j, ¬ (q * 7 ≤ j ∧ j < q * 7 + 7) → f' j = f j) ∧ (∀ t', t' < 7 → f' (q * 7 + t') = oI (if t ≤ t' ∧ v.testBit t' = true then some r else rd t')) ∧ ∀ t', t ≤ t' → t' < 7 → v.testBit t' = true → rd t' = none ∧ (t' < 6 → tq t' = none)) ∨
    (∃ f' C, C ≤ d + 1 ∧ (∀ k, F_States_reduceAtEnd (nI m) f2 f3 (k + C) 0 (nI q) (nI r) sz (nI v) (nI t) f = some (nI 0, f')) ∧ ∃ t', t ≤ t' ∧ t' < 7 ∧ v.testBit t' = true ∧ (rd t' ≠ none ∨ (t' < 6 ∧ tq t' ≠ none)))
  | 0, t, rd, f, hd, h1, hrl => by
    refine Or.inl ⟨f, fun k => ?_, fun _ _ => rfl, fun t' h2 => by rw [if_neg (by omega)]; exact h1 t' h2, fun t' h2 h3 => absurd h3 (by omega)⟩
    show B_States_reduceAtEnd_0 (F_States_reduceAtEnd (nI m) f2 f3 k) (nI m) f2 f3 (nI q) (nI r) sz (nI v) (nI t) f = _
    simp (disch := omega) only [B_States_reduceAtEnd_0, i_lit, nI_ltI, nI_leI, nI_eq, nI_add, pk_mul, pk_sub, nI_clamp, if_pos, if_neg, if_true, if_false, Option.bind_some, true_or, or_true, false_or, or_false, or_self, not_true_eq_false, not_false_eq_true, i_m1lt, i_m1le, i_nlt1, i_nle1, i_ne1, i_1ne]
  | d + 1, t, rd, f, hd, h1, hrl => by
    have ht7 : t < 7 := by omega
    have hand := i_andp hv ht7
    have hsh := i_shl ht7
    cases hbt : v.testBit t with
    | false =>
      have h0 := hand.mpr hbt
      have st : ∀ k, F_States_reduceAtEnd (nI m) f2 f3 (k + 1) 0 (nI q) (nI r) sz (nI v) (nI t) f = F_States_reduceAtEnd (nI m) f2 f3 k 0 (nI q) (nI r) sz (nI v) (nI (t + 1)) f := by
        intro k
        show B_States_reduceAtEnd_0 (F_States_reduceAtEnd (nI m) f2 f3 k) (nI m) f2 f3 (nI q) (nI r) sz (nI v) (nI t) f = _
        simp (disch := omega) only [B_States_reduceAtEnd_0, hsh, h0, i_lit, nI_ltI, nI_leI, nI_eq, nI_add, pk_mul, pk_sub, nI_clamp, if_pos, if_neg, if_true, if_false, Option.bind_some, true_or, or_true, false_or, or_false, or_self, not_true_eq_false, not_false_eq_true, i_m1lt, i_m1le, i_nlt1, i_nle1, i_ne1, i_1ne]
      rcases c_ra (f2 := f2) hm hq hr hv ht htl sz d (t + 1) rd f (by omega) h1 hrl with ⟨f', c1, c2, c3, c4⟩ | ⟨f', C, c0, c1, t', c2, c3⟩
      · refine Or.inl ⟨f', fun k => by rw [show k + (d + 1 + 1) = k + (d + 1) + 1 by omega, st]; exact c1 k, c2, fun t' h2 => ?_, fun t' h2 h3 h4 => ?_⟩
        · rw [c3 t' h2]
          by_cases e : t' = t
          · subst e; rw [if_neg (by omega), if_neg (by rw [hbt]; simp)]
          · by_cases e2 : t + 1 ≤ t' ∧ v.testBit t' = true
            · rw [if_pos e2, if_pos ⟨by omega, e2.2⟩]
            · rw [if_neg e2, if_neg (fun h => e2 ⟨by omega, h.2⟩)]
        · by_cases e : t' = t
          · subst e; rw [hbt] at h4; cases h4
          · exact c4 t' (by omega) h3 h4
      · exact Or.inr ⟨f', C + 1, by omega, fun k => by rw [show k + (C + 1) = k + C + 1 by omega, st]; exact c1 k, t', by omega, c3⟩
    | true =>
      have h0 : ¬ (nI v &&& nI (2 ^ t) = nI 0) := fun h => by rw [hand.mp h] at hbt; cases hbt
      have hrd : S_States_reducedBy (nI q) (nI t) (nI m) f = some (oI (rd t)) := by simp (disch := omega) only [S_States_reducedBy, h1 t ht7, i_lit, nI_ltI, nI_leI, nI_eq, nI_add, pk_mul, pk_sub, nI_clamp, if_pos, if_neg, if_true, if_false, Option.bind_some, true_or, or_true, false_or, or_false, or_self, not_true_eq_false, not_false_eq_true, i_m1lt, i_m1le, i_nlt1, i_nle1, i_ne1, i_1ne]
      have htg : S_States_targetOf (nI q) (nI t) (nI m) f3 = some (oI (tq t)) := by simp (disch := omega) only [S_States_targetOf, ht t (by omega), i_lit, nI_ltI, nI_leI, nI_eq, nI_add, pk_mul, pk_sub, nI_clamp, if_pos, if_neg, if_true, if_false, Option.bind_some, true_or, or_true, false_or, or_false, or_self, not_true_eq_false, not_false_eq_true, i_m1lt, i_m1le, i_nlt1, i_nle1, i_ne1, i_1ne]
      have hz : ¬ ¬ (nI 0 = nI 0) := by simp
      by_cases hcf : rd t ≠ none ∨ (t < 6 ∧ tq t ≠ none)
      · refine Or.inr ⟨f, 1, by omega, fun k => ?_, t, by omega, ht7, hbt, hcf⟩
        show B_States_reduceAtEnd_0 (F_States_reduceAtEnd (nI m) f2 f3 k) (nI m) f2 f3 (nI q) (nI r) sz (nI v) (nI t) f = _
        by_cases e6 : t = 6
        · rcases hcf with hcf | hcf
          · cases hrt : rd t with
            | none => exact absurd hrt hcf
            | some r1 =>
              rw [hrt, oI_s] at hrd
              have := hrl t r1 hrt
              simp (disch := omega) only [B_States_reduceAtEnd_0, hsh, h0, e6, hz, hrd, i_lit, nI_ltI, nI_leI, nI_eq, nI_add, pk_mul, pk_sub, nI_clamp, if_pos, if_neg, if_true, if_false, Option.bind_some, true_or, or_true, false_or, or_false, or_self, not_true_eq_false, not_false_eq_true, i_m1lt, i_m1le, i_nlt1, i_nle1, i_ne1, i_1ne]
              rw [e6] at hrd h0 hsh
              simp (disch := omega) only [hsh, h0, hrd, i_lit, nI_ltI, nI_leI, nI_eq, nI_add, pk_mul, pk_sub, nI_clamp, if_pos, if_neg, if_true, if_false, Option.bind_some, true_or, or_true, false_or, or_false, or_self, not_true_eq_false, not_false_eq_true, i_m1lt, i_m1le, i_nlt1, i_nle1, i_ne1, i_1ne]
          · omega
        · cases htt : tq t with
          | some k1 =>
            rw [htt, oI_s] at htg
            have := htl t k1 htt
            simp (disch := omega) only [B_States_reduceAtEnd_0, hsh, h0, e6, htg, i_10, i_lit, nI_ltI, nI_leI, nI_eq, nI_add, pk_mul, pk_sub, nI_clamp, if_pos, if_neg, if_true, if_false, Option.bind_some, true_or, or_true, false_or, or_false, or_self, not_true_eq_false, not_false_eq_true, i_m1lt, i_m1le, i_nlt1, i_nle1, i_ne1, i_1ne]
          | none =>
            rw [htt, oI_n] at htg
            cases hrt : rd t with
            | none =>
              rcases hcf with hcf | hcf
              · exact absurd hrt hcf
              · exact absurd htt hcf.2
            | some r1 =>
              rw [hrt, oI_s] at hrd
              have := hrl t r1 hrt
              simp (disch := omega) only [B_States_reduceAtEnd_0, hsh, h0, e6, htg, i_m1neg, hz, hrd, i_lit, nI_ltI, nI_leI, nI_eq, nI_add, pk_mul, pk_sub, nI_clamp, if_pos, if_neg, if_true, if_false, Option.bind_some, true_or, or_true, false_or, or_false, or_self, not_true_eq_false, not_false_eq_true, i_m1lt, i_m1le, i_nlt1, i_nle1, i_ne1, i_1ne]
      · have hrt : rd t = none := Classical.byContradiction fun h => hcf (Or.inl h)
        have htt : t < 6 → tq t = none := fun h6 => Classical.byContradiction fun h => hcf (Or.inr ⟨h6, h⟩)
        rw [hrt, oI_n] at hrd
        have st : ∀ k, F_States_reduceAtEnd (nI m) f2 f3 (k + 1) 0 (nI q) (nI r) sz (nI v) (nI t) f = F_States_reduceAtEnd (nI m) f2 f3 k 0 (nI q) (nI r) sz (nI v) (nI (t + 1)) (upd f (q * 7 + t) (nI r)) := by
          intro k
          show B_States_reduceAtEnd_0 (F_States_reduceAtEnd (nI m) f2 f3 k) (nI m) f2 f3 (nI q) (nI r) sz (nI v) (nI t) f = _
          by_cases e6 : t = 6
          · subst e6
            simp (disch := omega) only [B_States_reduceAtEnd_0, hsh, h0, hz, hrd, i_m1neg, i_lit, nI_ltI, nI_leI, nI_eq, nI_add, pk_mul, pk_sub, nI_clamp, if_pos, if_neg, if_true, if_false, Option.bind_some, true_or, or_true, false_or, or_false, or_self, not_true_eq_false, not_false_eq_true, i_m1lt, i_m1le, i_nlt1, i_nle1, i_ne1, i_1ne]
          · rw [htt (by omega), oI_n] at htg
            simp (disch := omega) only [B_States_reduceAtEnd_0, hsh, h0, e6, htg, i_m1neg, hz, hrd, i_lit, nI_ltI, nI_leI, nI_eq, nI_add, pk_mul, pk_sub, nI_clamp, if_pos, if_neg, if_true, if_false, Option.bind_some, true_or, or_true, false_or, or_false, or_self, not_true_eq_false, not_false_eq_true, i_m1lt, i_m1le, i_nlt1, i_nle1, i_ne1, i_1ne]
        have h1' : ∀ t', t' < 7 → upd f (q * 7 + t) (nI r) (q * 7 + t') = oI (if t' = t then some r else rd t') := by
          intro t' h2
          by_cases e : t' = t
          · rw [e, pk_us, if_pos rfl, oI_s]
          · rw [pk_un (by omega), if_neg e]; exact h1 t' h2
        rcases c_ra (f2 := f2) hm hq hr hv ht htl sz d (t + 1) (fun t' => if t' = t then some r else rd t') (upd f (q * 7 + t) (nI r)) (by omega) h1' (fun t' k hk => by
          by_cases e : t' = t
          · simp only [if_pos e] at hk; cases hk; exact hr
          · simp only [if_neg e] at hk; exact hrl t' k hk) with ⟨f', c1, c2, c3, c4⟩ | ⟨f', C, c0, c1, t', c2, c3, c4, c5⟩
        · refine Or.inl ⟨f', fun k => by rw [show k + (d + 1 + 1) = k + (d + 1) + 1 by omega, st]; exact c1 k, fun j hj => by rw [c2 j hj, pk_un (by omega)], fun t' h2 => ?_, fun t' h2 h3 h4 => ?_⟩
          · rw [c3 t' h2]
            by_cases e : t' = t
            · subst e; rw [if_neg (by omega), if_pos rfl, if_pos ⟨by omega, hbt⟩]
            · rw [if_neg (c := t' = t) e]
              by_cases e2 : t + 1 ≤ t' ∧ v.testBit t' = true
              · rw [if_pos e2, if_pos ⟨by omega, e2.2⟩]
              · rw [if_neg e2, if_neg (fun h => e2 ⟨by omega, h.2⟩)]
          · by_cases e : t' = t
            · rw [e]; exact ⟨hrt, htt⟩
            · have := c4 t' (by omega) h3 h4
              simp only [if_neg e] at this
              exact this
        · refine Or.inr ⟨f', C + 1, by omega, fun k => by rw [show k + (C + 1) = k + C + 1 by omega, st]; exact c1 k, t', by omega, c3, c4, ?_⟩
          simp only [if_neg (show ¬ t' = t by omega)] at c5
          exact c5
/-- which rules are at their end, among the first r -/
def RQ (ln : Nat → Nat) (us : Nat → Bool) (row : Nat → Nat) (tq : Nat → Option Nat) (r : Nat) (rd : Nat → Option Nat) : Prop :=
  (∀ t r', t < 7 → (rd t = some r' ↔ r' < r ∧ us r' = true ∧ (row (5 * r' + ln r')).testBit t = true)) ∧ ∀ t r', t < 6 → r' < r → us r' = true → (row (5 * r' + ln r')).testBit t = true → tq t = none
theorem c_mr2 {m q : Nat} (hm : m ≤ 40) (hq : q < m) {f2 f3 f5 f6 : Nat → Int32} (h5 : ∀ r, r < 11 → ln r ≤ 4 ∧ f5 r = nI (ln r)) (h6 : RB 12 us f6) {row : Nat → Nat} (hw : wfb row) (h2 : ∀ c, c < 55 → f2 (55 * q + c) = nI (row c)) {tq : Nat → Option Nat} (ht : ∀ t, t < 12 → f3 (q * 12 + t) = oI (tq t)) (htl : ∀ t k, tq t = some k → k < 40) : ∀ d r (rd : Nat → Option Nat) (f : Nat → Int32), r + d = 11 → (∀ t, t < 7 → f (q * 7 + t) = oI (rd t)) → (∀ t k, rd t = some k → k < 11) → RQ ln us row tq r rd →
    (∃ (f' : Nat → Int32) (rd' : Nat → Option Nat), (∀ k, F_States_makeReduced (nI m) f2 f3 f5 f6 (k + (d + 1)) 2 (nI q) (nI r) f = F_States_makeReduced (nI m) f2 f3 f5 f6 k 0 (nI (q + 1)) (nI 0) f') ∧ (∀ j, ¬ (q * 7 ≤ j ∧ j < q * 7 + 7) → f' j = f j) ∧ (∀ t, t < 7 → f' (q * 7 + t) = oI (rd' t)) ∧ RQ ln us row tq 11 rd') ∨
    (∃ f' C, C ≤ d + 1 ∧ (∀ k, F_States_makeReduced (nI m) f2 f3 f5 f6 (k + C) 2 (nI q) (nI r) f = some (nI 0, f')) ∧ CF ln us row tq)
  | 0, r, rd, f, hd, h1, hrl, hQ => by
    have : r = 11 := by omega
    subst this
    refine Or.inl ⟨f, rd, fun k => ?_, fun _ _ => rfl, h1, hQ⟩
    show B_States_makeReduced_2 (F_States_makeReduced (nI m) f2 f3 f5 f6 k) (nI m) f2 f3 f5 f6 (nI q) (nI 11) f = _
    simp (disch := omega) only [B_States_makeReduced_2, i_lit, nI_ltI, nI_leI, nI_eq, nI_add, pk_mul, pk_sub, nI_clamp, if_pos, if_neg, if_true, if_false, Option.bind_some, true_or, or_true, false_or, or_false, or_self, not_true_eq_false, not_false_eq_true, i_m1lt, i_m1le, i_nlt1, i_nle1, i_ne1, i_1ne]
  | d + 1, r, rd, f, hd, h1, hrl, hQ => by
    have hu := h6 r (by omega)
    cases hc : us r with
    | false =>
      rw [hc, bI_f] at hu
      have hus : S_Grammar_isUsed (nI r) f6 = some (nI 0) := by simp (disch := omega) only [S_Grammar_isUsed, hu, i_lit, nI_ltI, nI_leI, nI_eq, nI_add, pk_mul, pk_sub, nI_clamp, if_pos, if_neg, if_true, if_false, Option.bind_some, true_or, or_true, false_or, or_false, or_self, not_true_eq_false, not_false_eq_true, i_m1lt, i_m1le, i_nlt1, i_nle1, i_ne1, i_1ne]
      have st : ∀ k, F_States_makeReduced (nI m) f2 f3 f5 f6 (k + 1) 2 (nI q) (nI r) f = F_States_makeReduced (nI m) f2 f3 f5 f6 k 2 (nI q) (nI (r + 1)) f := by
        intro k
        show B_States_makeReduced_2 (F_States_makeReduced (nI m) f2 f3 f5 f6 k) (nI m) f2 f3 f5 f6 (nI q) (nI r) f = _
        simp (disch := omega) only [B_States_makeReduced_2, hus, i_lit, nI_ltI, nI_leI, nI_eq, nI_add, pk_mul, pk_sub, nI_clamp, if_pos, if_neg, if_true, if_false, Option.bind_some, true_or, or_true, false_or, or_false, or_self, not_true_eq_false, not_false_eq_true, i_m1lt, i_m1le, i_nlt1, i_nle1, i_ne1, i_1ne]
      have hQ' : RQ ln us row tq (r + 1) rd := by
        refine ⟨fun t r' h7 => (hQ.1 t r' h7).trans ⟨fun h => ⟨by omega, h.2⟩, fun h => ⟨?_, h.2⟩⟩, fun t r' h7 hr' hu' hb' => hQ.2 t r' h7 ?_ hu' hb'⟩
        · have : r' ≠ r := fun e => by rw [e, hc] at h; cases h.2.1
          omega
        · have : r' ≠ r := fun e => by rw [e, hc] at hu'; cases hu'
          omega
      rcases c_mr2 hm hq h5 h6 hw h2 ht htl d (r + 1) rd f (by omega) h1 hrl hQ' with ⟨f', rd', c1, c2, c3, c4⟩ | ⟨f', C, c0, c1, c2⟩
      · exact Or.inl ⟨f', rd', fun k => by rw [show k + (d + 1 + 1) = k + (d + 1) + 1 by omega, st]; exact c1 k, c2, c3, c4⟩
      · exact Or.inr ⟨f', C + 1, by omega, fun k => by rw [show k + (C + 1) = k + C + 1 by omega, st]; exact c1 k, c2⟩
    | true =>
      rw [hc, bI_t] at hu
      have hus : S_Grammar_isUsed (nI r) f6 = some (nI 1) := by simp (disch := omega) only [S_Grammar_isUsed, hu, i_10, i_lit, nI_ltI, nI_leI, nI_eq, nI_add, pk_mul, pk_sub, nI_clamp, if_pos, if_neg, if_true, if_false, Option.bind_some, true_or, or_true, false_or, or_false, or_self, not_true_eq_false, not_false_eq_true, i_m1lt, i_m1le, i_nlt1, i_nle1, i_ne1, i_1ne]
      obtain ⟨h51, h52⟩ := h5 r (by omega)
      have hsz : S_Grammar_sizeOf (nI r) f5 = some (nI (ln r)) := by simp (disch := omega) only [S_Grammar_sizeOf, h52, i_lit, nI_ltI, nI_leI, nI_eq, nI_add, pk_mul, pk_sub, nI_clamp, if_pos, if_neg, if_true, if_false, Option.bind_some, true_or, or_true, false_or, or_false, or_self, not_true_eq_false, not_false_eq_true, i_m1lt, i_m1le, i_nlt1, i_nle1, i_ne1, i_1ne]
      have hrow := h2 (5 * r + ln r) (by omega)
      have e0 : q * 55 + r * 5 + ln r = 55 * q + (5 * r + ln r) := by omega
      have hS : ∀ g, S_States_reduceAtEnd (nI q) (nI r) (nI (ln r)) (nI m) g f2 f3 = F_States_reduceAtEnd (nI m) f2 f3 fuel_ 0 (nI q) (nI r) (nI (ln r)) (nI (row (5 * r + ln r))) (nI 0) g := by
        intro g
        simp (disch := omega) only [S_States_reduceAtEnd, e0, hrow, i_lit, nI_ltI, nI_leI, nI_eq, nI_add, pk_mul, pk_sub, nI_clamp, if_pos, if_neg, if_true, if_false, Option.bind_some, true_or, or_true, false_or, or_false, or_self, not_true_eq_false, not_false_eq_true, i_m1lt, i_m1le, i_nlt1, i_nle1, i_ne1, i_1ne]
      obtain ⟨z, hz⟩ := fuelled (k := 8) (by omega)
      rcases c_ra (f2 := f2) hm hq (show r < 11 by omega) (hw (5 * r + ln r)) ht htl (nI (ln r)) 7 0 rd f (by omega) h1 hrl with ⟨f1, c1, c2, c3, c4⟩ | ⟨f1, C, c0, c1, t', c2, c3, c4, c5⟩
      · have hre : S_States_reduceAtEnd (nI q) (nI r) (nI (ln r)) (nI m) f f2 f3 = some (nI 1, f1) := by rw [hS, hz]; exact c1 z
        have st : ∀ k, F_States_makeReduced (nI m) f2 f3 f5 f6 (k + 1) 2 (nI q) (nI r) f = F_States_makeReduced (nI m) f2 f3 f5 f6 k 2 (nI q) (nI (r + 1)) f1 := by
          intro k
          show B_States_makeReduced_2 (F_States_makeReduced (nI m) f2 f3 f5 f6 k) (nI m) f2 f3 f5 f6 (nI q) (nI r) f = _
          simp (disch := omega) only [B_States_makeReduced_2, hus, i_10, hsz, hre, i_lit, nI_ltI, nI_leI, nI_eq, nI_add, pk_mul, pk_sub, nI_clamp, if_pos, if_neg, if_true, if_false, Option.bind_some, true_or, or_true, false_or, or_false, or_self, not_true_eq_false, not_false_eq_true, i_m1lt, i_m1le, i_nlt1, i_nle1, i_ne1, i_1ne]
        have hQ' : RQ ln us row tq (r + 1) (fun t' => if 0 ≤ t' ∧ (row (5 * r + ln r)).testBit t' = true then some r else rd t') := by
          constructor
          · intro t r' h7
            simp only
            by_cases e : 0 ≤ t ∧ (row (5 * r + ln r)).testBit t = true
            · rw [if_pos e]
              constructor
              · intro h; cases h; exact ⟨by omega, hc, e.2⟩
              · rintro ⟨g1, g2, g3⟩
                by_cases er : r' = r
                · rw [er]
                · have := (hQ.1 t r' h7).mpr ⟨by omega, g2, g3⟩
                  rw [(c4 t (by omega) h7 e.2).1] at this; cases this
            · rw [if_neg e]
              refine (hQ.1 t r' h7).trans ⟨fun h => ⟨by omega, h.2⟩, fun h => ⟨?_, h.2⟩⟩
              have : r' ≠ r := fun er => e ⟨by omega, by rw [← er]; exact h.2.2⟩
              omega
          · intro t r' h7 hr' hu' hb'
            by_cases er : r' = r
            · rw [er] at hb'; exact (c4 t (by omega) (by omega) hb').2 h7
            · exact hQ.2 t r' h7 (by omega) hu' hb'
        rcases c_mr2 hm hq h5 h6 hw h2 ht htl d (r + 1) _ f1 (by omega) c3 (fun t k hk => by
          by_cases e : 0 ≤ t ∧ (row (5 * r + ln r)).testBit t = true
          · simp only [if_pos e] at hk; cases hk; omega
          · simp only [if_neg e] at hk; exact hrl t k hk) hQ' with ⟨f', rd', d1, d2, d3, d4⟩ | ⟨f', C, d0, d1, d2⟩
        · exact Or.inl ⟨f', rd', fun k => by rw [show k + (d + 1 + 1) = k + (d + 1) + 1 by omega, st]; exact d1 k, fun j hj => by rw [d2 j hj, c2 j hj], d3, d4⟩
        · exact Or.inr ⟨f', C + 1, by omega, fun k => by rw [show k + (C + 1) = k + C + 1 by omega, st]; exact d1 k, d2⟩
      · have hre : S_States_reduceAtEnd (nI q) (nI r) (nI (ln r)) (nI m) f f2 f3 = some (nI 0, f1) := by
          rw [hS, hz, show z + 8 = z + (8 - C) + C by omega]; exact c1 _
        refine Or.inr ⟨f1, 1, by omega, fun k => ?_, r, t', by omega, hc, c3, c4, ?_⟩
        · show B_States_makeReduced_2 (F_States_makeReduced (nI m) f2 f3 f5 f6 k) (nI m) f2 f3 f5 f6 (nI q) (nI r) f = _
          simp (disch := omega) only [B_States_makeReduced_2, hus, i_10, hsz, hre, i_lit, nI_ltI, nI_leI, nI_eq, nI_add, pk_mul, pk_sub, nI_clamp, if_pos, if_neg, if_true, if_false, Option.bind_some, true_or, or_true, false_or, or_false, or_self, not_true_eq_false, not_false_eq_true, i_m1lt, i_m1le, i_nlt1, i_nle1, i_ne1, i_1ne]
        · rcases c5 with c5 | c5
          · right
            cases hrt : rd t' with
            | none => exact absurd hrt c5
            | some r' =>
              have := (hQ.1 t' r' c3).mp hrt
              exact ⟨r', by omega, by omega, this.2.1, this.2.2⟩
          · exact Or.inl c5
theorem c_mr1 {m q : Nat} (hm : m ≤ 40) (hq : q < m) {f2 f3 f5 f6 : Nat → Int32} : ∀ d t f, t + d = 7 → (∀ t', t' < t → f (q * 7 + t') = -nI 1) →
    ∃ f', (∀ k, F_States_makeReduced (nI m) f2 f3 f5 f6 (k + (d + 1)) 1 (nI q) (nI t) f = F_States_makeReduced (nI m) f2 f3 f5 f6 k 2 (nI q) (nI 0) f') ∧ (∀ j, ¬ (q * 7 ≤ j ∧ j < q * 7 + 7) → f' j = f j) ∧ ∀ t, t < 7 → f' (q * 7 + t) = -nI 1
  | 0, t, f, hd, h1 => by
    have : t = 7 := by omega
    subst this
    refine ⟨f, fun k => ?_, fun _ _ => rfl, h1⟩
    show B_States_makeReduced_1 (F_States_makeReduced (nI m) f2 f3 f5 f6 k) (nI m) f2 f3 f5 f6 (nI q) (nI 7) f = _
    simp (disch := omega) only [B_States_makeReduced_1, i_lit, nI_ltI, nI_leI, nI_eq, nI_add, pk_mul, pk_sub, nI_clamp, if_pos, if_neg, if_true, if_false, Option.bind_some, true_or, or_true, false_or, or_false, or_self, not_true_eq_false, not_false_eq_true, i_m1lt, i_m1le, i_nlt1, i_nle1, i_ne1, i_1ne]
  | d + 1, t, f, hd, h1 => by
    obtain ⟨f', c1, c2, c3⟩ := c_mr1 (f2 := f2) (f3 := f3) (f5 := f5) (f6 := f6) hm hq d (t + 1) (upd f (q * 7 + t) (-nI 1)) (by omega) (fun t' h => by
      by_cases e : t' = t
      · rw [e, pk_us]
      · rw [pk_un (by omega)]; exact h1 t' (by omega))
    refine ⟨f', fun k => ?_, fun j hj => by rw [c2 j hj, pk_un (by omega)], c3⟩
    rw [← c1 k]
    show B_States_makeReduced_1 (F_States_makeReduced (nI m) f2 f3 f5 f6 (k + (d + 1))) (nI m) f2 f3 f5 f6 (nI q) (nI t) f = _
    simp (disch := omega) only [B_States_makeReduced_1, i_lit, nI_ltI, nI_leI, nI_eq, nI_add, pk_mul, pk_sub, nI_clamp, if_pos, if_neg, if_true, if_false, Option.bind_some, true_or, or_true, false_or, or_false, or_self, not_true_eq_false, not_false_eq_true, i_m1lt, i_m1le, i_nlt1, i_nle1, i_ne1, i_1ne]
theorem c_mr0 {m : Nat} (hm : m ≤ 40) {f2 f3 f5 f6 : Nat → Int32} (h5 : ∀ r, r < 11 → ln r ≤ 4 ∧ f5 r = nI (ln r)) (h6 : RB 12 us f6) {rows : Nat → Nat → Nat} (hw : ∀ q, q < m → wfb (rows q)) (h2 : RS rows m f2) {tg : Nat → Nat → Option Nat} (ht : RT tg m 0 f3) (htl : ∀ q t k, q < m → t < 12 → tg q t = some k → k < 40) : ∀ d q f, q + d = m →
    (∃ (f' : Nat → Int32) (rd : Nat → Nat → Option Nat), (∃ C, C ≤ 30 * d + 1 ∧ ∀ k, F_States_makeReduced (nI m) f2 f3 f5 f6 (k + C) 0 (nI q) (nI 0) f = some (nI 1, f')) ∧ (∀ j, j < q * 7 → f' j = f j) ∧ (∀ q' t, q ≤ q' → q' < m → t < 7 → f' (q' * 7 + t) = oI (rd q' t)) ∧ ∀ q', q ≤ q' → q' < m → RQ ln us (rows q') (fun t => if t < 12 then tg q' t else none) 11 (rd q')) ∨
    (∃ f' C, C ≤ 30 * d + 1 ∧ (∀ k, F_States_makeReduced (nI m) f2 f3 f5 f6 (k + C) 0 (nI q) (nI 0) f = some (nI 0, f')) ∧ ∃ q', q ≤ q' ∧ q' < m ∧ CF ln us (rows q') (fun t => if t < 12 then tg q' t else none))
  | 0, q, f, hd => by
    refine Or.inl ⟨f, fun _ _ => none, ⟨1, by omega, fun k => ?_⟩, fun _ _ => rfl, fun q' t h1 h3 => absurd h3 (by omega), fun q' h1 h3 => absurd h3 (by omega)⟩
    show B_States_makeReduced_0 (F_States_makeReduced (nI m) f2 f3 f5 f6 k) (nI m) f2 f3 f5 f6 (nI q) (nI 0) f = _
    simp (disch := omega) only [B_States_makeReduced_0, i_lit, nI_ltI, nI_leI, nI_eq, nI_add, pk_mul, pk_sub, nI_clamp, if_pos, if_neg, if_true, if_false, Option.bind_some, true_or, or_true, false_or, or_false, or_self, not_true_eq_false, not_false_eq_true, i_m1lt, i_m1le, i_nlt1, i_nle1, i_ne1, i_1ne]
  | d + 1, q, f, hd => by
    have hq : q < m := by omega
    obtain ⟨fa, a1, a2, a3⟩ := c_mr1 (f2 := f2) (f3 := f3) (f5 := f5) (f6 := f6) hm hq 7 0 f (by omega) (fun t' h => absurd h (by omega))
    have st : ∀ k, F_States_makeReduced (nI m) f2 f3 f5 f6 (k + 8 + 1) 0 (nI q) (nI 0) f = F_States_makeReduced (nI m) f2 f3 f5 f6 k 2 (nI q) (nI 0) fa := by
      intro k
      rw [← a1 k]
      show B_States_makeReduced_0 (F_States_makeReduced (nI m) f2 f3 f5 f6 (k + 8)) (nI m) f2 f3 f5 f6 (nI q) (nI 0) f = _
      simp (disch := omega) only [B_States_makeReduced_0, i_lit, nI_ltI, nI_leI, nI_eq, nI_add, pk_mul, pk_sub, nI_clamp, if_pos, if_neg, if_true, if_false, Option.bind_some, true_or, or_true, false_or, or_false, or_self, not_true_eq_false, not_false_eq_true, i_m1lt, i_m1le, i_nlt1, i_nle1, i_ne1, i_1ne]
    have htq : ∀ t, t < 12 → f3 (q * 12 + t) = oI ((fun t => if t < 12 then tg q t else none) t) := by
      intro t h
      simp only [if_pos h]
      rw [show q * 12 + t = 12 * q + t by omega]
      exact ht q t h (by omega)
    rcases c_mr2 hm hq h5 h6 (hw q hq) (h2 q hq) htq (fun t k hk => by
      by_cases e : t < 12
      · simp only [if_pos e] at hk; exact htl q t k hq e hk
      · simp only [if_neg e] at hk; cases hk) 11 0 (fun _ => none) fa (by omega) (fun t h => by rw [a3 t h]; rfl) (fun t k hk => by cases hk) ⟨fun t r' _ => ⟨fun h => (by cases h), fun h => absurd h.1 (by omega)⟩, fun t r' _ h => absurd h (by omega)⟩ with ⟨f1, rd1, c1, c2, c3, c4⟩ | ⟨f1, C, c0, c1, c2⟩
    · have st2 : ∀ k, F_States_makeReduced (nI m) f2 f3 f5 f6 (k + 12 + 8 + 1) 0 (nI q) (nI 0) f = F_States_makeReduced (nI m) f2 f3 f5 f6 k 0 (nI (q + 1)) (nI 0) f1 := fun k => by rw [st, ← c1 k]
      rcases c_mr0 hm h5 h6 hw h2 ht htl d (q + 1) f1 (by omega) with ⟨f', rd, ⟨C, d0, d1⟩, d2, d3, d4⟩ | ⟨f', C, d0, d1, q', d2, d3, d4⟩
      · refine Or.inl ⟨f', fun q' => if q' = q then rd1 else rd q', ⟨C + 21, by omega, fun k => by rw [show k + (C + 21) = k + C + 12 + 8 + 1 by omega, st2]; exact d1 k⟩, fun j hj => by rw [d2 j (by omega), c2 j (by omega), a2 j (by omega)], fun q' t h1 h3 h4 => ?_, fun q' h1 h3 => ?_⟩
        · by_cases e : q' = q
          · rw [e, d2 (q * 7 + t) (by omega), c3 t h4]; simp only [if_true]
          · simp only [if_neg e]; exact d3 q' t (by omega) h3 h4
        · by_cases e : q' = q
          · rw [e]; simp only [if_true]; exact c4
          · simp only [if_neg e]; exact d4 q' (by omega) h3
      · exact Or.inr ⟨f', C + 21, by omega, fun k => by rw [show k + (C + 21) = k + C + 12 + 8 + 1 by omega, st2]; exact d1 k, q', by omega, d3, d4⟩
    · exact Or.inr ⟨f1, C + 9, by omega, fun k => by rw [show k + (C + 9) = k + C + 8 + 1 by omega, st]; exact c1 k, q, by omega, hq, c2⟩
end
