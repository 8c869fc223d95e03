/-! the closure of a set of items, of both -/
theorem fold_or {α : Type} {S : Nat → Bool × α → Bool × α} (h : ∀ r c a, S r (c, a) = (c || (S r (false, a)).1, (S r (false, a)).2)) : ∀ d r c a, fold S d r (c, a) = (c || (fold S d r (false, a)).1, (fold S d r (false, a)).2)
  | 0, r, c, a => by simp [fold]
  | d + 1, r, c, a => by
    show fold S d (r + 1) (S r (c, a)) = (c || (fold S d (r + 1) (S r (false, a))).1, (fold S d (r + 1) (S r (false, a))).2)
    have e1 := fold_or h d (r + 1) (c || (S r (false, a)).1) (S r (false, a)).2
    have e2 := fold_or h d (r + 1) (S r (false, a)).1 (S r (false, a)).2
    rw [h r c a, e1]
    have e3 : S r (false, a) = ((S r (false, a)).1, (S r (false, a)).2) := rfl
    rw [e3, e2, Bool.or_assoc]
theorem fold_add {α : Type} {S : Nat → Bool × α → Bool × α} : ∀ d e r a, fold S (d + e) r a = fold S e (r + d) (fold S d r a)
  | 0, e, r, a => by rw [Nat.zero_add]; rfl
  | d + 1, e, r, a => by
    rw [show d + 1 + e = (d + e) + 1 by omega]
    show fold S (d + e) (r + 1) (S r a) = fold S e (r + (d + 1)) (fold S d (r + 1) (S r a))
    rw [fold_add d e (r + 1) (S r a), show r + 1 + d = r + (d + 1) by omega]
theorem fold_no {α : Type} {S : Nat → Bool × α → Bool × α} : ∀ d r a, (∀ i, r ≤ i → i < r + d → S i a = a) → fold S d r a = a
  | 0, r, a, _ => rfl
  | d + 1, r, a, h => by
    show fold S d (r + 1) (S r a) = a
    rw [h r (by omega) (by omega)]
    exact fold_no d (r + 1) a (fun i h1 h2 => h i (by omega) (by omega))
theorem bI_or (a c : Bool) : bI a ||| bI c = bI (a || c) := by
  cases a <;> cases c <;> decide
def RW (q : Nat) (row : Nat → Nat) (f0 f : Nat → Int32) : Prop := (∀ c, c < 55 → f (55 * q + c) = nI (row c)) ∧ ∀ j, ¬ (55 * q ≤ j ∧ j < 55 * q + 55) → f j = f0 j
theorem RW_up {q : Nat} {row : Nat → Nat} {f0 f : Nat → Int32} (h : RW q row f0 f) {c v : Nat} (hc : c < 55) : RW q (upN row c v) f0 (upd f (55 * q + c) (nI v)) := by
  refine ⟨fun i hi => ?_, fun j hj => by rw [pk_un (by omega)]; exact h.2 j hj⟩
  by_cases e : i = c
  · subst e; rw [pk_us, upN_s]
  · rw [pk_un (by omega), upN_n row e]; exact h.1 i hi
def arS (lf : Nat → Nat) (us : Nat → Bool) (x v : Nat) (r : Nat) (a : Bool × (Nat → Nat)) : Bool × (Nat → Nat) :=
  if us r = true ∧ lf r = x ∧ ¬ (a.2 (5 * r) ||| v) = a.2 (5 * r) then (true, upN a.2 (5 * r) (a.2 (5 * r) ||| v)) else a
def clS (lf ln : Nat → Nat) (sy : Nat → Nat → Nat) (us : Nat → Bool) (b : Nat → Nat) (i : Nat) (a : Bool × (Nat → Nat)) : Bool × (Nat → Nat) :=
  if i % 5 < ln (i / 5) ∧ 6 ≤ sy (i / 5) (i % 5) ∧ ¬ a.2 i = 0 then fold (arS lf us (sy (i / 5) (i % 5) - 6) (bgn sy b (i / 5) (ln (i / 5) - (i % 5 + 1)) (i % 5 + 1) (a.2 i))) 10 0 a else a
def clR (lf ln : Nat → Nat) (sy : Nat → Nat → Nat) (us : Nat → Bool) (b : Nat → Nat) (row : Nat → Nat) : Bool × (Nat → Nat) := fold (clS lf ln sy us b) 55 0 (false, row)
def clo (lf ln : Nat → Nat) (sy : Nat → Nat → Nat) (us : Nat → Bool) (b : Nat → Nat) (row : Nat → Nat) : Nat → Nat := lim (clR lf ln sy us b) 71 row
section
variable {n : Nat} {lf ln : Nat → Nat} {sy : Nat → Nat → Nat} {us : Nat → Bool} {b : Nat → Nat}
theorem arS_or (x v : Nat) : ∀ r c a, arS lf us x v r (c, a) = (c || (arS lf us x v r (false, a)).1, (arS lf us x v r (false, a)).2) := by
  intro r c a
  simp only [arS]
  by_cases e : us r = true ∧ lf r = x ∧ ¬ (a (5 * r) ||| v) = a (5 * r)
  · rw [if_pos e, if_pos e]; simp
  · rw [if_neg e, if_neg e]; simp
def m5 (row : Nat → Nat) : Nat := sm (fun i => row (5 * i)) 10
theorem arS_J {x v : Nat} (hv : v < 128) : ∀ r (a : Bool × (Nat → Nat)), r < 10 → wfb a.2 → wfb (arS lf us x v r a).2 ∧ (arS lf us x v r a = a ∨ (arS lf us x v r a).1 = true ∧ m5 a.2 < m5 (arS lf us x v r a).2) := by
  intro r a hr hj
  by_cases e : us r = true ∧ lf r = x ∧ ¬ (a.2 (5 * r) ||| v) = a.2 (5 * r)
  · have hS : arS lf us x v r a = (true, upN a.2 (5 * r) (a.2 (5 * r) ||| v)) := by simp only [arS]; rw [if_pos e]
    rw [hS]
    refine ⟨fun c => ?_, Or.inr ⟨rfl, ?_⟩⟩
    · by_cases e1 : c = 5 * r
      · rw [e1]; show upN a.2 (5 * r) _ (5 * r) < 128; rw [upN_s]; exact or_lt (hj _) hv
      · show upN a.2 (5 * r) _ c < 128; rw [upN_n a.2 e1]; exact hj c
    · have e2 : (fun i => upN a.2 (5 * r) (a.2 (5 * r) ||| v) (5 * i)) = upN (fun i => a.2 (5 * i)) r (a.2 (5 * r) ||| v) := by
        funext i
        by_cases e3 : i = r
        · rw [e3, upN_s, upN_s]
        · rw [upN_n _ e3, upN_n _ (by omega)]
      show m5 a.2 < m5 (upN a.2 (5 * r) (a.2 (5 * r) ||| v))
      simp only [m5]
      rw [e2]
      exact sm_up (fun i => a.2 (5 * i)) (pop_or (hj _) hv e.2.2) 10 hr
  · have hS : arS lf us x v r a = a := by simp only [arS]; rw [if_neg e]
    rw [hS]; exact ⟨hj, Or.inl rfl⟩
theorem clS_J (hb : wfb b) : ∀ i (a : Bool × (Nat → Nat)), i < 55 → wfb a.2 → wfb (clS lf ln sy us b i a).2 ∧ (clS lf ln sy us b i a = a ∨ (clS lf ln sy us b i a).1 = true ∧ m5 a.2 < m5 (clS lf ln sy us b i a).2) := by
  intro i a hi hj
  by_cases e : i % 5 < ln (i / 5) ∧ 6 ≤ sy (i / 5) (i % 5) ∧ ¬ a.2 i = 0
  · have hS : clS lf ln sy us b i a = fold (arS lf us (sy (i / 5) (i % 5) - 6) (bgn sy b (i / 5) (ln (i / 5) - (i % 5 + 1)) (i % 5 + 1) (a.2 i))) 10 0 a := by simp only [clS]; rw [if_pos e]
    rw [hS]
    exact fold_mu (N := 10) (μ := m5) (arS_J (bgn_lt hb (hj i))) 10 0 a (by omega) hj
  · have hS : clS lf ln sy us b i a = a := by simp only [clS]; rw [if_neg e]
    rw [hS]; exact ⟨hj, Or.inl rfl⟩
theorem clR_J (hb : wfb b) : ∀ row, wfb row → wfb (clR lf ln sy us b row).2 := fun a h => (fold_mu (N := 55) (μ := m5) (clS_J hb) 55 0 (false, a) (by omega) h).1
theorem clo_fix (hb : wfb b) {row : Nat → Nat} (hw : wfb row) : wfb (clo lf ln sy us b row) ∧ ∀ i, i < 55 → clS lf ln sy us b i (false, clo lf ln sy us b row) = (false, clo lf ln sy us b row) := by
  have hf := lim_fix (R := clR lf ln sy us b) (μ := m5) (M := 70) (J := wfb) (clR_J hb)
    (fun a h h1 => by
      rcases (fold_mu (N := 55) (μ := m5) (clS_J (lf := lf) (ln := ln) (sy := sy) (us := us) hb) 55 0 (false, a) (by omega) h).2 with h2 | ⟨h2, -⟩
      · show (fold _ 55 0 (false, a)).2 = a; rw [h2]
      · have h1' : (fold (clS lf ln sy us b) 55 0 (false, a)).1 = false := h1
        rw [h1'] at h2; cases h2)
    (fun a h h1 => by
      rcases (fold_mu (N := 55) (μ := m5) (clS_J (lf := lf) (ln := ln) (sy := sy) (us := us) hb) 55 0 (false, a) (by omega) h).2 with h2 | ⟨-, h2⟩
      · have h1' : (fold (clS lf ln sy us b) 55 0 (false, a)).1 = true := h1
        rw [h2] at h1'; cases h1'
      · exact h2)
    (fun a h => sm_le _ 10) 71 row hw (by omega)
  have hj' := lim_ind (R := clR lf ln sy us b) (clR_J hb) 71 row hw
  exact ⟨hj', fun i hi => fold_id (N := 55) (μ := m5) (clS_J hb) 55 0 (false, clo lf ln sy us b row) (by omega) hj' hf i (by omega) (by omega)⟩
theorem c_ar (hn : n ≤ 10) {f3 f4 f0 : Nat → Int32} (hl : GL n lf f3) (hu : RB 12 us f4) (hus : ∀ r, r < 10 → us r = true → r < n) {q x v : Nat} (hq : q ≤ 40) (hx : x < 6) (hv : v < 128) : ∀ d r a f, r + d = 10 → wfb a.2 → RW q a.2 f0 f →
    ∃ f', RW q (fold (arS lf us x v) d r a).2 f0 f' ∧ ∀ m, F_States_addRulesOf f3 f4 (m + (d + 1)) 0 (nI q) (nI (6 + x)) (nI v) (bI a.1) (nI r) f = some (bI (fold (arS lf us x v) d r a).1, f')
  | 0, r, a, f, hr, hw, h1 => by
    refine ⟨f, h1, fun m => ?_⟩
    show B_States_addRulesOf_0 (F_States_addRulesOf f3 f4 m) f3 f4 (nI q) (nI (6 + x)) (nI v) (bI a.1) (nI r) f = some (bI a.1, f)
    cases a.1 with
    | true => simp (disch := omega) only [B_States_addRulesOf_0, bI_t, i_lit, nI_ltI, nI_leI, nI_eq, nI_add, pk_mul, pk_sub, nI_clamp, if_pos, if_neg, if_true, if_false, Option.bind_some, true_or, or_true, false_or, or_false, or_self, not_true_eq_false, not_false_eq_true, i_m1lt, i_m1le, i_nlt1, i_nle1, i_ne1, i_1ne]
    | false => simp (disch := omega) only [B_States_addRulesOf_0, bI_f, i_lit, nI_ltI, nI_leI, nI_eq, nI_add, pk_mul, pk_sub, nI_clamp, if_pos, if_neg, if_true, if_false, Option.bind_some, true_or, or_true, false_or, or_false, or_self, not_true_eq_false, not_false_eq_true, i_m1lt, i_m1le, i_nlt1, i_nle1, i_ne1, i_1ne]
  | d + 1, r, a, f, hr, hw, h1 => by
    have hwS := (arS_J (lf := lf) (us := us) (x := x) hv r a (by omega) hw).1
    have hur := hu r (by omega)
    have e0 : q * 55 + r * 5 = 55 * q + 5 * r := by omega
    have hrow := h1.1 (5 * r) (by omega)
    have hwr := hw (5 * r)
    have hol := or_lt hwr hv
    by_cases e : us r = true ∧ lf r = x ∧ ¬ (a.2 (5 * r) ||| v) = a.2 (5 * r)
    · have hS : arS lf us x v r a = (true, upN a.2 (5 * r) (a.2 (5 * r) ||| v)) := by simp only [arS]; rw [if_pos e]
      obtain ⟨f', b1, b2⟩ := c_ar hn hl hu hus hq hx hv d (r + 1) (arS lf us x v r a) (upd f (55 * q + 5 * r) (nI (a.2 (5 * r) ||| v))) (by omega) hwS (by rw [hS]; exact RW_up h1 (by omega))
      refine ⟨f', b1, fun m => ?_⟩
      show _ = some (bI (fold (arS lf us x v) d (r + 1) (arS lf us x v r a)).1, f')
      rw [← b2 m, hS]
      show B_States_addRulesOf_0 (F_States_addRulesOf f3 f4 (m + (d + 1))) f3 f4 (nI q) (nI (6 + x)) (nI v) (bI a.1) (nI r) f = _
      obtain ⟨hl1, hl2⟩ := hl r (hus r (by omega) e.1)
      rw [e.1, bI_t] at hur
      have e1 := e.2.1
      have e2 := e.2.2
      rw [e1] at hl2
      simp (disch := omega) only [B_States_addRulesOf_0, S_Grammar_isUsed, hur, i_10, S_Grammar_nameOf, hl2, e0, hrow, i_or, e2, bI_t, i_lit, nI_ltI, nI_leI, nI_eq, nI_add, pk_mul, pk_sub, nI_clamp, if_pos, if_neg, if_true, if_false, Option.bind_some, true_or, or_true, false_or, or_false, or_self, not_true_eq_false, not_false_eq_true, i_m1lt, i_m1le, i_nlt1, i_nle1, i_ne1, i_1ne]
    · have hS : arS lf us x v r a = a := by simp only [arS]; rw [if_neg e]
      obtain ⟨f', b1, b2⟩ := c_ar hn hl hu hus hq hx hv d (r + 1) (arS lf us x v r a) f (by omega) hwS (by rw [hS]; exact h1)
      refine ⟨f', b1, fun m => ?_⟩
      show _ = some (bI (fold (arS lf us x v) d (r + 1) (arS lf us x v r a)).1, f')
      rw [← b2 m, hS]
      show B_States_addRulesOf_0 (F_States_addRulesOf f3 f4 (m + (d + 1))) f3 f4 (nI q) (nI (6 + x)) (nI v) (bI a.1) (nI r) f = _
      cases hc : us r with
      | false =>
        rw [hc, bI_f] at hur
        simp (disch := omega) only [B_States_addRulesOf_0, S_Grammar_isUsed, hur, i_lit, nI_ltI, nI_leI, nI_eq, nI_add, pk_mul, pk_sub, nI_clamp, if_pos, if_neg, if_true, if_false, Option.bind_some, true_or, or_true, false_or, or_false, or_self, not_true_eq_false, not_false_eq_true, i_m1lt, i_m1le, i_nlt1, i_nle1, i_ne1, i_1ne]
      | true =>
        rw [hc, bI_t] at hur
        obtain ⟨hl1, hl2⟩ := hl r (hus r (by omega) hc)
        by_cases e1 : lf r = x
        · have e2 : (a.2 (5 * r) ||| v) = a.2 (5 * r) := Classical.byContradiction fun h => e ⟨hc, e1, h⟩
          rw [e1] at hl2
          simp (disch := omega) only [B_States_addRulesOf_0, S_Grammar_isUsed, hur, i_10, S_Grammar_nameOf, hl2, e0, hrow, i_or, e2, i_lit, nI_ltI, nI_leI, nI_eq, nI_add, pk_mul, pk_sub, nI_clamp, if_pos, if_neg, if_true, if_false, Option.bind_some, true_or, or_true, false_or, or_false, or_self, not_true_eq_false, not_false_eq_true, i_m1lt, i_m1le, i_nlt1, i_nle1, i_ne1, i_1ne]
        · simp (disch := omega) only [B_States_addRulesOf_0, S_Grammar_isUsed, hur, i_10, S_Grammar_nameOf, hl2, i_lit, nI_ltI, nI_leI, nI_eq, nI_add, pk_mul, pk_sub, nI_clamp, if_pos, if_neg, if_true, if_false, Option.bind_some, true_or, or_true, false_or, or_false, or_self, not_true_eq_false, not_false_eq_true, i_m1lt, i_m1le, i_nlt1, i_nle1, i_ne1, i_1ne]
theorem c_cl2 (hn : n ≤ 10) {f3 f4 f5 f6 f7 f0 : Nat → Int32} (hb : wfb b) (hf : ∀ x, x < 6 → f3 x = nI (b x)) (hl : GL n lf f4) (hs : GS 11 ln sy f5 f6) (hu : RB 12 us f7) (hus : ∀ r, r < 10 → us r = true → r < n) {q j r : Nat} (hq : q ≤ 40) (hr : r < 11) : ∀ d p a f, p + d = ln r → wfb a.2 → RW q a.2 f0 f →
    ∃ f', RW q (fold (clS lf ln sy us b) d (5 * r + p) a).2 f0 f' ∧ ∀ m, F_States_close f3 f4 f5 f6 f7 (m + (d + 1)) 2 (nI q) (bI a.1) (nI j) (nI r) (nI p) f = F_States_close f3 f4 f5 f6 f7 m 1 (nI q) (bI (fold (clS lf ln sy us b) d (5 * r + p) a).1) (nI j) (nI (r + 1)) (nI 0) f'
  | 0, p, a, f, hp, hw, h1 => by
    obtain ⟨hs1, hs2, hs3⟩ := hs r hr
    refine ⟨f, h1, fun m => ?_⟩
    show B_States_close_2 (F_States_close f3 f4 f5 f6 f7 m) f3 f4 f5 f6 f7 (nI q) (bI a.1) (nI j) (nI r) (nI p) f = F_States_close f3 f4 f5 f6 f7 m 1 (nI q) (bI a.1) (nI j) (nI (r + 1)) (nI 0) f
    simp (disch := omega) only [B_States_close_2, S_Grammar_sizeOf, hs2, i_lit, nI_ltI, nI_leI, nI_eq, nI_add, pk_mul, pk_sub, nI_clamp, if_pos, if_neg, if_true, if_false, Option.bind_some, true_or, or_true, false_or, or_false, or_self, not_true_eq_false, not_false_eq_true, i_m1lt, i_m1le, i_nlt1, i_nle1, i_ne1, i_1ne]
  | d + 1, p, a, f, hp, hw, h1 => by
    obtain ⟨hs1, hs2, hs3⟩ := hs r hr
    obtain ⟨hy1, hy2⟩ := hs3 p (by omega)
    have hwS := (clS_J (lf := lf) (ln := ln) (sy := sy) (us := us) hb (5 * r + p) a (by omega) hw).1
    have hrow := h1.1 (5 * r + p) (by omega)
    have hwr := hw (5 * r + p)
    have e0 : q * 55 + r * 5 + p = 55 * q + (5 * r + p) := by omega
    have ed : (5 * r + p) / 5 = r := by omega
    have em : (5 * r + p) % 5 = p := by omega
    have hsz : S_Grammar_sizeOf (nI r) f6 = some (nI (ln r)) := by simp (disch := omega) only [S_Grammar_sizeOf, hs2, i_lit, nI_ltI, nI_leI, nI_eq, nI_add, pk_mul, pk_sub, nI_clamp, if_pos, if_neg, if_true, if_false, Option.bind_some, true_or, or_true, false_or, or_false, or_self, not_true_eq_false, not_false_eq_true, i_m1lt, i_m1le, i_nlt1, i_nle1, i_ne1, i_1ne]
    have hsy : S_Grammar_symbolAt (nI r) (nI p) f5 f6 = some (nI (sy r p)) := by simp (disch := omega) only [S_Grammar_symbolAt, hsz, hy2, i_lit, nI_ltI, nI_leI, nI_eq, nI_add, pk_mul, pk_sub, nI_clamp, if_pos, if_neg, if_true, if_false, Option.bind_some, true_or, or_true, false_or, or_false, or_self, not_true_eq_false, not_false_eq_true, i_m1lt, i_m1le, i_nlt1, i_nle1, i_ne1, i_1ne]
    by_cases e : p < ln r ∧ 6 ≤ sy r p ∧ ¬ a.2 (5 * r + p) = 0
    · have hS : clS lf ln sy us b (5 * r + p) a = fold (arS lf us (sy r p - 6) (bgn sy b r (ln r - (p + 1)) (p + 1) (a.2 (5 * r + p)))) 10 0 a := by simp only [clS, ed, em]; rw [if_pos e]
      have hv := bgn_lt (sy := sy) hb (r := r) (d := ln r - (p + 1)) (p := p + 1) hwr
      obtain ⟨f1, c1, c2⟩ := c_ar hn hl hu hus hq (show sy r p - 6 < 6 by omega) hv 10 0 (false, a.2) f (by omega) hw h1
      have hor := fold_or (arS_or (lf := lf) (us := us) (sy r p - 6) (bgn sy b r (ln r - (p + 1)) (p + 1) (a.2 (5 * r + p)))) 10 0 a.1 a.2
      have hS2 : clS lf ln sy us b (5 * r + p) a = (a.1 || (fold (arS lf us (sy r p - 6) (bgn sy b r (ln r - (p + 1)) (p + 1) (a.2 (5 * r + p)))) 10 0 (false, a.2)).1, (fold (arS lf us (sy r p - 6) (bgn sy b r (ln r - (p + 1)) (p + 1) (a.2 (5 * r + p)))) 10 0 (false, a.2)).2) := by rw [hS]; exact hor
      obtain ⟨f', b1, b2⟩ := c_cl2 (j := j) hn hb hf hl hs hu hus hq hr d (p + 1) (clS lf ln sy us b (5 * r + p) a) f1 (by omega) hwS (by rw [hS2]; exact c1)
      rw [show 5 * r + (p + 1) = 5 * r + p + 1 by omega] at b1 b2
      refine ⟨f', b1, fun m => ?_⟩
      show _ = F_States_close f3 f4 f5 f6 f7 m 1 (nI q) (bI (fold (clS lf ln sy us b) d (5 * r + p + 1) (clS lf ln sy us b (5 * r + p) a)).1) (nI j) (nI (r + 1)) (nI 0) f'
      rw [← b2 m, hS2]
      show B_States_close_2 (F_States_close f3 f4 f5 f6 f7 (m + (d + 1))) f3 f4 f5 f6 f7 (nI q) (bI a.1) (nI j) (nI r) (nI p) f = _
      have hbg := c_beg (show 11 ≤ 12 by omega) hs hb hf hr (show p + 1 ≤ ln r by omega)
      have hbl := beg_lt (sy := sy) hb (r := r) (ln r - (p + 1)) (p + 1)
      obtain ⟨m1, hm1⟩ := fuelled (k := 10 + 1) (by omega)
      have har : S_States_addRulesOf (nI q) (nI (sy r p)) (nI (bgn sy b r (ln r - (p + 1)) (p + 1) (a.2 (5 * r + p)))) f f4 f7 = some (bI (fold (arS lf us (sy r p - 6) (bgn sy b r (ln r - (p + 1)) (p + 1) (a.2 (5 * r + p)))) 10 0 (false, a.2)).1, f1) := by
        have e6 : 6 + (sy r p - 6) = sy r p := by omega
        have c3 := c2 m1
        rw [e6] at c3
        rw [S_States_addRulesOf, hm1]
        exact c3
      have h6 : ¬ sy r p < 6 := by omega
      have h00 := e.2.2
      by_cases h7 : (beg sy b r (ln r - (p + 1)) (p + 1)).testBit 6 = true
      · have h8 : ¬ (nI (beg sy b r (ln r - (p + 1)) (p + 1)) &&& nI 64 = nI 0) := by rw [i_and64 hbl, h7]; simp
        have e9 : bgn sy b r (ln r - (p + 1)) (p + 1) (a.2 (5 * r + p)) = beg sy b r (ln r - (p + 1)) (p + 1) % 64 ||| a.2 (5 * r + p) := by simp only [bgn]; rw [if_pos h7]
        rw [e9] at har ⊢
        simp (disch := omega) only [B_States_close_2, hsz, e0, hsy, hrow, h00, h6, hbg, h8, i_and63 hbl, i_or, har, bI_or, i_lit, nI_ltI, nI_leI, nI_eq, nI_add, pk_mul, pk_sub, nI_clamp, if_pos, if_neg, if_true, if_false, Option.bind_some, true_or, or_true, false_or, or_false, or_self, not_true_eq_false, not_false_eq_true, i_m1lt, i_m1le, i_nlt1, i_nle1, i_ne1, i_1ne]
      · have h7' : (beg sy b r (ln r - (p + 1)) (p + 1)).testBit 6 = false := by simpa using h7
        have h8 : (nI (beg sy b r (ln r - (p + 1)) (p + 1)) &&& nI 64 = nI 0) := by rw [i_and64 hbl]; exact h7'
        have e9 : bgn sy b r (ln r - (p + 1)) (p + 1) (a.2 (5 * r + p)) = beg sy b r (ln r - (p + 1)) (p + 1) := by simp only [bgn]; rw [if_neg h7]
        rw [e9] at har ⊢
        simp (disch := omega) only [B_States_close_2, hsz, e0, hsy, hrow, h00, h6, hbg, h8, har, bI_or, i_lit, nI_ltI, nI_leI, nI_eq, nI_add, pk_mul, pk_sub, nI_clamp, if_pos, if_neg, if_true, if_false, Option.bind_some, true_or, or_true, false_or, or_false, or_self, not_true_eq_false, not_false_eq_true, i_m1lt, i_m1le, i_nlt1, i_nle1, i_ne1, i_1ne]
    · have hS : clS lf ln sy us b (5 * r + p) a = a := by simp only [clS, ed, em]; rw [if_neg e]
      obtain ⟨f', b1, b2⟩ := c_cl2 (j := j) hn hb hf hl hs hu hus hq hr d (p + 1) (clS lf ln sy us b (5 * r + p) a) f (by omega) hwS (by rw [hS]; exact h1)
      rw [show 5 * r + (p + 1) = 5 * r + p + 1 by omega] at b1 b2
      refine ⟨f', b1, fun m => ?_⟩
      show _ = F_States_close f3 f4 f5 f6 f7 m 1 (nI q) (bI (fold (clS lf ln sy us b) d (5 * r + p + 1) (clS lf ln sy us b (5 * r + p) a)).1) (nI j) (nI (r + 1)) (nI 0) f'
      rw [← b2 m, hS]
      show B_States_close_2 (F_States_close f3 f4 f5 f6 f7 (m + (d + 1))) f3 f4 f5 f6 f7 (nI q) (bI a.1) (nI j) (nI r) (nI p) f = _
      by_cases h00 : a.2 (5 * r + p) = 0
      · simp (disch := omega) only [B_States_close_2, hsz, e0, hsy, hrow, h00, i_lit, nI_ltI, nI_leI, nI_eq, nI_add, pk_mul, pk_sub, nI_clamp, if_pos, if_neg, if_true, if_false, Option.bind_some, true_or, or_true, false_or, or_false, or_self, not_true_eq_false, not_false_eq_true, i_m1lt, i_m1le, i_nlt1, i_nle1, i_ne1, i_1ne]
      · have h6 : sy r p < 6 := by
          apply Classical.byContradiction
          intro h6
          exact e ⟨by omega, by omega, h00⟩
        simp (disch := omega) only [B_States_close_2, hsz, e0, hsy, hrow, h00, h6, i_lit, nI_ltI, nI_leI, nI_eq, nI_add, pk_mul, pk_sub, nI_clamp, if_pos, if_neg, if_true, if_false, Option.bind_some, true_or, or_true, false_or, or_false, or_self, not_true_eq_false, not_false_eq_true, i_m1lt, i_m1le, i_nlt1, i_nle1, i_ne1, i_1ne]
theorem fold5 {ln : Nat → Nat} {r : Nat} (h4 : ln r ≤ 4) (a : Bool × (Nat → Nat)) : fold (clS lf ln sy us b) 5 (5 * r) a = fold (clS lf ln sy us b) (ln r) (5 * r) a := by
  rw [show (5 : Nat) = ln r + (5 - ln r) by omega, fold_add, show ln r + (5 - ln r) = 5 by omega]
  refine fold_no _ _ _ (fun i h1 h2 => ?_)
  have ed : i / 5 = r := by omega
  simp only [clS, ed]
  rw [if_neg (by omega)]
theorem c_cl1 (hn : n ≤ 10) {f3 f4 f5 f6 f7 f0 : Nat → Int32} (hb : wfb b) (hf : ∀ x, x < 6 → f3 x = nI (b x)) (hl : GL n lf f4) (hs : GS 11 ln sy f5 f6) (hu : RB 12 us f7) (hus : ∀ r, r < 10 → us r = true → r < n) {q j : Nat} (hq : q ≤ 40) : ∀ d r a f, r + d = 11 → wfb a.2 → RW q a.2 f0 f →
    ∃ C f', C ≤ 6 * d ∧ RW q (fold (clS lf ln sy us b) (5 * d) (5 * r) a).2 f0 f' ∧ ∀ m, F_States_close f3 f4 f5 f6 f7 (m + C) 1 (nI q) (bI a.1) (nI j) (nI r) (nI 0) f = F_States_close f3 f4 f5 f6 f7 m 1 (nI q) (bI (fold (clS lf ln sy us b) (5 * d) (5 * r) a).1) (nI j) (nI 11) (nI 0) f'
  | 0, r, a, f, hr, hw, h1 => by
    have : r = 11 := by omega
    subst this
    exact ⟨0, f, by omega, h1, fun m => rfl⟩
  | d + 1, r, a, f, hr, hw, h1 => by
    have h4 := (hs r (by omega)).1
    obtain ⟨f1, c1, c2⟩ := c_cl2 (j := j) hn hb hf hl hs hu hus hq (show r < 11 by omega) (ln r) 0 a f (by omega) hw h1
    have z0 : 5 * r + 0 = 5 * r := rfl
    have z5 := fold5 (lf := lf) (sy := sy) (us := us) (b := b) h4 a
    rw [z0, ← z5] at c1 c2
    have hw' := (fold_mu (N := 55) (μ := m5) (clS_J (lf := lf) (ln := ln) (sy := sy) (us := us) hb) 5 (5 * r) a (by omega) hw).1
    obtain ⟨C, f', b0, b1, b2⟩ := c_cl1 (j := j) hn hb hf hl hs hu hus hq d (r + 1) (fold (clS lf ln sy us b) 5 (5 * r) a) f1 (by omega) hw' c1
    have e5 : fold (clS lf ln sy us b) (5 * (d + 1)) (5 * r) a = fold (clS lf ln sy us b) (5 * d) (5 * (r + 1)) (fold (clS lf ln sy us b) 5 (5 * r) a) := by
      rw [show 5 * (d + 1) = 5 + 5 * d by omega, fold_add, show 5 * r + 5 = 5 * (r + 1) by omega]
    rw [e5]
    refine ⟨C + (ln r + 1) + 1, f', by omega, b1, fun m => ?_⟩
    rw [← b2 m, ← c2 (m + C), show m + (C + (ln r + 1) + 1) = m + C + (ln r + 1) + 1 by omega]
    show B_States_close_1 (F_States_close f3 f4 f5 f6 f7 (m + C + (ln r + 1))) f3 f4 f5 f6 f7 (nI q) (bI a.1) (nI j) (nI r) (nI 0) f = _
    simp (disch := omega) only [B_States_close_1, i_lit, nI_ltI, nI_leI, nI_eq, nI_add, pk_mul, pk_sub, nI_clamp, if_pos, if_neg, if_true, if_false, Option.bind_some, true_or, or_true, false_or, or_false, or_self, not_true_eq_false, not_false_eq_true, i_m1lt, i_m1le, i_nlt1, i_nle1, i_ne1, i_1ne]
theorem c_cl0 (hn : n ≤ 10) {f3 f4 f5 f6 f7 f0 : Nat → Int32} (hb : wfb b) (hf : ∀ x, x < 6 → f3 x = nI (b x)) (hl : GL n lf f4) (hs : GS 11 ln sy f5 f6) (hu : RB 12 us f7) (hus : ∀ r, r < 10 → us r = true → r < n) {q : Nat} (hq : q ≤ 40) : ∀ k j row f, j + k = 71 → wfb row → RW q row f0 f →
    ∃ C f', C ≤ 68 * k + 1 ∧ RW q (lim (clR lf ln sy us b) k row) f0 f' ∧ ∀ m, F_States_close f3 f4 f5 f6 f7 (m + C) 0 (nI q) (nI 1) (nI j) (nI 0) (nI 0) f = some f'
  | 0, j, row, f, hj, hw, h1 => by
    refine ⟨1, f, by omega, h1, fun m => ?_⟩
    show B_States_close_0 (F_States_close f3 f4 f5 f6 f7 m) f3 f4 f5 f6 f7 (nI q) (nI 1) (nI j) (nI 0) (nI 0) f = _
    simp (disch := omega) only [B_States_close_0, i_10, i_lit, nI_ltI, nI_leI, nI_eq, nI_add, pk_mul, pk_sub, nI_clamp, if_pos, if_neg, if_true, if_false, Option.bind_some, true_or, or_true, false_or, or_false, or_self, not_true_eq_false, not_false_eq_true, i_m1lt, i_m1le, i_nlt1, i_nle1, i_ne1, i_1ne]
  | k + 1, j, row, f, hj, hw, h1 => by
    obtain ⟨C, f1, b0, b1, b2⟩ := c_cl1 (j := j) hn hb hf hl hs hu hus hq 11 0 (false, row) f (by omega) hw h1
    have hw' := clR_J (lf := lf) (ln := ln) (sy := sy) (us := us) hb row hw
    have s1 : ∀ m, F_States_close f3 f4 f5 f6 f7 (m + 1 + C + 1) 0 (nI q) (nI 1) (nI j) (nI 0) (nI 0) f = F_States_close f3 f4 f5 f6 f7 m 0 (nI q) (bI (clR lf ln sy us b row).1) (nI (j + 1)) (nI 0) (nI 0) f1 := by
      intro m
      have e1 : F_States_close f3 f4 f5 f6 f7 (m + 1 + C + 1) 0 (nI q) (nI 1) (nI j) (nI 0) (nI 0) f = F_States_close f3 f4 f5 f6 f7 (m + 1 + C) 1 (nI q) (bI false) (nI j) (nI 0) (nI 0) f := by
        show B_States_close_0 (F_States_close f3 f4 f5 f6 f7 (m + 1 + C)) f3 f4 f5 f6 f7 (nI q) (nI 1) (nI j) (nI 0) (nI 0) f = _
        simp (disch := omega) only [B_States_close_0, i_10, bI_f, i_lit, nI_ltI, nI_leI, nI_eq, nI_add, pk_mul, pk_sub, nI_clamp, if_pos, if_neg, if_true, if_false, Option.bind_some, true_or, or_true, false_or, or_false, or_self, not_true_eq_false, not_false_eq_true, i_m1lt, i_m1le, i_nlt1, i_nle1, i_ne1, i_1ne]
      rw [e1, b2 (m + 1)]
      show B_States_close_1 (F_States_close f3 f4 f5 f6 f7 m) f3 f4 f5 f6 f7 (nI q) (bI (clR lf ln sy us b row).1) (nI j) (nI 11) (nI 0) f1 = _
      simp (disch := omega) only [B_States_close_1, i_lit, nI_ltI, nI_leI, nI_eq, nI_add, pk_mul, pk_sub, nI_clamp, if_pos, if_neg, if_true, if_false, Option.bind_some, true_or, or_true, false_or, or_false, or_self, not_true_eq_false, not_false_eq_true, i_m1lt, i_m1le, i_nlt1, i_nle1, i_ne1, i_1ne]
    cases hc : (clR lf ln sy us b row).1 with
    | true =>
      obtain ⟨C2, f', c0, c1, c2⟩ := c_cl0 hn hb hf hl hs hu hus hq k (j + 1) (clR lf ln sy us b row).2 f1 (by omega) hw' b1
      refine ⟨C2 + (C + 2), f', by omega, by simp only [lim]; rw [if_pos hc]; exact c1, fun m => ?_⟩
      have := s1 (m + C2)
      rw [hc, bI_t, c2 m] at this
      rw [← this]
      congr 1
      omega
    | false =>
      refine ⟨C + 3, f1, by omega, by simp only [lim]; rw [if_neg (by rw [hc]; simp)]; exact b1, fun m => ?_⟩
      have := s1 (m + 1)
      rw [hc, bI_f] at this
      rw [show m + (C + 3) = m + 1 + 1 + C + 1 by omega, this]
      show B_States_close_0 (F_States_close f3 f4 f5 f6 f7 m) f3 f4 f5 f6 f7 (nI q) (nI 0) (nI (j + 1)) (nI 0) (nI 0) f1 = _
      simp (disch := omega) only [B_States_close_0, i_lit, nI_ltI, nI_leI, nI_eq, nI_add, pk_mul, pk_sub, nI_clamp, if_pos, if_neg, if_true, if_false, Option.bind_some, true_or, or_true, false_or, or_false, or_self, not_true_eq_false, not_false_eq_true, i_m1lt, i_m1le, i_nlt1, i_nle1, i_ne1, i_1ne]
/-- the class's closure -/
theorem c_clo (hn : n ≤ 10) {f3 f4 f5 f6 f7 f0 f : Nat → Int32} (hb : wfb b) (hf : ∀ x, x < 6 → f3 x = nI (b x)) (hl : GL n lf f4) (hs : GS 11 ln sy f5 f6) (hu : RB 12 us f7) (hus : ∀ r, r < 10 → us r = true → r < n) {q : Nat} (hq : q ≤ 40) {row : Nat → Nat} (hw : wfb row) (h1 : RW q row f0 f) :
    ∃ f', S_States_close (nI q) f f3 f4 f5 f6 f7 = some f' ∧ RW q (clo lf ln sy us b row) f0 f' := by
  obtain ⟨C, f', c0, c1, c2⟩ := c_cl0 hn hb hf hl hs hu hus hq 71 0 row f (by omega) hw h1
  obtain ⟨m, hm⟩ := fuelled (k := C) (by omega)
  exact ⟨f', by rw [S_States_close, hm]; exact c2 m, c1⟩
end
