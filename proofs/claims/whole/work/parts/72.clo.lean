/-! what the closure is -/
section
variable {n : Nat} {lf ln : Nat → Nat} {sy : Nat → Nat → Nat} {us : Nat → Bool} {b : Nat → Nat}
theorem clo_J {J : (Nat → Nat) → Prop} (h : ∀ (row : Nat → Nat) i, i < 55 → i % 5 < ln (i / 5) → 6 ≤ sy (i / 5) (i % 5) → ¬ row i = 0 → J row → ∀ (row' : Nat → Nat) r, r < 10 → us r = true → lf r = sy (i / 5) (i % 5) - 6 → J row' → J (upN row' (5 * r) (row' (5 * r) ||| bgn sy b (i / 5) (ln (i / 5) - (i % 5 + 1)) (i % 5 + 1) (row i)))) {row : Nat → Nat} (h0 : J row) : J (clo lf ln sy us b row) := by
  refine lim_ind (R := clR lf ln sy us b) (J := J) (fun a ha => ?_) 71 row h0
  refine fold_ind (S := clS lf ln sy us b) (J := J) (N := 55) (fun i a hi ha => ?_) 55 0 (false, a) (by omega) ha
  by_cases e : i % 5 < ln (i / 5) ∧ 6 ≤ sy (i / 5) (i % 5) ∧ ¬ a.2 i = 0
  · have hS : clS lf ln sy us b i a = fold (arS lf us (sy (i / 5) (i % 5) - 6) (bgn sy b (i / 5) (ln (i / 5) - (i % 5 + 1)) (i % 5 + 1) (a.2 i))) 10 0 a := by simp only [clS]; rw [if_pos e]
    rw [hS]
    refine fold_ind (S := arS lf us (sy (i / 5) (i % 5) - 6) (bgn sy b (i / 5) (ln (i / 5) - (i % 5 + 1)) (i % 5 + 1) (a.2 i))) (J := J) (N := 10) (fun r c hr hc => ?_) 10 0 a (by omega) ha
    by_cases e2 : us r = true ∧ lf r = sy (i / 5) (i % 5) - 6 ∧ ¬ (c.2 (5 * r) ||| bgn sy b (i / 5) (ln (i / 5) - (i % 5 + 1)) (i % 5 + 1) (a.2 i)) = c.2 (5 * r)
    · simp only [arS]; rw [if_pos e2]
      exact h a.2 i hi e.1 e.2.1 e.2.2 ha c.2 r hr e2.1 e2.2.1 hc
    · simp only [arS]; rw [if_neg e2]; exact hc
  · have hS : clS lf ln sy us b i a = a := by simp only [clS]; rw [if_neg e]
    rw [hS]; exact ha
theorem clo_1 {row : Nat → Nat} {c : Nat} (hc : c % 5 ≠ 0 ∨ 50 ≤ c) : clo lf ln sy us b row c = row c := by
  refine clo_J (J := fun row' => row' c = row c) (fun row1 i _ _ _ _ _ row' r hr _ _ hj => ?_) rfl
  show upN row' (5 * r) _ c = row c
  rw [upN_n row' (by omega)]; exact hj
theorem clo_2 {row : Nat → Nat} {c t : Nat} (ht : (row c).testBit t = true) : (clo lf ln sy us b row c).testBit t = true := by
  refine clo_J (J := fun row' => (row' c).testBit t = true) (fun row1 i _ _ _ _ _ row' r hr _ _ hj => ?_) ht
  show (upN row' (5 * r) _ c).testBit t = true
  by_cases e : c = 5 * r
  · rw [e, upN_s, bit_or]; rw [e] at hj; exact Or.inl hj
  · rw [upN_n row' e]; exact hj
theorem clo_3 (P : Nat → Nat → Prop) (hP : ∀ (row : Nat → Nat) i r t, (∀ c t, (row c).testBit t = true → P c t) → i < 55 → i % 5 < ln (i / 5) → 6 ≤ sy (i / 5) (i % 5) → ¬ row i = 0 → r < 10 → us r = true → lf r = sy (i / 5) (i % 5) - 6 → (bgn sy b (i / 5) (ln (i / 5) - (i % 5 + 1)) (i % 5 + 1) (row i)).testBit t = true → P (5 * r) t) {row : Nat → Nat} (h0 : ∀ c t, (row c).testBit t = true → P c t) : ∀ c t, (clo lf ln sy us b row c).testBit t = true → P c t := by
  refine clo_J (J := fun row' => ∀ c t, (row' c).testBit t = true → P c t) (fun row1 i h1 h2 h3 h4 h5 row' r hr h6 h7 hj => ?_) h0
  intro c t hct
  by_cases e : c = 5 * r
  · subst e
    rw [upN_s, bit_or] at hct
    rcases hct with hct | hct
    · exact hj _ t hct
    · exact hP row1 i r t h5 h1 h2 h3 h4 hr h6 h7 hct
  · rw [upN_n row' e] at hct; exact hj c t hct
theorem clo_4 (hb : wfb b) {row : Nat → Nat} (hw : wfb row) {i r t : Nat} (hi : i < 55) (h1 : i % 5 < ln (i / 5)) (h2 : 6 ≤ sy (i / 5) (i % 5)) (h3 : ¬ clo lf ln sy us b row i = 0) (hr : r < 10) (hu : us r = true) (hl : lf r = sy (i / 5) (i % 5) - 6) (ht : (bgn sy b (i / 5) (ln (i / 5) - (i % 5 + 1)) (i % 5 + 1) (clo lf ln sy us b row i)).testBit t = true) : (clo lf ln sy us b row (5 * r)).testBit t = true := by
  obtain ⟨g1, g2⟩ := clo_fix (lf := lf) (ln := ln) (sy := sy) (us := us) hb hw
  have g3 := g2 i hi
  simp only [clS] at g3
  rw [if_pos ⟨h1, h2, h3⟩] at g3
  have g4 := fold_id (N := 10) (μ := m5) (arS_J (lf := lf) (us := us) (x := sy (i / 5) (i % 5) - 6) (bgn_lt (sy := sy) hb (r := i / 5) (d := ln (i / 5) - (i % 5 + 1)) (p := i % 5 + 1) (g1 i))) 10 0 (false, clo lf ln sy us b row) (by omega) g1 (by rw [g3]) r (by omega) (by omega)
  simp only [arS] at g4
  by_cases e : (clo lf ln sy us b row (5 * r) ||| bgn sy b (i / 5) (ln (i / 5) - (i % 5 + 1)) (i % 5 + 1) (clo lf ln sy us b row i)) = clo lf ln sy us b row (5 * r)
  · rw [← e, bit_or]; exact Or.inr ht
  · rw [if_pos ⟨hu, hl, e⟩] at g4
    have := congrArg Prod.fst g4
    cases this
theorem bgn_bit (hb : wfb b) {r d p v t : Nat} (hv : v < 128) (ht : t < 7) : (bgn sy b r d p v).testBit t = true ↔ (t < 6 ∧ (beg sy b r d p).testBit t = true) ∨ ((beg sy b r d p).testBit 6 = true ∧ v.testBit t = true) := by
  have hl := beg_lt (sy := sy) hb (r := r) d p
  simp only [bgn]
  by_cases h : (beg sy b r d p).testBit 6 = true
  · rw [if_pos h, bit_or, bit_m64]
    exact ⟨fun h1 => h1.imp id (fun h2 => ⟨h, h2⟩), fun h1 => h1.imp id (fun h2 => h2.2)⟩
  · rw [if_neg h]
    constructor
    · intro h1
      left
      refine ⟨?_, h1⟩
      have : t ≠ 6 := fun e => h (e ▸ h1)
      omega
    · rintro (h1 | h1)
      · exact h1.2
      · exact absurd h1.1 h
/-- cells that are not empty are items of used rules -/
def shp (ln : Nat → Nat) (us : Nat → Bool) (row : Nat → Nat) : Prop := ∀ c, ¬ row c = 0 → c < 55 ∧ us (c / 5) = true ∧ c % 5 ≤ ln (c / 5)
theorem shp_clo {row : Nat → Nat} (h : shp ln us row) : shp ln us (clo lf ln sy us b row) := by
  refine clo_J (J := shp ln us) (fun row1 i h1 h2 h3 h4 h5 row' r hr h6 h7 hj => ?_) h
  intro c hc
  by_cases e : c = 5 * r
  · subst e
    have ed : 5 * r / 5 = r := by omega
    have em : 5 * r % 5 = 0 := by omega
    rw [ed, em]; exact ⟨by omega, h6, by omega⟩
  · rw [upN_n row' e] at hc; exact hj c hc
theorem shp_mov (h4 : ∀ r, r < 11 → ln r ≤ 4) {row : Nat → Nat} (h : shp ln us row) {X : Nat} : shp ln us (mov ln sy row X).2 := by
  intro c hc
  rcases mov_2 (ln := ln) (sy := sy) (row := row) (X := X) (c := c) with ⟨k, k0, k1, k2, k3, k4, k6⟩ | ⟨-, k2⟩
  · obtain ⟨g1, g2, g3⟩ := h k k3
    have := h4 (k / 5) (by omega)
    have ed : c / 5 = k / 5 := by omega
    have em : c % 5 = k % 5 + 1 := by omega
    rw [ed, em]; exact ⟨by omega, g2, by omega⟩
  · exact absurd k2 hc
theorem TB_shp (h4 : ∀ r, r < 11 → ln r ≤ 4) (h10 : us 10 = true) {rows : Nat → Nat → Nat} {tg : Nat → Nat → Option Nat} {m s x : Nat} (h : TB lf ln sy us b rows tg m s x) : ∀ q, q < m → shp ln us (rows q) := by
  intro q
  induction q using Nat.strongRecOn with
  | _ q ih =>
    intro hq
    by_cases e : q = 0
    · subst e
      rw [h.2.2.2.1]
      refine shp_clo (fun c hc => ?_)
      by_cases e : c = 50
      · subst e; exact ⟨by omega, h10, by omega⟩
      · exact absurd (upN_n (fun _ => 0) e) hc
    · obtain ⟨q', X, c1, c2, c3, c4⟩ := h.2.2.2.2.1 q (by omega) hq
      rw [c4]
      exact shp_clo (shp_mov h4 (ih q' c1 (by omega)))
theorem row0_w : wfb row0 := by
  intro c
  simp only [row0]
  by_cases e : c = 50
  · rw [e, upN_s]; omega
  · rw [upN_n _ e]; omega
end
