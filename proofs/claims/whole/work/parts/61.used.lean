/-! which rules are used: of both -/
def GL (n : Nat) (lf : Nat → Nat) (f : Nat → Int32) : Prop := ∀ r, r < n → lf r < 6 ∧ f r = nI (6 + lf r)
def GLm (n : Nat) (lf : Nat → Nat) (f : Nat → Int32) : Prop := ∀ r, r < n → lf r < 6 ∧ f r = nI (lf r)
def GS (n : Nat) (ln : Nat → Nat) (sy : Nat → Nat → Nat) (f2 f3 : Nat → Int32) : Prop := ∀ r, r < n → ln r ≤ 4 ∧ f3 r = nI (ln r) ∧ ∀ k, k < ln r → sy r k < 12 ∧ f2 (r * 4 + k) = nI (sy r k)
def GSm (n : Nat) (ln : Nat → Nat) (sy : Nat → Nat → Nat) (f2 f3 : Nat → Int32) : Prop := ∀ r, r < n → ln r ≤ 4 ∧ f3 r = nI (ln r) ∧ ∀ k, k < ln r → sy r k < 12 ∧ f2 (4 * r + k) = nI (sy r k)
def RB (n : Nat) (u : Nat → Bool) (f : Nat → Int32) : Prop := ∀ r, r < n → f r = bI (u r)
def hfd (sy : Nat → Nat → Nat) (fr : Nat → Bool) (r : Nat) : Nat → Nat → Bool
  | 0, _ => true
  | d + 1, p => (decide (sy r p < 6) || fr (sy r p - 6)) && hfd sy fr r d (p + 1)
theorem hfd_iff {sy : Nat → Nat → Nat} {fr : Nat → Bool} {r : Nat} : ∀ d p, hfd sy fr r d p = true ↔ ∀ k, p ≤ k → k < p + d → sy r k < 6 ∨ fr (sy r k - 6) = true
  | 0, p => ⟨fun _ k h1 h2 => absurd h2 (by omega), fun _ => rfl⟩
  | d + 1, p => by
    simp only [hfd, Bool.and_eq_true, Bool.or_eq_true, decide_eq_true_eq, hfd_iff d (p + 1)]
    constructor
    · rintro ⟨h1, h2⟩ k hk1 hk2
      by_cases e : k = p
      · rw [e]; exact h1
      · exact h2 k (by omega) (by omega)
    · intro h
      exact ⟨h p (by omega) (by omega), fun k h1 h2 => h k (by omega) (by omega)⟩
theorem hfd_0 {sy : Nat → Nat → Nat} {fr : Nat → Bool} {r d : Nat} : hfd sy fr r d 0 = true ↔ ∀ k, k < d → sy r k < 6 ∨ fr (sy r k - 6) = true := by
  rw [hfd_iff]
  exact ⟨fun h k hk => h k (by omega) (by omega), fun h k _ hk => h k (by omega)⟩
section
variable {n : Nat} {lf ln : Nat → Nat} {sy : Nat → Nat → Nat}
theorem c_hfs (hn : n ≤ 12) {f1 f2 f3 : Nat → Int32} (hs : GS n ln sy f2 f3) {fr : Nat → Bool} (hf : RB 6 fr f1) {r : Nat} (hr : r < n) : S_Grammar_hasFruitfulSide (nI r) f1 f2 f3 = some (bI (hfd sy fr r (ln r) 0)) := by
  obtain ⟨h1, h2, h3⟩ := hs r hr
  have key : ∀ d p m, p + d = ln r → F_Grammar_hasFruitfulSide f1 f2 f3 (m + (d + 1)) 0 (nI r) (nI p) = some (bI (hfd sy fr r d p)) := by
    intro d
    induction d with
    | zero =>
      intro p m hp
      show B_Grammar_hasFruitfulSide_0 (F_Grammar_hasFruitfulSide f1 f2 f3 m) f1 f2 f3 (nI r) (nI p) = _
      simp (disch := omega) only [B_Grammar_hasFruitfulSide_0, h2, hfd, bI_t, i_lit, nI_ltI, nI_leI, nI_eq, nI_add, pk_mul, pk_sub, nI_clamp, if_pos, if_neg, if_true, if_false, Option.bind_some, true_or, or_true, false_or, or_false, or_self, not_true_eq_false, not_false_eq_true, i_m1lt, i_m1le, i_nlt1, i_nle1, i_ne1, i_1ne]
    | succ d ih =>
      intro p m hp
      show B_Grammar_hasFruitfulSide_0 (F_Grammar_hasFruitfulSide f1 f2 f3 (m + (d + 1))) f1 f2 f3 (nI r) (nI p) = _
      obtain ⟨h4, h5⟩ := h3 p (by omega)
      have ih' := ih (p + 1) m (by omega)
      by_cases h6 : sy r p < 6
      · simp (disch := omega) only [B_Grammar_hasFruitfulSide_0, h2, h5, S_Grammar_isFruitful, i_10, ih', hfd, decide_eq_true h6, Bool.true_or, Bool.true_and, i_lit, nI_ltI, nI_leI, nI_eq, nI_add, pk_mul, pk_sub, nI_clamp, if_pos, if_neg, if_true, if_false, Option.bind_some, true_or, or_true, false_or, or_false, or_self, not_true_eq_false, not_false_eq_true, i_m1lt, i_m1le, i_nlt1, i_nle1, i_ne1, i_1ne]
      · have h7 := hf (sy r p - 6) (by omega)
        cases h8 : fr (sy r p - 6) with
        | true =>
          rw [h8, bI_t] at h7
          simp (disch := omega) only [B_Grammar_hasFruitfulSide_0, h2, h5, S_Grammar_isFruitful, h7, i_10, ih', hfd, h8, Bool.or_true, Bool.true_and, i_lit, nI_ltI, nI_leI, nI_eq, nI_add, pk_mul, pk_sub, nI_clamp, if_pos, if_neg, if_true, if_false, Option.bind_some, true_or, or_true, false_or, or_false, or_self, not_true_eq_false, not_false_eq_true, i_m1lt, i_m1le, i_nlt1, i_nle1, i_ne1, i_1ne]
        | false =>
          rw [h8, bI_f] at h7
          simp (disch := omega) only [B_Grammar_hasFruitfulSide_0, h2, h5, S_Grammar_isFruitful, h7, hfd, h8, decide_eq_false h6, Bool.or_self, Bool.false_and, bI_f, i_lit, nI_ltI, nI_leI, nI_eq, nI_add, pk_mul, pk_sub, nI_clamp, if_pos, if_neg, if_true, if_false, Option.bind_some, true_or, or_true, false_or, or_false, or_self, not_true_eq_false, not_false_eq_true, i_m1lt, i_m1le, i_nlt1, i_nle1, i_ne1, i_1ne]
  obtain ⟨m, hm⟩ := fuelled (k := ln r + 1) (by omega)
  rw [S_Grammar_hasFruitfulSide, hm]
  exact key (ln r) 0 m (by omega)
/-- the class's step: names of which rows come, rules that are used -/
def cuS (lf ln : Nat → Nat) (sy : Nat → Nat → Nat) (r : Nat) (a : Bool × (Nat → Bool) × (Nat → Bool)) : Bool × (Nat → Bool) × (Nat → Bool) :=
  if a.2.2 r = false ∧ hfd sy a.2.1 r (ln r) 0 = true then (true, upB a.2.1 (lf r), upB a.2.2 r) else a
def cuR (n : Nat) (lf ln : Nat → Nat) (sy : Nat → Nat → Nat) (a : (Nat → Bool) × (Nat → Bool)) : Bool × (Nat → Bool) × (Nat → Bool) := fold (cuS lf ln sy) n 0 (false, a)
theorem RB_up {N : Nat} {u : Nat → Bool} {f : Nat → Int32} (h : RB N u f) (j : Nat) : RB N (upB u j) (upd f j (nI 1)) := by
  intro r hr
  by_cases e : r = j
  · subst e; rw [pk_us, upB_s, bI_t]
  · rw [pk_un e, upB_n u e]; exact h r hr
theorem c_fu3 (hn : n ≤ 10) {f2 f3 f4 : Nat → Int32} (hl : GL n lf f2) (hs : GS n ln sy f3 f4) (j : Nat) : ∀ d r a f1 f5, r + d = n → RB 6 a.2.1 f1 → RB 12 a.2.2 f5 →
    ∃ f1' f5', RB 6 (fold (cuS lf ln sy) d r a).2.1 f1' ∧ RB 12 (fold (cuS lf ln sy) d r a).2.2 f5' ∧ ∀ m, F_Grammar_findUsed (nI n) f2 f3 f4 (m + d) 3 (bI a.1) (nI j) (nI r) f1 f5 = F_Grammar_findUsed (nI n) f2 f3 f4 m 3 (bI (fold (cuS lf ln sy) d r a).1) (nI j) (nI n) f1' f5'
  | 0, r, a, f1, f5, hr, h1, h2 => by
    have : r = n := by omega
    subst this
    exact ⟨f1, f5, h1, h2, fun m => rfl⟩
  | d + 1, r, a, f1, f5, hr, h1, h2 => by
    obtain ⟨hl1, hl2⟩ := hl r (by omega)
    have hh := c_hfs (show n ≤ 12 by omega) hs h1 (show r < n by omega)
    have hu := h2 r (by omega)
    by_cases e : a.2.2 r = false ∧ hfd sy a.2.1 r (ln r) 0 = true
    · obtain ⟨e1, e2⟩ := e
      rw [e1, bI_f] at hu
      rw [e2, bI_t] at hh
      have hS : cuS lf ln sy r a = (true, upB a.2.1 (lf r), upB a.2.2 r) := by simp only [cuS]; rw [if_pos ⟨e1, e2⟩]
      obtain ⟨f1', f5', b1, b2, b3⟩ := c_fu3 hn hl hs j d (r + 1) (cuS lf ln sy r a) (upd f1 (lf r) (nI 1)) (upd f5 r (nI 1)) (by omega) (by rw [hS]; exact RB_up h1 _) (by rw [hS]; exact RB_up h2 _)
      refine ⟨f1', f5', b1, b2, fun m => ?_⟩
      show _ = F_Grammar_findUsed (nI n) f2 f3 f4 m 3 (bI (fold (cuS lf ln sy) d (r + 1) (cuS lf ln sy r a)).1) (nI j) (nI n) f1' f5'
      rw [← b3 m, hS]
      show B_Grammar_findUsed_3 (F_Grammar_findUsed (nI n) f2 f3 f4 (m + d)) (nI n) f2 f3 f4 (bI a.1) (nI j) (nI r) f1 f5 = _
      have e3 : 6 + lf r - 6 = lf r := by omega
      simp (disch := omega) only [B_Grammar_findUsed_3, hu, hh, i_10, hl2, e3, i_nb1, bI_t, i_lit, nI_ltI, nI_leI, nI_eq, nI_add, pk_mul, pk_sub, nI_clamp, if_pos, if_neg, if_true, if_false, Option.bind_some, true_or, or_true, false_or, or_false, or_self, not_true_eq_false, not_false_eq_true, i_m1lt, i_m1le, i_nlt1, i_nle1, i_ne1, i_1ne]
    · have hS : cuS lf ln sy r a = a := by simp only [cuS]; rw [if_neg e]
      obtain ⟨f1', f5', b1, b2, b3⟩ := c_fu3 hn hl hs j d (r + 1) (cuS lf ln sy r a) f1 f5 (by omega) (by rw [hS]; exact h1) (by rw [hS]; exact h2)
      refine ⟨f1', f5', b1, b2, fun m => ?_⟩
      show _ = F_Grammar_findUsed (nI n) f2 f3 f4 m 3 (bI (fold (cuS lf ln sy) d (r + 1) (cuS lf ln sy r a)).1) (nI j) (nI n) f1' f5'
      rw [← b3 m, hS]
      show B_Grammar_findUsed_3 (F_Grammar_findUsed (nI n) f2 f3 f4 (m + d)) (nI n) f2 f3 f4 (bI a.1) (nI j) (nI r) f1 f5 = _
      cases e1 : a.2.2 r with
      | true =>
        rw [e1, bI_t] at hu
        simp (disch := omega) only [B_Grammar_findUsed_3, hu, i_10, i_lit, nI_ltI, nI_leI, nI_eq, nI_add, pk_mul, pk_sub, nI_clamp, if_pos, if_neg, if_true, if_false, Option.bind_some, true_or, or_true, false_or, or_false, or_self, not_true_eq_false, not_false_eq_true, i_m1lt, i_m1le, i_nlt1, i_nle1, i_ne1, i_1ne]
      | false =>
        rw [e1, bI_f] at hu
        have e2 : hfd sy a.2.1 r (ln r) 0 = false := by
          cases e2 : hfd sy a.2.1 r (ln r) 0 with
          | false => rfl
          | true => exact absurd ⟨e1, e2⟩ e
        rw [e2, bI_f] at hh
        simp (disch := omega) only [B_Grammar_findUsed_3, hu, hh, i_10, i_lit, nI_ltI, nI_leI, nI_eq, nI_add, pk_mul, pk_sub, nI_clamp, if_pos, if_neg, if_true, if_false, Option.bind_some, true_or, or_true, false_or, or_false, or_self, not_true_eq_false, not_false_eq_true, i_m1lt, i_m1le, i_nlt1, i_nle1, i_ne1, i_1ne]
theorem c_fu2 (hn : n ≤ 10) {f2 f3 f4 : Nat → Int32} (hl : GL n lf f2) (hs : GS n ln sy f3 f4) : ∀ k j a f1 f5, j + k = 11 → RB 6 a.1 f1 → RB 12 a.2 f5 →
    ∃ f1' f5', RB 6 (lim (cuR n lf ln sy) k a).1 f1' ∧ RB 12 (lim (cuR n lf ln sy) k a).2 f5' ∧ ∀ m, F_Grammar_findUsed (nI n) f2 f3 f4 (m + (k * (n + 2) + 1)) 2 (nI 1) (nI j) (nI 0) f1 f5 = some (f1', f5')
  | 0, j, a, f1, f5, hj, h1, h2 => by
    refine ⟨f1, f5, h1, h2, fun m => ?_⟩
    rw [Nat.zero_mul, Nat.zero_add]
    show B_Grammar_findUsed_2 (F_Grammar_findUsed (nI n) f2 f3 f4 m) (nI n) f2 f3 f4 (nI 1) (nI j) (nI 0) f1 f5 = _
    simp (disch := omega) only [B_Grammar_findUsed_2, i_10, i_lit, nI_ltI, nI_leI, nI_eq, nI_add, pk_mul, pk_sub, nI_clamp, if_pos, if_neg, if_true, if_false, Option.bind_some, true_or, or_true, false_or, or_false, or_self, not_true_eq_false, not_false_eq_true, i_m1lt, i_m1le, i_nlt1, i_nle1, i_ne1, i_1ne]
  | k + 1, j, a, f1, f5, hj, h1, h2 => by
    obtain ⟨f1', f5', b1, b2, b3⟩ := c_fu3 hn hl hs j n 0 (false, a) f1 f5 (by omega) h1 h2
    have s1 : ∀ m, F_Grammar_findUsed (nI n) f2 f3 f4 (m + 1 + n + 1) 2 (nI 1) (nI j) (nI 0) f1 f5 = F_Grammar_findUsed (nI n) f2 f3 f4 m 2 (bI (cuR n lf ln sy a).1) (nI (j + 1)) (nI 0) f1' f5' := by
      intro m
      have e1 : F_Grammar_findUsed (nI n) f2 f3 f4 (m + 1 + n + 1) 2 (nI 1) (nI j) (nI 0) f1 f5 = F_Grammar_findUsed (nI n) f2 f3 f4 (m + 1 + n) 3 (bI false) (nI j) (nI 0) f1 f5 := by
        show B_Grammar_findUsed_2 (F_Grammar_findUsed (nI n) f2 f3 f4 (m + 1 + n)) (nI n) f2 f3 f4 (nI 1) (nI j) (nI 0) f1 f5 = _
        simp (disch := omega) only [B_Grammar_findUsed_2, i_10, bI_f, i_lit, nI_ltI, nI_leI, nI_eq, nI_add, pk_mul, pk_sub, nI_clamp, if_pos, if_neg, if_true, if_false, Option.bind_some, true_or, or_true, false_or, or_false, or_self, not_true_eq_false, not_false_eq_true, i_m1lt, i_m1le, i_nlt1, i_nle1, i_ne1, i_1ne]
      rw [e1, b3 (m + 1)]
      show B_Grammar_findUsed_3 (F_Grammar_findUsed (nI n) f2 f3 f4 m) (nI n) f2 f3 f4 (bI (cuR n lf ln sy a).1) (nI j) (nI n) f1' f5' = _
      simp (disch := omega) only [B_Grammar_findUsed_3, i_lit, nI_ltI, nI_leI, nI_eq, nI_add, pk_mul, pk_sub, nI_clamp, if_pos, if_neg, if_true, if_false, Option.bind_some, true_or, or_true, false_or, or_false, or_self, not_true_eq_false, not_false_eq_true, i_m1lt, i_m1le, i_nlt1, i_nle1, i_ne1, i_1ne]
    cases hc : (cuR n lf ln sy a).1 with
    | true =>
      obtain ⟨f1'', f5'', c1, c2, c3⟩ := c_fu2 hn hl hs k (j + 1) (cuR n lf ln sy a).2 f1' f5' (by omega) b1 b2
      refine ⟨f1'', f5'', by simp only [lim]; rw [if_pos hc]; exact c1, by simp only [lim]; rw [if_pos hc]; exact c2, fun m => ?_⟩
      have := s1 (m + (k * (n + 2) + 1))
      rw [hc, bI_t, c3 m] at this
      rw [← this]
      congr 1
      rw [Nat.add_mul]
      omega
    | false =>
      refine ⟨f1', f5', by simp only [lim]; rw [if_neg (by rw [hc]; simp)]; exact b1, by simp only [lim]; rw [if_neg (by rw [hc]; simp)]; exact b2, fun m => ?_⟩
      have := s1 (m + k * (n + 2) + 1)
      rw [hc, bI_f] at this
      rw [show m + ((k + 1) * (n + 2) + 1) = m + k * (n + 2) + 1 + 1 + n + 1 by rw [Nat.add_mul]; omega, this]
      show B_Grammar_findUsed_2 (F_Grammar_findUsed (nI n) f2 f3 f4 (m + k * (n + 2))) (nI n) f2 f3 f4 (nI 0) (nI (j + 1)) (nI 0) f1' f5' = _
      simp (disch := omega) only [B_Grammar_findUsed_2, i_lit, nI_ltI, nI_leI, nI_eq, nI_add, pk_mul, pk_sub, nI_clamp, if_pos, if_neg, if_true, if_false, Option.bind_some, true_or, or_true, false_or, or_false, or_self, not_true_eq_false, not_false_eq_true, i_m1lt, i_m1le, i_nlt1, i_nle1, i_ne1, i_1ne]
/-- names of which rows of letters come -/
def Fr (n : Nat) (lf ln : Nat → Nat) (sy : Nat → Nat → Nat) (x : Nat) : Prop := ∀ P : Nat → Prop, (∀ r, r < n → (∀ k, k < ln r → sy r k < 6 ∨ P (sy r k - 6)) → P (lf r)) → P x
theorem Fr_c {r : Nat} (hr : r < n) (h : ∀ k, k < ln r → sy r k < 6 ∨ Fr n lf ln sy (sy r k - 6)) : Fr n lf ln sy (lf r) :=
  fun P hP => hP r hr (fun k hk => (h k hk).imp id (fun h1 => h1 P hP))
def cuJ (n : Nat) (lf ln : Nat → Nat) (sy : Nat → Nat → Nat) (a : (Nat → Bool) × (Nat → Bool)) : Prop :=
  (∀ x, a.1 x = true → Fr n lf ln sy x) ∧ ∀ r, a.2 r = true → r < n ∧ hfd sy a.1 r (ln r) 0 = true ∧ a.1 (lf r) = true
theorem cuS_J : ∀ r (a : Bool × (Nat → Bool) × (Nat → Bool)), r < n → cuJ n lf ln sy a.2 → cuJ n lf ln sy (cuS lf ln sy r a).2 ∧ (cuS lf ln sy r a = a ∨ (cuS lf ln sy r a).1 = true ∧ cnt a.2.2 n < cnt (cuS lf ln sy r a).2.2 n) := by
  intro r a hr hj
  by_cases e : a.2.2 r = false ∧ hfd sy a.2.1 r (ln r) 0 = true
  · have hS : cuS lf ln sy r a = (true, upB a.2.1 (lf r), upB a.2.2 r) := by simp only [cuS]; rw [if_pos e]
    rw [hS]
    refine ⟨⟨fun x hx => ?_, fun i hi => ?_⟩, Or.inr ⟨rfl, ?_⟩⟩
    · by_cases e1 : x = lf r
      · rw [e1]
        exact Fr_c hr (fun k hk => (hfd_0.mp e.2 k hk).imp id (hj.1 _))
      · exact hj.1 x (by rw [← upB_n a.2.1 e1]; exact hx)
    · have mono : ∀ i, hfd sy a.2.1 i (ln i) 0 = true → hfd sy (upB a.2.1 (lf r)) i (ln i) 0 = true := fun i h => hfd_0.mpr (fun k hk => (hfd_0.mp h k hk).imp id (upB_m _))
      by_cases e1 : i = r
      · rw [e1]; exact ⟨hr, mono r e.2, upB_s _ _⟩
      · have := hj.2 i (by rw [← upB_n a.2.2 e1]; exact hi)
        exact ⟨this.1, mono i this.2.1, upB_m _ this.2.2⟩
    · show cnt a.2.2 n < cnt (upB a.2.2 r) n
      rw [cnt_up a.2.2 e.1 n hr]; omega
  · have hS : cuS lf ln sy r a = a := by simp only [cuS]; rw [if_neg e]
    rw [hS]; exact ⟨hj, Or.inl rfl⟩
theorem cu_end : ∀ K a, n < K → cuJ n lf ln sy a → cuJ n lf ln sy (lim (cuR n lf ln sy) K a) ∧ (∀ x, (lim (cuR n lf ln sy) K a).1 x = true ↔ Fr n lf ln sy x) ∧ ∀ r, r < n → hfd sy (lim (cuR n lf ln sy) K a).1 r (ln r) 0 = true → (lim (cuR n lf ln sy) K a).2 r = true := by
  intro K a hK hj
  have hR : ∀ a, cuJ n lf ln sy a → cuJ n lf ln sy (cuR n lf ln sy a).2 := fun a h => (fold_mu (N := n) (μ := fun a => cnt a.2 n) (cuS_J (n := n)) n 0 (false, a) (by omega) h).1
  have hf := lim_fix (R := cuR n lf ln sy) (μ := fun a => cnt a.2 n) (M := n) (J := cuJ n lf ln sy) hR
    (fun a h h1 => by
      rcases (fold_mu (N := n) (μ := fun a => cnt a.2 n) (cuS_J (n := n)) n 0 (false, a) (by omega) h).2 with h2 | ⟨h2, -⟩
      · show (fold _ n 0 (false, a)).2 = a; rw [h2]
      · have h1' : (fold (cuS lf ln sy) n 0 (false, a)).1 = false := h1
        rw [h1'] at h2; cases h2)
    (fun a h h1 => by
      rcases (fold_mu (N := n) (μ := fun a => cnt a.2 n) (cuS_J (n := n)) n 0 (false, a) (by omega) h).2 with h2 | ⟨-, h2⟩
      · have h1' : (fold (cuS lf ln sy) n 0 (false, a)).1 = true := h1
        rw [h2] at h1'; cases h1'
      · exact h2)
    (fun a h => cnt_le a.2 n) K a hj (by omega)
  have hj' := lim_ind (R := cuR n lf ln sy) hR K a hj
  generalize lim (cuR n lf ln sy) K a = b at *
  have hst : ∀ r, r < n → hfd sy b.1 r (ln r) 0 = true → b.2 r = true := by
    intro r hr hh
    have := fold_id (N := n) (μ := fun a => cnt a.2 n) (cuS_J (n := n)) n 0 (false, b) (by omega) hj' hf r (by omega) (by omega)
    apply Classical.byContradiction
    intro e
    have e' : b.2 r = false := by cases h2 : b.2 r <;> simp_all
    simp only [cuS] at this
    rw [if_pos ⟨e', hh⟩] at this
    have := congrArg Prod.fst this
    cases this
  refine ⟨hj', fun x => ⟨hj'.1 x, fun hx => ?_⟩, hst⟩
  exact hx (fun x => b.1 x = true) (fun r hr h => (hj'.2 r (hst r hr (hfd_0.mpr h))).2.2)
end
