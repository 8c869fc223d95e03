/-! with what the rows begin that come of the names, of both -/
def upN (b : Nat → Nat) (j v : Nat) : Nat → Nat := fun x => if x = j then v else b x
theorem upN_s (b : Nat → Nat) (j v : Nat) : upN b j v j = v := by simp only [upN, if_true]
theorem upN_n (b : Nat → Nat) {i j v : Nat} (h : i ≠ j) : upN b j v i = b i := by simp only [upN, if_neg h]
def sm (b : Nat → Nat) : Nat → Nat
  | 0 => 0
  | n + 1 => sm b n + pop (b n)
theorem sm_le (b : Nat → Nat) : ∀ n, sm b n ≤ 7 * n
  | 0 => Nat.le_refl _
  | n + 1 => by have := sm_le b n; have := pop_le (b n); simp only [sm]; omega
theorem sm_hi (b : Nat → Nat) {j v : Nat} : ∀ n, n ≤ j → sm (upN b j v) n = sm b n
  | 0, _ => rfl
  | n + 1, h => by simp only [sm]; rw [sm_hi b n (by omega), upN_n b (by omega)]
theorem sm_up (b : Nat → Nat) {j v : Nat} (hv : pop (b j) < pop v) : ∀ n, j < n → sm b n < sm (upN b j v) n
  | 0, h => absurd h (by omega)
  | n + 1, h => by
    simp only [sm]
    by_cases e : j = n
    · subst e; rw [upN_s, sm_hi b j (Nat.le_refl _)]; omega
    · have := sm_up b hv n (by omega); rw [upN_n b (by omega)]; omega
theorem or_split {a v : Nat} (ha : a < 128) (hv : v < 128) : (a ||| v) = a ↔ ((v % 64 ||| a % 64) = a % 64 ∧ (v.testBit 6 = true → a.testBit 6 = true)) := by
  have h1 : (List.range 128).all (fun a => (List.range 128).all fun v => decide ((a ||| v) = a ↔ ((v % 64 ||| a % 64) = a % 64 ∧ (v.testBit 6 = true → a.testBit 6 = true)))) = true := by decide +kernel
  have := List.all_eq_true.mp (List.all_eq_true.mp h1 a (List.mem_range.mpr ha)) v (List.mem_range.mpr hv)
  simpa only [decide_eq_true_eq] using this
section
variable {n : Nat} {lf ln : Nat → Nat} {sy : Nat → Nat → Nat} {us : Nat → Bool}
def fiV (ln : Nat → Nat) (sy : Nat → Nat → Nat) (us : Nat → Bool) (b : Nat → Nat) (r : Nat) : Nat := if us r = true then beg sy b r (ln r) 0 else 0
def fiS (lf ln : Nat → Nat) (sy : Nat → Nat → Nat) (us : Nat → Bool) (r : Nat) (a : Bool × (Nat → Nat)) : Bool × (Nat → Nat) :=
  if (a.2 (lf r) ||| fiV ln sy us a.2 r) = a.2 (lf r) then a else (true, upN a.2 (lf r) (a.2 (lf r) ||| fiV ln sy us a.2 r))
def fiR (n : Nat) (lf ln : Nat → Nat) (sy : Nat → Nat → Nat) (us : Nat → Bool) (b : Nat → Nat) : Bool × (Nat → Nat) := fold (fiS lf ln sy us) n 0 (false, b)
theorem fiV_lt {b : Nat → Nat} (hb : wfb b) {r : Nat} : fiV ln sy us b r < 128 := by
  simp only [fiV]
  by_cases h : us r = true
  · rw [if_pos h]; exact beg_lt hb _ _
  · rw [if_neg h]; omega
theorem fiS_J (h6 : ∀ r, r < n → lf r < 6) : ∀ r (a : Bool × (Nat → Nat)), r < n → wfb a.2 → wfb (fiS lf ln sy us r a).2 ∧ (fiS lf ln sy us r a = a ∨ (fiS lf ln sy us r a).1 = true ∧ sm a.2 6 < sm (fiS lf ln sy us r a).2 6) := by
  intro r a hr hj
  have hv := fiV_lt (ln := ln) (sy := sy) (us := us) hj (r := r)
  by_cases e : (a.2 (lf r) ||| fiV ln sy us a.2 r) = a.2 (lf r)
  · have hS : fiS lf ln sy us r a = a := by simp only [fiS]; rw [if_pos e]
    rw [hS]; exact ⟨hj, Or.inl rfl⟩
  · have hS : fiS lf ln sy us r a = (true, upN a.2 (lf r) (a.2 (lf r) ||| fiV ln sy us a.2 r)) := by simp only [fiS]; rw [if_neg e]
    rw [hS]
    refine ⟨fun x => ?_, Or.inr ⟨rfl, sm_up a.2 (pop_or (hj _) hv e) 6 (h6 r hr)⟩⟩
    by_cases e1 : x = lf r
    · rw [e1]; show upN a.2 (lf r) _ (lf r) < 128; rw [upN_s]; exact or_lt (hj _) hv
    · show upN a.2 (lf r) _ x < 128; rw [upN_n a.2 e1]; exact hj x
/-- what holds of the end -/
theorem fi_end (h6 : ∀ r, r < n → lf r < 6) : ∀ K b, 42 < sm b 6 + K → wfb b → wfb (lim (fiR n lf ln sy us) K b) ∧ ∀ r, r < n → us r = true → (lim (fiR n lf ln sy us) K b (lf r) ||| beg sy (lim (fiR n lf ln sy us) K b) r (ln r) 0) = lim (fiR n lf ln sy us) K b (lf r) := by
  intro K b hK hj
  have hR : ∀ a, wfb a → wfb (fiR n lf ln sy us a).2 := fun a h => (fold_mu (N := n) (μ := fun a => sm a 6) (fiS_J h6) n 0 (false, a) (by omega) h).1
  have hf := lim_fix (R := fiR n lf ln sy us) (μ := fun a => sm a 6) (M := 42) (J := wfb) hR
    (fun a h h1 => by
      rcases (fold_mu (N := n) (μ := fun a => sm a 6) (fiS_J (ln := ln) (sy := sy) (us := us) h6) n 0 (false, a) (by omega) h).2 with h2 | ⟨h2, -⟩
      · show (fold _ n 0 (false, a)).2 = a; rw [h2]
      · have h1' : (fold (fiS lf ln sy us) n 0 (false, a)).1 = false := h1
        rw [h1'] at h2; cases h2)
    (fun a h h1 => by
      rcases (fold_mu (N := n) (μ := fun a => sm a 6) (fiS_J (ln := ln) (sy := sy) (us := us) h6) n 0 (false, a) (by omega) h).2 with h2 | ⟨-, h2⟩
      · have h1' : (fold (fiS lf ln sy us) n 0 (false, a)).1 = true := h1
        rw [h2] at h1'; cases h1'
      · exact h2)
    (fun a h => sm_le a 6) K b hj hK
  have hj' := lim_ind (R := fiR n lf ln sy us) hR K b hj
  refine ⟨hj', fun r hr hu => ?_⟩
  generalize lim (fiR n lf ln sy us) K b = c at *
  have := fold_id (N := n) (μ := fun a => sm a 6) (fiS_J h6) n 0 (false, c) (by omega) hj' hf r (by omega) (by omega)
  apply Classical.byContradiction
  intro e
  simp only [fiS, fiV, if_pos hu] at this
  rw [if_neg e] at this
  have := congrArg Prod.fst this
  cases this
/-- what is found is so -/
theorem fi_snd (Q : Nat → Nat → Prop) (hQ : ∀ (b : Nat → Nat) r t, (∀ x t, (b x).testBit t = true → Q x t) → r < n → us r = true → (beg sy b r (ln r) 0).testBit t = true → Q (lf r) t) : ∀ K, ∀ x t, (lim (fiR n lf ln sy us) K (fun _ => 0) x).testBit t = true → Q x t := by
  intro K
  refine lim_ind (R := fiR n lf ln sy us) (J := fun b => ∀ x t, (b x).testBit t = true → Q x t) (fun b hb => ?_) K _ (fun x t h => by simp at h)
  refine fold_ind (S := fiS lf ln sy us) (J := fun b => ∀ x t, (b x).testBit t = true → Q x t) (N := n) (fun r a hr ha x t hx => ?_) n 0 (false, b) (by omega) hb
  by_cases e : (a.2 (lf r) ||| fiV ln sy us a.2 r) = a.2 (lf r)
  · have hS : fiS lf ln sy us r a = a := by simp only [fiS]; rw [if_pos e]
    rw [hS] at hx; exact ha x t hx
  · have hS : fiS lf ln sy us r a = (true, upN a.2 (lf r) (a.2 (lf r) ||| fiV ln sy us a.2 r)) := by simp only [fiS]; rw [if_neg e]
    rw [hS] at hx
    by_cases e1 : x = lf r
    · subst e1
      have hx' : (upN a.2 (lf r) (a.2 (lf r) ||| fiV ln sy us a.2 r) (lf r)).testBit t = true := hx
      rw [upN_s, bit_or] at hx'
      rcases hx' with h | h
      · exact ha _ t h
      · simp only [fiV] at h
        by_cases hu : us r = true
        · rw [if_pos hu] at h; exact hQ a.2 r t ha hr hu h
        · rw [if_neg hu] at h; simp at h
    · have hx' : (upN a.2 (lf r) (a.2 (lf r) ||| fiV ln sy us a.2 r) x).testBit t = true := hx
      rw [upN_n a.2 e1] at hx'
      exact ha x t hx'
theorem c_ff2 (hn : n ≤ 10) {f2 f3 f4 f5 : Nat → Int32} (hl : GL n lf f2) (hs : GS n ln sy f3 f4) (hu : RB n us f5) (j : Nat) : ∀ d r a f1, r + d = n → wfb a.2 → (∀ x, x < 6 → f1 x = nI (a.2 x)) →
    ∃ f1', (∀ x, x < 6 → f1' x = nI ((fold (fiS lf ln sy us) d r a).2 x)) ∧ ∀ m, F_Grammar_findFirsts (nI n) f2 f3 f4 f5 (m + d) 2 (bI a.1) (nI j) (nI r) f1 = F_Grammar_findFirsts (nI n) f2 f3 f4 f5 m 2 (bI (fold (fiS lf ln sy us) d r a).1) (nI j) (nI n) f1'
  | 0, r, a, f1, hr, hw, h1 => by
    have : r = n := by omega
    subst this
    exact ⟨f1, h1, fun m => rfl⟩
  | d + 1, r, a, f1, hr, hw, h1 => by
    obtain ⟨hl1, hl2⟩ := hl r (by omega)
    have h6 : ∀ r, r < n → lf r < 6 := fun r hr => (hl r hr).1
    have hbg := c_beg (show n ≤ 12 by omega) hs hw h1 (show r < n by omega) (show 0 ≤ ln r by omega)
    rw [Nat.sub_zero] at hbg
    have hur := hu r (by omega)
    have hx := h1 (lf r) hl1
    have hwl := hw (lf r)
    have e3 : 6 + lf r - 6 = lf r := by omega
    have hbl := beg_lt (sy := sy) hw (r := r) (ln r) 0
    have hol := or_lt hwl hbl
    have hwS := (fiS_J (ln := ln) (sy := sy) (us := us) h6 r a (by omega) hw).1
    by_cases e : (a.2 (lf r) ||| fiV ln sy us a.2 r) = a.2 (lf r)
    · have hS : fiS lf ln sy us r a = a := by simp only [fiS]; rw [if_pos e]
      obtain ⟨f1', b1, b3⟩ := c_ff2 hn hl hs hu j d (r + 1) (fiS lf ln sy us r a) f1 (by omega) hwS (by rw [hS]; exact h1)
      refine ⟨f1', b1, fun m => ?_⟩
      show _ = F_Grammar_findFirsts (nI n) f2 f3 f4 f5 m 2 (bI (fold (fiS lf ln sy us) d (r + 1) (fiS lf ln sy us r a)).1) (nI j) (nI n) f1'
      rw [← b3 m, hS]
      show B_Grammar_findFirsts_2 (F_Grammar_findFirsts (nI n) f2 f3 f4 f5 (m + d)) (nI n) f2 f3 f4 f5 (bI a.1) (nI j) (nI r) f1 = _
      cases hc : us r with
      | true =>
        simp only [fiV, hc, if_true] at e
        rw [hc, bI_t] at hur
        simp (disch := omega) only [B_Grammar_findFirsts_2, hur, hbg, i_10, hl2, e3, hx, i_or, e, i_lit, nI_ltI, nI_leI, nI_eq, nI_add, pk_mul, pk_sub, nI_clamp, if_pos, if_neg, if_true, if_false, Option.bind_some, true_or, or_true, false_or, or_false, or_self, not_true_eq_false, not_false_eq_true, i_m1lt, i_m1le, i_nlt1, i_nle1, i_ne1, i_1ne]
      | false =>
        rw [hc, bI_f] at hur
        simp (disch := omega) only [B_Grammar_findFirsts_2, hur, hl2, e3, hx, i_lit, nI_ltI, nI_leI, nI_eq, nI_add, pk_mul, pk_sub, nI_clamp, if_pos, if_neg, if_true, if_false, Option.bind_some, true_or, or_true, false_or, or_false, or_self, not_true_eq_false, not_false_eq_true, i_m1lt, i_m1le, i_nlt1, i_nle1, i_ne1, i_1ne]
    · have hS : fiS lf ln sy us r a = (true, upN a.2 (lf r) (a.2 (lf r) ||| fiV ln sy us a.2 r)) := by simp only [fiS]; rw [if_neg e]
      obtain ⟨f1', b1, b3⟩ := c_ff2 hn hl hs hu j d (r + 1) (fiS lf ln sy us r a) (upd f1 (lf r) (nI (a.2 (lf r) ||| fiV ln sy us a.2 r))) (by omega) hwS (by
        rw [hS]
        intro x hx
        show _ = nI (upN a.2 (lf r) _ x)
        by_cases e1 : x = lf r
        · rw [e1, pk_us, upN_s]
        · rw [pk_un e1, upN_n a.2 e1]; exact h1 x hx)
      refine ⟨f1', b1, fun m => ?_⟩
      show _ = F_Grammar_findFirsts (nI n) f2 f3 f4 f5 m 2 (bI (fold (fiS lf ln sy us) d (r + 1) (fiS lf ln sy us r a)).1) (nI j) (nI n) f1'
      rw [← b3 m, hS]
      show B_Grammar_findFirsts_2 (F_Grammar_findFirsts (nI n) f2 f3 f4 f5 (m + d)) (nI n) f2 f3 f4 f5 (bI a.1) (nI j) (nI r) f1 = _
      cases hc : us r with
      | true =>
        simp only [fiV, hc, if_true] at e ⊢
        rw [hc, bI_t] at hur
        simp (disch := omega) only [B_Grammar_findFirsts_2, hur, hbg, i_10, hl2, e3, hx, i_or, e, bI_t, i_lit, nI_ltI, nI_leI, nI_eq, nI_add, pk_mul, pk_sub, nI_clamp, if_pos, if_neg, if_true, if_false, Option.bind_some, true_or, or_true, false_or, or_false, or_self, not_true_eq_false, not_false_eq_true, i_m1lt, i_m1le, i_nlt1, i_nle1, i_ne1, i_1ne]
      | false =>
        exfalso
        apply e
        simp only [fiV, hc, Bool.false_eq_true, if_false, Nat.or_zero]
theorem c_ff1 (hn : n ≤ 10) {f2 f3 f4 f5 : Nat → Int32} (hl : GL n lf f2) (hs : GS n ln sy f3 f4) (hu : RB n us f5) : ∀ k j b f1, j + k = 43 → wfb b → (∀ x, x < 6 → f1 x = nI (b x)) →
    ∃ f1', (∀ x, x < 6 → f1' x = nI (lim (fiR n lf ln sy us) k b x)) ∧ ∀ m, F_Grammar_findFirsts (nI n) f2 f3 f4 f5 (m + (k * (n + 2) + 1)) 1 (nI 1) (nI j) (nI 0) f1 = some f1'
  | 0, j, b, f1, hj, hw, h1 => by
    refine ⟨f1, h1, fun m => ?_⟩
    rw [Nat.zero_mul, Nat.zero_add]
    show B_Grammar_findFirsts_1 (F_Grammar_findFirsts (nI n) f2 f3 f4 f5 m) (nI n) f2 f3 f4 f5 (nI 1) (nI j) (nI 0) f1 = _
    simp (disch := omega) only [B_Grammar_findFirsts_1, i_10, i_lit, nI_ltI, nI_leI, nI_eq, nI_add, pk_mul, pk_sub, nI_clamp, if_pos, if_neg, if_true, if_false, Option.bind_some, true_or, or_true, false_or, or_false, or_self, not_true_eq_false, not_false_eq_true, i_m1lt, i_m1le, i_nlt1, i_nle1, i_ne1, i_1ne]
  | k + 1, j, b, f1, hj, hw, h1 => by
    have h6 : ∀ r, r < n → lf r < 6 := fun r hr => (hl r hr).1
    obtain ⟨f1', b1, b3⟩ := c_ff2 hn hl hs hu j n 0 (false, b) f1 (by omega) hw h1
    have hw' : wfb (fiR n lf ln sy us b).2 := (fold_mu (N := n) (μ := fun a => sm a 6) (fiS_J h6) n 0 (false, b) (by omega) hw).1
    have s1 : ∀ m, F_Grammar_findFirsts (nI n) f2 f3 f4 f5 (m + 1 + n + 1) 1 (nI 1) (nI j) (nI 0) f1 = F_Grammar_findFirsts (nI n) f2 f3 f4 f5 m 1 (bI (fiR n lf ln sy us b).1) (nI (j + 1)) (nI 0) f1' := by
      intro m
      have e1 : F_Grammar_findFirsts (nI n) f2 f3 f4 f5 (m + 1 + n + 1) 1 (nI 1) (nI j) (nI 0) f1 = F_Grammar_findFirsts (nI n) f2 f3 f4 f5 (m + 1 + n) 2 (bI false) (nI j) (nI 0) f1 := by
        show B_Grammar_findFirsts_1 (F_Grammar_findFirsts (nI n) f2 f3 f4 f5 (m + 1 + n)) (nI n) f2 f3 f4 f5 (nI 1) (nI j) (nI 0) f1 = _
        simp (disch := omega) only [B_Grammar_findFirsts_1, i_10, bI_f, i_lit, nI_ltI, nI_leI, nI_eq, nI_add, pk_mul, pk_sub, nI_clamp, if_pos, if_neg, if_true, if_false, Option.bind_some, true_or, or_true, false_or, or_false, or_self, not_true_eq_false, not_false_eq_true, i_m1lt, i_m1le, i_nlt1, i_nle1, i_ne1, i_1ne]
      rw [e1, b3 (m + 1)]
      show B_Grammar_findFirsts_2 (F_Grammar_findFirsts (nI n) f2 f3 f4 f5 m) (nI n) f2 f3 f4 f5 (bI (fiR n lf ln sy us b).1) (nI j) (nI n) f1' = _
      simp (disch := omega) only [B_Grammar_findFirsts_2, i_lit, nI_ltI, nI_leI, nI_eq, nI_add, pk_mul, pk_sub, nI_clamp, if_pos, if_neg, if_true, if_false, Option.bind_some, true_or, or_true, false_or, or_false, or_self, not_true_eq_false, not_false_eq_true, i_m1lt, i_m1le, i_nlt1, i_nle1, i_ne1, i_1ne]
    cases hc : (fiR n lf ln sy us b).1 with
    | true =>
      obtain ⟨f1'', c1, c3⟩ := c_ff1 hn hl hs hu k (j + 1) (fiR n lf ln sy us b).2 f1' (by omega) hw' b1
      refine ⟨f1'', by simp only [lim]; rw [if_pos hc]; exact c1, fun m => ?_⟩
      have := s1 (m + (k * (n + 2) + 1))
      rw [hc, bI_t, c3 m] at this
      rw [← this]
      congr 1
      rw [Nat.add_mul]
      omega
    | false =>
      refine ⟨f1', by simp only [lim]; rw [if_neg (by rw [hc]; simp)]; exact b1, fun m => ?_⟩
      have := s1 (m + k * (n + 2) + 1)
      rw [hc, bI_f] at this
      rw [show m + ((k + 1) * (n + 2) + 1) = m + k * (n + 2) + 1 + 1 + n + 1 by rw [Nat.add_mul]; omega, this]
      show B_Grammar_findFirsts_1 (F_Grammar_findFirsts (nI n) f2 f3 f4 f5 (m + k * (n + 2))) (nI n) f2 f3 f4 f5 (nI 0) (nI (j + 1)) (nI 0) f1' = _
      simp (disch := omega) only [B_Grammar_findFirsts_1, i_lit, nI_ltI, nI_leI, nI_eq, nI_add, pk_mul, pk_sub, nI_clamp, if_pos, if_neg, if_true, if_false, Option.bind_some, true_or, or_true, false_or, or_false, or_self, not_true_eq_false, not_false_eq_true, i_m1lt, i_m1le, i_nlt1, i_nle1, i_ne1, i_1ne]
/-! the reference's -/
theorem m_f9 {f1 f2 f3 f4 f5 f6 f7 : Nat → Int32} {x r A B : Nat} {e k : Bool} (l1 : Int32) (hr : r < 10) (hx : x < 6) (h2 : f2 x = bI e) (h3 : f3 x = nI A) (m : Nat) :
    F_Model_prepare (nI n) f4 f5 f6 (m + 1) 9 l1 (nI r) (nI B) (bI k) (nI x) (nI 0) f1 f2 f3 f7 = F_Model_prepare (nI n) f4 f5 f6 m 5 (nI 1) (nI (r + 1)) (nI 0) (nI 0) (nI 0) (nI 0) f1 (upd f2 x (bI (e || k))) (upd f3 x (nI (A ||| B))) f7 := by
  show B_Model_prepare_9 (F_Model_prepare (nI n) f4 f5 f6 m) (nI n) f4 f5 f6 l1 (nI r) (nI B) (bI k) (nI x) (nI 0) f1 f2 f3 f7 = _
  cases e with
  | true =>
    rw [bI_t] at h2
    simp (disch := omega) only [B_Model_prepare_9, h2, h3, i_10, i_nb1, i_or, Bool.true_or, bI_t, i_lit, nI_ltI, nI_leI, nI_eq, nI_add, pk_mul, pk_sub, nI_clamp, if_pos, if_neg, if_true, if_false, Option.bind_some, true_or, or_true, false_or, or_false, or_self, not_true_eq_false, not_false_eq_true, i_m1lt, i_m1le, i_nlt1, i_nle1, i_ne1, i_1ne]
  | false =>
    rw [bI_f] at h2
    cases k with
    | true => simp (disch := omega) only [B_Model_prepare_9, h2, h3, i_10, i_nb1, i_or, Bool.or_true, bI_t, i_lit, nI_ltI, nI_leI, nI_eq, nI_add, pk_mul, pk_sub, nI_clamp, if_pos, if_neg, if_true, if_false, Option.bind_some, true_or, or_true, false_or, or_false, or_self, not_true_eq_false, not_false_eq_true, i_m1lt, i_m1le, i_nlt1, i_nle1, i_ne1, i_1ne]
    | false => simp (disch := omega) only [B_Model_prepare_9, h2, h3, i_10, i_nb0, i_or, Bool.or_self, bI_f, i_lit, nI_ltI, nI_leI, nI_eq, nI_add, pk_mul, pk_sub, nI_clamp, if_pos, if_neg, if_true, if_false, Option.bind_some, true_or, or_true, false_or, or_false, or_self, not_true_eq_false, not_false_eq_true, i_m1lt, i_m1le, i_nlt1, i_nle1, i_ne1, i_1ne]
theorem m_f8 {f1 f2 f3 f4 f5 f6 f7 : Nat → Int32} {x r a v : Nat} {c : Bool} (hr : r < 10) (hx : x < 6) (h4 : f4 r = nI x) (ha : a < 128) (hv : v < 128) (h2 : f2 x = bI (a.testBit 6)) (h3 : f3 x = nI (a % 64)) :
    ∃ C, C ≤ 2 ∧ ∀ m, F_Model_prepare (nI n) f4 f5 f6 (m + C) 8 (bI c) (nI r) (nI (v % 64)) (nI 0) (nI 0) (bI (v.testBit 6)) f1 f2 f3 f7 = F_Model_prepare (nI n) f4 f5 f6 m 5 (bI (c || !decide ((a ||| v) = a))) (nI (r + 1)) (nI 0) (nI 0) (nI 0) (nI 0) f1 (upd f2 x (bI ((a ||| v).testBit 6))) (upd f3 x (nI ((a ||| v) % 64))) f7 := by
  have e64 : (a ||| v) % 64 = a % 64 ||| v % 64 := by rw [show (64 : Nat) = 2 ^ 6 by rfl, Nat.or_mod_two_pow]
  have e6 : (a ||| v).testBit 6 = (a.testBit 6 || v.testBit 6) := Nat.testBit_or a v 6
  have hsp := or_split ha hv
  have hol := or_lt6 (show v % 64 < 64 by omega) (show a % 64 < 64 by omega)
  have via9 : ((c || !decide ((a ||| v) = a)) = true) → (∀ m, F_Model_prepare (nI n) f4 f5 f6 (m + 1) 8 (bI c) (nI r) (nI (v % 64)) (nI 0) (nI 0) (bI (v.testBit 6)) f1 f2 f3 f7 = F_Model_prepare (nI n) f4 f5 f6 m 9 (bI c) (nI r) (nI (v % 64)) (bI (v.testBit 6)) (nI x) (nI 0) f1 f2 f3 f7) →
      ∃ C, C ≤ 2 ∧ ∀ m, F_Model_prepare (nI n) f4 f5 f6 (m + C) 8 (bI c) (nI r) (nI (v % 64)) (nI 0) (nI 0) (bI (v.testBit 6)) f1 f2 f3 f7 = F_Model_prepare (nI n) f4 f5 f6 m 5 (bI (c || !decide ((a ||| v) = a))) (nI (r + 1)) (nI 0) (nI 0) (nI 0) (nI 0) f1 (upd f2 x (bI ((a ||| v).testBit 6))) (upd f3 x (nI ((a ||| v) % 64))) f7 := by
    intro hflag h
    refine ⟨2, by omega, fun m => ?_⟩
    rw [show m + 2 = m + 1 + 1 by omega, h (m + 1), m_f9 (k := v.testBit 6) (bI c) hr hx h2 h3 m, e64, e6, hflag, bI_t]
  cases c with
  | true =>
    refine via9 (by simp) (fun m => ?_)
    show B_Model_prepare_8 (F_Model_prepare (nI n) f4 f5 f6 m) (nI n) f4 f5 f6 (bI true) (nI r) (nI (v % 64)) (nI 0) (nI 0) (bI (v.testBit 6)) f1 f2 f3 f7 = _
    simp (disch := omega) only [B_Model_prepare_8, bI_t, i_10, h4, i_lit, nI_ltI, nI_leI, nI_eq, nI_add, pk_mul, pk_sub, nI_clamp, if_pos, if_neg, if_true, if_false, Option.bind_some, true_or, or_true, false_or, or_false, or_self, not_true_eq_false, not_false_eq_true, i_m1lt, i_m1le, i_nlt1, i_nle1, i_ne1, i_1ne]
  | false =>
    by_cases hs : (v % 64 ||| a % 64) = a % 64
    · cases hk : v.testBit 6 with
      | false =>
        have heq : (a ||| v) = a := hsp.mpr ⟨hs, fun h => by rw [hk] at h; cases h⟩
        refine ⟨1, by omega, fun m => ?_⟩
        show B_Model_prepare_8 (F_Model_prepare (nI n) f4 f5 f6 m) (nI n) f4 f5 f6 (bI false) (nI r) (nI (v % 64)) (nI 0) (nI 0) (bI false) f1 f2 f3 f7 = _
        rw [e64, heq, Nat.or_comm (a % 64), hs]
        cases he : a.testBit 6 with
        | true =>
          rw [he, bI_t] at h2
          simp (disch := omega) only [B_Model_prepare_8, bI_t, bI_f, i_10, h4, h3, i_or, hs, h2, i_nb1, Nat.or_comm (a % 64), decide_true, Bool.not_true, Bool.or_self, i_lit, nI_ltI, nI_leI, nI_eq, nI_add, pk_mul, pk_sub, nI_clamp, if_pos, if_neg, if_true, if_false, Option.bind_some, true_or, or_true, false_or, or_false, or_self, not_true_eq_false, not_false_eq_true, i_m1lt, i_m1le, i_nlt1, i_nle1, i_ne1, i_1ne]
        | false =>
          rw [he, bI_f] at h2
          simp (disch := omega) only [B_Model_prepare_8, bI_t, bI_f, i_10, h4, h3, i_or, hs, h2, i_nb0, Nat.or_comm (a % 64), decide_true, Bool.not_true, Bool.or_self, i_lit, nI_ltI, nI_leI, nI_eq, nI_add, pk_mul, pk_sub, nI_clamp, if_pos, if_neg, if_true, if_false, Option.bind_some, true_or, or_true, false_or, or_false, or_self, not_true_eq_false, not_false_eq_true, i_m1lt, i_m1le, i_nlt1, i_nle1, i_ne1, i_1ne]
      | true =>
        cases he : a.testBit 6 with
        | true =>
          have heq : (a ||| v) = a := hsp.mpr ⟨hs, fun _ => he⟩
          refine ⟨1, by omega, fun m => ?_⟩
          show B_Model_prepare_8 (F_Model_prepare (nI n) f4 f5 f6 m) (nI n) f4 f5 f6 (bI false) (nI r) (nI (v % 64)) (nI 0) (nI 0) (bI true) f1 f2 f3 f7 = _
          rw [e64, heq, Nat.or_comm (a % 64), hs, he]
          rw [he, bI_t] at h2
          simp (disch := omega) only [B_Model_prepare_8, bI_t, bI_f, i_10, h4, h3, i_or, hs, h2, i_nb1, Nat.or_comm (a % 64), decide_true, Bool.not_true, Bool.or_self, i_lit, nI_ltI, nI_leI, nI_eq, nI_add, pk_mul, pk_sub, nI_clamp, if_pos, if_neg, if_true, if_false, Option.bind_some, true_or, or_true, false_or, or_false, or_self, not_true_eq_false, not_false_eq_true, i_m1lt, i_m1le, i_nlt1, i_nle1, i_ne1, i_1ne]
        | false =>
          have hne : ¬ (a ||| v) = a := fun h => by
            have := (hsp.mp h).2 hk
            rw [he] at this; cases this
          rw [hk] at via9
          rw [he, hk] at e6
          refine via9 (by simp [hne]) (fun m => ?_)
          show B_Model_prepare_8 (F_Model_prepare (nI n) f4 f5 f6 m) (nI n) f4 f5 f6 (bI false) (nI r) (nI (v % 64)) (nI 0) (nI 0) (bI true) f1 f2 f3 f7 = _
          rw [he, bI_f] at h2
          simp (disch := omega) only [B_Model_prepare_8, bI_t, bI_f, i_10, h4, h3, i_or, hs, h2, i_lit, nI_ltI, nI_leI, nI_eq, nI_add, pk_mul, pk_sub, nI_clamp, if_pos, if_neg, if_true, if_false, Option.bind_some, true_or, or_true, false_or, or_false, or_self, not_true_eq_false, not_false_eq_true, i_m1lt, i_m1le, i_nlt1, i_nle1, i_ne1, i_1ne]
    · have hne : ¬ (a ||| v) = a := fun h => hs (hsp.mp h).1
      refine via9 (by simp [hne]) (fun m => ?_)
      show B_Model_prepare_8 (F_Model_prepare (nI n) f4 f5 f6 m) (nI n) f4 f5 f6 (bI false) (nI r) (nI (v % 64)) (nI 0) (nI 0) (bI (v.testBit 6)) f1 f2 f3 f7 = _
      simp (disch := omega) only [B_Model_prepare_8, bI_f, h4, h3, i_or, hs, i_lit, nI_ltI, nI_leI, nI_eq, nI_add, pk_mul, pk_sub, nI_clamp, if_pos, if_neg, if_true, if_false, Option.bind_some, true_or, or_true, false_or, or_false, or_self, not_true_eq_false, not_false_eq_true, i_m1lt, i_m1le, i_nlt1, i_nle1, i_ne1, i_1ne]
theorem bgn_0 {b : Nat → Nat} (hb : wfb b) {r d p : Nat} : bgn sy b r d p 0 = beg sy b r d p % 64 := by
  have hl := beg_lt (sy := sy) hb (r := r) d p
  simp only [bgn]
  by_cases h : (beg sy b r d p).testBit 6 = true
  · rw [if_pos h, Nat.or_zero]
  · rw [if_neg h]
    have := (bit6_lt hl).mp (by simpa using h)
    omega
theorem m_f5 (hn : n ≤ 10) {f4 f5 f6 f7 : Nat → Int32} (hl : GLm n lf f4) (hs : GSm n ln sy f6 f5) (hu : RB n us f7) {f1 : Nat → Int32} : ∀ d r a f2 f3, r + d = n → wfb a.2 → RF a.2 f2 f3 →
    ∃ C f2' f3', C ≤ 5 * d ∧ RF (fold (fiS lf ln sy us) d r a).2 f2' f3' ∧ ∀ m, F_Model_prepare (nI n) f4 f5 f6 (m + C) 5 (bI a.1) (nI r) (nI 0) (nI 0) (nI 0) (nI 0) f1 f2 f3 f7 = F_Model_prepare (nI n) f4 f5 f6 m 5 (bI (fold (fiS lf ln sy us) d r a).1) (nI n) (nI 0) (nI 0) (nI 0) (nI 0) f1 f2' f3' f7
  | 0, r, a, f2, f3, hr, hw, h1 => by
    have : r = n := by omega
    subst this
    exact ⟨0, f2, f3, by omega, h1, fun m => rfl⟩
  | d + 1, r, a, f2, f3, hr, hw, h1 => by
    obtain ⟨hl1, hl2⟩ := hl r (by omega)
    have h6 : ∀ r, r < n → lf r < 6 := fun r hr => (hl r hr).1
    have hur := hu r (by omega)
    have hv := fiV_lt (ln := ln) (sy := sy) (us := us) hw (r := r)
    have hwS := (fiS_J (ln := ln) (sy := sy) (us := us) h6 r a (by omega) hw).1
    have pre : ∃ C, C ≤ 3 ∧ ∀ m, F_Model_prepare (nI n) f4 f5 f6 (m + C) 5 (bI a.1) (nI r) (nI 0) (nI 0) (nI 0) (nI 0) f1 f2 f3 f7 = F_Model_prepare (nI n) f4 f5 f6 m 8 (bI a.1) (nI r) (nI (fiV ln sy us a.2 r % 64)) (nI 0) (nI 0) (bI ((fiV ln sy us a.2 r).testBit 6)) f1 f2 f3 f7 := by
      cases hc : us r with
      | false =>
        rw [hc, bI_f] at hur
        refine ⟨3, by omega, fun m => ?_⟩
        have hv0 : fiV ln sy us a.2 r = 0 := by simp only [fiV, hc, Bool.false_eq_true, if_false]
        rw [hv0, Nat.zero_testBit, bI_f, Nat.zero_mod]
        have s5 : F_Model_prepare (nI n) f4 f5 f6 (m + 3) 5 (bI a.1) (nI r) (nI 0) (nI 0) (nI 0) (nI 0) f1 f2 f3 f7 = F_Model_prepare (nI n) f4 f5 f6 (m + 2) 6 (bI a.1) (nI r) (nI 0) (nI 0) (nI 0) (nI 0) f1 f2 f3 f7 := by
          show B_Model_prepare_5 (F_Model_prepare (nI n) f4 f5 f6 (m + 2)) (nI n) f4 f5 f6 (bI a.1) (nI r) (nI 0) (nI 0) (nI 0) (nI 0) f1 f2 f3 f7 = _
          simp (disch := omega) only [B_Model_prepare_5, hur, i_lit, nI_ltI, nI_leI, nI_eq, nI_add, pk_mul, pk_sub, nI_clamp, if_pos, if_neg, if_true, if_false, Option.bind_some, true_or, or_true, false_or, or_false, or_self, not_true_eq_false, not_false_eq_true, i_m1lt, i_m1le, i_nlt1, i_nle1, i_ne1, i_1ne]
        have s6 : F_Model_prepare (nI n) f4 f5 f6 (m + 2) 6 (bI a.1) (nI r) (nI 0) (nI 0) (nI 0) (nI 0) f1 f2 f3 f7 = F_Model_prepare (nI n) f4 f5 f6 (m + 1) 7 (bI a.1) (nI r) (nI 0) (nI 0) (nI 0) (nI 0) f1 f2 f3 f7 := by
          show B_Model_prepare_6 (F_Model_prepare (nI n) f4 f5 f6 (m + 1)) (nI n) f4 f5 f6 (bI a.1) (nI r) (nI 0) (nI 0) (nI 0) (nI 0) f1 f2 f3 f7 = _
          simp (disch := omega) only [B_Model_prepare_6, hur, i_lit, nI_ltI, nI_leI, nI_eq, nI_add, pk_mul, pk_sub, nI_clamp, if_pos, if_neg, if_true, if_false, Option.bind_some, true_or, or_true, false_or, or_false, or_self, not_true_eq_false, not_false_eq_true, i_m1lt, i_m1le, i_nlt1, i_nle1, i_ne1, i_1ne]
        rw [s5, s6]
        rfl
      | true =>
        rw [hc, bI_t] at hur
        have hv0 : fiV ln sy us a.2 r = beg sy a.2 r (ln r) 0 := by simp only [fiV, hc, if_true]
        have hbg := m_beg (show n ≤ 11 by omega) hs hw h1 (show r < n by omega) (show 0 ≤ ln r by omega) (show 0 < 128 by omega)
        have hem := m_emp (show n ≤ 11 by omega) hs h1 (show r < n by omega) (show 0 ≤ ln r by omega)
        rw [Nat.sub_zero] at hbg hem
        rw [bgn_0 hw] at hbg
        have s5 : ∀ m, F_Model_prepare (nI n) f4 f5 f6 (m + 1) 5 (bI a.1) (nI r) (nI 0) (nI 0) (nI 0) (nI 0) f1 f2 f3 f7 = F_Model_prepare (nI n) f4 f5 f6 m 6 (bI a.1) (nI r) (nI 0) (nI 0) (nI 0) (nI (beg sy a.2 r (ln r) 0 % 64)) f1 f2 f3 f7 := by
          intro m
          show B_Model_prepare_5 (F_Model_prepare (nI n) f4 f5 f6 m) (nI n) f4 f5 f6 (bI a.1) (nI r) (nI 0) (nI 0) (nI 0) (nI 0) f1 f2 f3 f7 = _
          simp (disch := omega) only [B_Model_prepare_5, hur, i_10, hbg, i_lit, nI_ltI, nI_leI, nI_eq, nI_add, pk_mul, pk_sub, nI_clamp, if_pos, if_neg, if_true, if_false, Option.bind_some, true_or, or_true, false_or, or_false, or_self, not_true_eq_false, not_false_eq_true, i_m1lt, i_m1le, i_nlt1, i_nle1, i_ne1, i_1ne]
        rw [hv0]
        cases hb6 : (beg sy a.2 r (ln r) 0).testBit 6 with
        | true =>
          rw [hb6, bI_t] at hem
          refine ⟨2, by omega, fun m => ?_⟩
          rw [show m + 2 = m + 1 + 1 by omega, s5]
          show B_Model_prepare_6 (F_Model_prepare (nI n) f4 f5 f6 m) (nI n) f4 f5 f6 (bI a.1) (nI r) (nI 0) (nI 0) (nI 0) (nI (beg sy a.2 r (ln r) 0 % 64)) f1 f2 f3 f7 = _
          simp (disch := omega) only [B_Model_prepare_6, hur, i_10, hem, bI_t, i_lit, nI_ltI, nI_leI, nI_eq, nI_add, pk_mul, pk_sub, nI_clamp, if_pos, if_neg, if_true, if_false, Option.bind_some, true_or, or_true, false_or, or_false, or_self, not_true_eq_false, not_false_eq_true, i_m1lt, i_m1le, i_nlt1, i_nle1, i_ne1, i_1ne]
        | false =>
          rw [hb6, bI_f] at hem
          refine ⟨3, by omega, fun m => ?_⟩
          rw [show m + 3 = m + 1 + 1 + 1 by omega, s5]
          show B_Model_prepare_6 (F_Model_prepare (nI n) f4 f5 f6 (m + 1)) (nI n) f4 f5 f6 (bI a.1) (nI r) (nI 0) (nI 0) (nI 0) (nI (beg sy a.2 r (ln r) 0 % 64)) f1 f2 f3 f7 = _
          simp (disch := omega) only [B_Model_prepare_6, hur, i_10, hem, bI_f, i_lit, nI_ltI, nI_leI, nI_eq, nI_add, pk_mul, pk_sub, nI_clamp, if_pos, if_neg, if_true, if_false, Option.bind_some, true_or, or_true, false_or, or_false, or_self, not_true_eq_false, not_false_eq_true, i_m1lt, i_m1le, i_nlt1, i_nle1, i_ne1, i_1ne]
          rfl
    obtain ⟨C1, c0, c1⟩ := pre
    obtain ⟨hx2, hx3⟩ := h1 (lf r) hl1
    obtain ⟨C2, d0, d1⟩ := m_f8 (n := n) (f1 := f1) (f5 := f5) (f6 := f6) (f7 := f7) (c := a.1) (show r < 10 by omega) hl1 hl2 (hw (lf r)) hv hx2 hx3
    have hS1 : (a.1 || !decide ((a.2 (lf r) ||| fiV ln sy us a.2 r) = a.2 (lf r))) = (fiS lf ln sy us r a).1 := by
      simp only [fiS]
      by_cases e : (a.2 (lf r) ||| fiV ln sy us a.2 r) = a.2 (lf r)
      · rw [if_pos e, decide_eq_true e]; simp
      · rw [if_neg e, decide_eq_false e]; simp
    have hS2 : RF (fiS lf ln sy us r a).2 (upd f2 (lf r) (bI ((a.2 (lf r) ||| fiV ln sy us a.2 r).testBit 6))) (upd f3 (lf r) (nI ((a.2 (lf r) ||| fiV ln sy us a.2 r) % 64))) := by
      intro x hx
      by_cases e1 : x = lf r
      · have hval : (fiS lf ln sy us r a).2 (lf r) = a.2 (lf r) ||| fiV ln sy us a.2 r := by
          simp only [fiS]
          by_cases e : (a.2 (lf r) ||| fiV ln sy us a.2 r) = a.2 (lf r)
          · rw [if_pos e]; exact e.symm
          · rw [if_neg e]; exact upN_s _ _ _
        rw [e1, pk_us, pk_us, hval]; exact ⟨rfl, rfl⟩
      · have hval : (fiS lf ln sy us r a).2 x = a.2 x := by
          simp only [fiS]
          by_cases e : (a.2 (lf r) ||| fiV ln sy us a.2 r) = a.2 (lf r)
          · rw [if_pos e]
          · rw [if_neg e]; exact upN_n _ e1
        rw [pk_un e1, pk_un e1, hval]; exact h1 x hx
    obtain ⟨C3, f2', f3', b0, b1, b3⟩ := m_f5 hn hl hs hu (f1 := f1) d (r + 1) (fiS lf ln sy us r a) _ _ (by omega) hwS hS2
    refine ⟨C3 + C2 + C1, f2', f3', by omega, b1, fun m => ?_⟩
    rw [show m + (C3 + C2 + C1) = m + C3 + C2 + C1 by omega, c1, d1, hS1, b3]
    rfl
theorem m_f4 (hn : n ≤ 10) {f4 f5 f6 f7 : Nat → Int32} (hl : GLm n lf f4) (hs : GSm n ln sy f6 f5) (hu : RB n us f7) {f1 : Nat → Int32} : ∀ k b f2 f3, wfb b → 42 < sm b 6 + k → RF b f2 f3 →
    ∃ C f2' f3', C ≤ 52 * k + 1 ∧ RF (lim (fiR n lf ln sy us) k b) f2' f3' ∧ ∀ m, F_Model_prepare (nI n) f4 f5 f6 (m + C) 4 (nI 1) (nI 0) (nI 0) (nI 0) (nI 0) (nI 0) f1 f2 f3 f7 = some (f1, f2', f3', f7)
  | 0, b, f2, f3, hw, hk, h1 => absurd (sm_le b 6) (by omega)
  | k + 1, b, f2, f3, hw, hk, h1 => by
    have h6 : ∀ r, r < n → lf r < 6 := fun r hr => (hl r hr).1
    obtain ⟨C, f2', f3', b0, b1, b3⟩ := m_f5 hn hl hs hu (f1 := f1) n 0 (false, b) f2 f3 (by omega) hw h1
    have hfm := fold_mu (N := n) (μ := fun a => sm a 6) (fiS_J (ln := ln) (sy := sy) (us := us) h6) n 0 (false, b) (by omega) hw
    have s1 : ∀ m, F_Model_prepare (nI n) f4 f5 f6 (m + 1 + C + 1) 4 (nI 1) (nI 0) (nI 0) (nI 0) (nI 0) (nI 0) f1 f2 f3 f7 = F_Model_prepare (nI n) f4 f5 f6 m 4 (bI (fiR n lf ln sy us b).1) (nI 0) (nI 0) (nI 0) (nI 0) (nI 0) f1 f2' f3' f7 := by
      intro m
      have e1 : F_Model_prepare (nI n) f4 f5 f6 (m + 1 + C + 1) 4 (nI 1) (nI 0) (nI 0) (nI 0) (nI 0) (nI 0) f1 f2 f3 f7 = F_Model_prepare (nI n) f4 f5 f6 (m + 1 + C) 5 (bI false) (nI 0) (nI 0) (nI 0) (nI 0) (nI 0) f1 f2 f3 f7 := by
        show B_Model_prepare_4 (F_Model_prepare (nI n) f4 f5 f6 (m + 1 + C)) (nI n) f4 f5 f6 (nI 1) (nI 0) (nI 0) (nI 0) (nI 0) (nI 0) f1 f2 f3 f7 = _
        simp (disch := omega) only [B_Model_prepare_4, i_10, bI_f, i_lit, nI_ltI, nI_leI, nI_eq, nI_add, pk_mul, pk_sub, nI_clamp, if_pos, if_neg, if_true, if_false, Option.bind_some, true_or, or_true, false_or, or_false, or_self, not_true_eq_false, not_false_eq_true, i_m1lt, i_m1le, i_nlt1, i_nle1, i_ne1, i_1ne]
      rw [e1, b3 (m + 1)]
      show B_Model_prepare_5 (F_Model_prepare (nI n) f4 f5 f6 m) (nI n) f4 f5 f6 (bI (fiR n lf ln sy us b).1) (nI n) (nI 0) (nI 0) (nI 0) (nI 0) f1 f2' f3' f7 = _
      simp (disch := omega) only [B_Model_prepare_5, i_lit, nI_ltI, nI_leI, nI_eq, nI_add, pk_mul, pk_sub, nI_clamp, if_pos, if_neg, if_true, if_false, Option.bind_some, true_or, or_true, false_or, or_false, or_self, not_true_eq_false, not_false_eq_true, i_m1lt, i_m1le, i_nlt1, i_nle1, i_ne1, i_1ne]
    cases hc : (fiR n lf ln sy us b).1 with
    | true =>
      have hm : sm b 6 < sm (fiR n lf ln sy us b).2 6 := by
        rcases hfm.2 with h | ⟨-, h⟩
        · have hc' : (fold (fiS lf ln sy us) n 0 (false, b)).1 = true := hc
          rw [h] at hc'; cases hc'
        · exact h
      obtain ⟨C2, f2'', f3'', c0, c1, c3⟩ := m_f4 hn hl hs hu (f1 := f1) k (fiR n lf ln sy us b).2 f2' f3' hfm.1 (by omega) b1
      refine ⟨C2 + (C + 2), f2'', f3'', by omega, by simp only [lim]; rw [if_pos hc]; exact c1, fun m => ?_⟩
      have := s1 (m + C2)
      rw [hc, bI_t, c3 m] at this
      rw [← this]
      congr 1
      omega
    | false =>
      refine ⟨C + 3, f2', f3', by omega, by simp only [lim]; rw [if_neg (by rw [hc]; simp)]; exact b1, fun m => ?_⟩
      have := s1 (m + 1)
      rw [hc, bI_f] at this
      rw [show m + (C + 3) = m + 1 + 1 + C + 1 by omega, this]
      show B_Model_prepare_4 (F_Model_prepare (nI n) f4 f5 f6 m) (nI n) f4 f5 f6 (nI 0) (nI 0) (nI 0) (nI 0) (nI 0) (nI 0) f1 f2' f3' f7 = _
      simp (disch := omega) only [B_Model_prepare_4, i_lit, nI_ltI, nI_leI, nI_eq, nI_add, pk_mul, pk_sub, nI_clamp, if_pos, if_neg, if_true, if_false, Option.bind_some, true_or, or_true, false_or, or_false, or_self, not_true_eq_false, not_false_eq_true, i_m1lt, i_m1le, i_nlt1, i_nle1, i_ne1, i_1ne]
end
