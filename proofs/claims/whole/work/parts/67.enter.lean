/-! the state behind a symbol, of both -/
def mvS (ln : Nat → Nat) (sy : Nat → Nat → Nat) (row : Nat → Nat) (X i : Nat) (a : Bool × (Nat → Nat)) : Bool × (Nat → Nat) :=
  if i % 5 < ln (i / 5) ∧ ¬ row i = 0 ∧ sy (i / 5) (i % 5) = X then (true, upN a.2 (i + 1) (row i)) else a
def mov (ln : Nat → Nat) (sy : Nat → Nat → Nat) (row : Nat → Nat) (X : Nat) : Bool × (Nat → Nat) := fold (mvS ln sy row X) 55 0 (false, fun _ => 0)
theorem mv_fold {ln : Nat → Nat} {sy : Nat → Nat → Nat} {row : Nat → Nat} {X : Nat} : ∀ d i a,
    ((fold (mvS ln sy row X) d i a).1 = true ↔ a.1 = true ∨ ∃ k, i ≤ k ∧ k < i + d ∧ k % 5 < ln (k / 5) ∧ ¬ row k = 0 ∧ sy (k / 5) (k % 5) = X) ∧
    ∀ c, ((∃ k, c = k + 1 ∧ i ≤ k ∧ k < i + d ∧ k % 5 < ln (k / 5) ∧ ¬ row k = 0 ∧ sy (k / 5) (k % 5) = X ∧ (fold (mvS ln sy row X) d i a).2 c = row k) ∨
      ((¬ ∃ k, c = k + 1 ∧ i ≤ k ∧ k < i + d ∧ k % 5 < ln (k / 5) ∧ ¬ row k = 0 ∧ sy (k / 5) (k % 5) = X) ∧ (fold (mvS ln sy row X) d i a).2 c = a.2 c))
  | 0, i, a => ⟨⟨Or.inl, fun h => h.elim id (fun ⟨k, h1, h2, _⟩ => absurd h2 (by omega))⟩, fun c => Or.inr ⟨fun ⟨k, h0, h1, h2, _⟩ => absurd h2 (by omega), rfl⟩⟩
  | d + 1, i, a => by
    obtain ⟨h1, h2⟩ := mv_fold (ln := ln) (sy := sy) (row := row) (X := X) d (i + 1) (mvS ln sy row X i a)
    by_cases e : i % 5 < ln (i / 5) ∧ ¬ row i = 0 ∧ sy (i / 5) (i % 5) = X
    · have hS : mvS ln sy row X i a = (true, upN a.2 (i + 1) (row i)) := by simp only [mvS]; rw [if_pos e]
      refine ⟨⟨fun _ => Or.inr ⟨i, by omega, by omega, e⟩, fun _ => ?_⟩, fun c => ?_⟩
      · exact h1.mpr (Or.inl (by rw [hS]))
      · rcases h2 c with ⟨k, k0, k1, k2, k3, k4, k5, k6⟩ | ⟨k1, k2⟩
        · exact Or.inl ⟨k, k0, by omega, by omega, k3, k4, k5, k6⟩
        · by_cases ec : c = i + 1
          · subst ec
            refine Or.inl ⟨i, rfl, by omega, by omega, e.1, e.2.1, e.2.2, ?_⟩
            have k2' : (fold (mvS ln sy row X) (d + 1) i a).2 (i + 1) = (mvS ln sy row X i a).2 (i + 1) := k2
            rw [k2', hS]; exact upN_s _ _ _
          · refine Or.inr ⟨?_, ?_⟩
            · rintro ⟨k, k3, k4, k5, k6⟩
              exact k1 ⟨k, k3, by omega, by omega, k6⟩
            · have k2' : (fold (mvS ln sy row X) (d + 1) i a).2 c = (mvS ln sy row X i a).2 c := k2
              rw [k2', hS]; exact upN_n _ ec
    · have hS : mvS ln sy row X i a = a := by simp only [mvS]; rw [if_neg e]
      rw [hS] at h1 h2
      have hF : fold (mvS ln sy row X) (d + 1) i a = fold (mvS ln sy row X) d (i + 1) a := by
        show fold (mvS ln sy row X) d (i + 1) (mvS ln sy row X i a) = _
        rw [hS]
      rw [hF]
      have nk : ∀ k, k % 5 < ln (k / 5) ∧ ¬ row k = 0 ∧ sy (k / 5) (k % 5) = X → k ≠ i := fun k hk ek => e (ek ▸ hk)
      refine ⟨h1.trans ⟨fun h => h.imp id (fun ⟨k, k1, k2, k3⟩ => ⟨k, by omega, by omega, k3⟩), fun h => h.imp id (fun ⟨k, k1, k2, k3⟩ => ⟨k, by have := nk k k3; omega, by omega, k3⟩)⟩, fun c => ?_⟩
      rcases h2 c with ⟨k, k0, k1, k2, k3, k4, k5, k6⟩ | ⟨k1, k2⟩
      · exact Or.inl ⟨k, k0, by omega, by omega, k3, k4, k5, k6⟩
      · refine Or.inr ⟨?_, k2⟩
        rintro ⟨k, k3, k4, k5, k6⟩
        have := nk k k6
        exact k1 ⟨k, k3, by omega, by omega, k6⟩
/-- what the moved set is -/
theorem mov_1 {ln : Nat → Nat} {sy : Nat → Nat → Nat} {row : Nat → Nat} {X : Nat} : (mov ln sy row X).1 = true ↔ ∃ k, k < 55 ∧ k % 5 < ln (k / 5) ∧ ¬ row k = 0 ∧ sy (k / 5) (k % 5) = X := by
  refine (mv_fold 55 0 (false, fun _ => 0)).1.trans ⟨fun h => ?_, fun ⟨k, h1, h2⟩ => Or.inr ⟨k, by omega, by omega, h2⟩⟩
  rcases h with h | ⟨k, h1, h2, h3⟩
  · cases h
  · exact ⟨k, by omega, h3⟩
theorem mov_2 {ln : Nat → Nat} {sy : Nat → Nat → Nat} {row : Nat → Nat} {X c : Nat} : (∃ k, c = k + 1 ∧ k < 55 ∧ k % 5 < ln (k / 5) ∧ ¬ row k = 0 ∧ sy (k / 5) (k % 5) = X ∧ (mov ln sy row X).2 c = row k) ∨ ((¬ ∃ k, c = k + 1 ∧ k < 55 ∧ k % 5 < ln (k / 5) ∧ ¬ row k = 0 ∧ sy (k / 5) (k % 5) = X) ∧ (mov ln sy row X).2 c = 0) := by
  rcases (mv_fold (ln := ln) (sy := sy) (row := row) (X := X) 55 0 (false, fun _ => 0)).2 c with ⟨k, k0, k1, k2, k3⟩ | ⟨k1, k2⟩
  · exact Or.inl ⟨k, k0, by omega, k3⟩
  · exact Or.inr ⟨fun ⟨k, k3, k4, k5⟩ => k1 ⟨k, k3, by omega, by omega, k5⟩, k2⟩
theorem mov_w {ln : Nat → Nat} {sy : Nat → Nat → Nat} {row : Nat → Nat} {X : Nat} (h : wfb row) : wfb (mov ln sy row X).2 := by
  intro c
  rcases mov_2 (ln := ln) (sy := sy) (row := row) (X := X) (c := c) with ⟨k, -, -, -, -, -, k6⟩ | ⟨-, k2⟩
  · rw [k6]; exact h k
  · rw [k2]; omega
def eqd (r1 r2 : Nat → Nat) : Nat → Nat → Bool
  | 0, _ => true
  | d + 1, p => decide (r1 p = r2 p) && eqd r1 r2 d (p + 1)
theorem eqd_iff {r1 r2 : Nat → Nat} : ∀ d p, eqd r1 r2 d p = true ↔ ∀ c, p ≤ c → c < p + d → r1 c = r2 c
  | 0, p => ⟨fun _ k h1 h2 => absurd h2 (by omega), fun _ => rfl⟩
  | d + 1, p => by
    simp only [eqd, Bool.and_eq_true, decide_eq_true_eq, eqd_iff d (p + 1)]
    constructor
    · rintro ⟨h1, h2⟩ k hk1 hk2
      by_cases e : k = p
      · rw [e]; exact h1
      · exact h2 k (by omega) (by omega)
    · intro h
      exact ⟨h p (by omega) (by omega), fun k h1 h2 => h k (by omega) (by omega)⟩
def fnd (rows : Nat → Nat → Nat) (new : Nat → Nat) : Nat → Nat → Option Nat
  | 0, _ => none
  | d + 1, k => if eqd (rows k) new 55 0 = true then some k else fnd rows new d (k + 1)
theorem fnd_some {rows : Nat → Nat → Nat} {new : Nat → Nat} : ∀ d k j, fnd rows new d k = some j → k ≤ j ∧ j < k + d ∧ ∀ c, c < 55 → rows j c = new c
  | 0, k, j, h => by cases h
  | d + 1, k, j, h => by
    simp only [fnd] at h
    by_cases e : eqd (rows k) new 55 0 = true
    · rw [if_pos e] at h
      cases h
      exact ⟨by omega, by omega, fun c hc => (eqd_iff 55 0).mp e c (by omega) (by omega)⟩
    · rw [if_neg e] at h
      obtain ⟨h1, h2, h3⟩ := fnd_some d (k + 1) j h
      exact ⟨by omega, by omega, h3⟩
def RS (rows : Nat → Nat → Nat) (m : Nat) (f : Nat → Int32) : Prop := ∀ s, s < m → ∀ c, c < 55 → f (55 * s + c) = nI (rows s c)
theorem RS_RW {rows : Nat → Nat → Nat} {m : Nat} {f f' : Nat → Int32} {row : Nat → Nat} (h : RS rows m f) (h1 : RW m row f f') : RS rows m f' := by
  intro s hs c hc
  rw [h1.2 (55 * s + c) (by omega)]; exact h s hs c hc
def upR (rows : Nat → Nat → Nat) (m : Nat) (row : Nat → Nat) : Nat → Nat → Nat := fun s => if s = m then row else rows s
theorem upR_s (rows : Nat → Nat → Nat) (m : Nat) (row : Nat → Nat) : upR rows m row m = row := by simp only [upR, if_true]
theorem upR_n (rows : Nat → Nat → Nat) {m s : Nat} (row : Nat → Nat) (h : s ≠ m) : upR rows m row s = rows s := by simp only [upR, if_neg h]
theorem RS_up {rows : Nat → Nat → Nat} {m : Nat} {f f' : Nat → Int32} {row : Nat → Nat} (h : RS rows m f) (h1 : RW m row f f') : RS (upR rows m row) (m + 1) f' := by
  intro s hs c hc
  by_cases e : s = m
  · rw [e, upR_s]; exact h1.1 c hc
  · rw [upR_n rows row e]; exact RS_RW h h1 s (by omega) c hc
theorem RW_0 {q : Nat} {f : Nat → Int32} : RW q (fun _ => 0) f (fl f (fun _ => nI 0) (55 * q) 55) := ⟨fun c hc => fl_in (by omega) (by omega), fun j hj => fl_out (by omega)⟩
section
variable {n : Nat} {lf ln : Nat → Nat} {sy : Nat → Nat → Nat} {us : Nat → Bool} {b : Nat → Nat}
theorem c_clear {q : Nat} (hq : q ≤ 40) {f : Nat → Int32} : S_States_clearSet (nI q) f = some (fl f (fun _ => nI 0) (55 * q) 55) := by
  have key : ∀ d i m, i + d = 55 → F_States_clearSet (m + (d + 1)) 0 (nI q) (nI (55 * q + i)) (fl f (fun _ => nI 0) (55 * q) i) = some (fl f (fun _ => nI 0) (55 * q) 55) := by
    intro d
    induction d with
    | zero =>
      intro i m hi
      have : i = 55 := by omega
      subst this
      show B_States_clearSet_0 (F_States_clearSet m) (nI q) (nI (55 * q + 55)) (fl f (fun _ => nI 0) (55 * q) 55) = _
      simp (disch := omega) only [B_States_clearSet_0, i_lit, nI_ltI, nI_leI, nI_eq, nI_add, pk_mul, pk_sub, nI_clamp, if_pos, if_neg, if_true, if_false, Option.bind_some, true_or, or_true, false_or, or_false, or_self, not_true_eq_false, not_false_eq_true, i_m1lt, i_m1le, i_nlt1, i_nle1, i_ne1, i_1ne]
    | succ d ih =>
      intro i m hi
      show B_States_clearSet_0 (F_States_clearSet (m + (d + 1))) (nI q) (nI (55 * q + i)) (fl f (fun _ => nI 0) (55 * q) i) = _
      have hu := fl_up f (fun _ => nI 0) (55 * q) i
      have e1 : 55 * q + i + 1 = 55 * q + (i + 1) := by omega
      simp (disch := omega) only [B_States_clearSet_0, hu, e1, i_lit, nI_ltI, nI_leI, nI_eq, nI_add, pk_mul, pk_sub, nI_clamp, if_pos, if_neg, if_true, if_false, Option.bind_some, true_or, or_true, false_or, or_false, or_self, not_true_eq_false, not_false_eq_true, i_m1lt, i_m1le, i_nlt1, i_nle1, i_ne1, i_1ne]
      exact ih (i + 1) m (by omega)
  obtain ⟨m, hm⟩ := fuelled (k := 55 + 1) (by omega)
  have e0 : nI q * nI 55 = nI (55 * q + 0) := by rw [pk_mul]; congr 1; omega
  have := key 55 0 m (by omega)
  rw [fl_0] at this
  rw [S_States_clearSet, hm, i_lit, e0]
  exact this
theorem c_mv1 {f3 f4 f0 : Nat → Int32} (hs : GS 11 ln sy f3 f4) {q m X r : Nat} (hq : q < m) (hm : m ≤ 40) (hX : X < 12) (hr : r < 11) {row : Nat → Nat} (hw : wfb row) (h0 : ∀ c, c < 55 → f0 (55 * q + c) = nI (row c)) : ∀ d p a f, p + d = ln r → RW m a.2 f0 f →
    ∃ f', RW m (fold (mvS ln sy row X) d (5 * r + p) a).2 f0 f' ∧ ∀ k, F_States_moveBehind (nI m) f3 f4 (k + (d + 1)) 1 (nI q) (nI X) (bI a.1) (nI r) (nI p) f = F_States_moveBehind (nI m) f3 f4 k 0 (nI q) (nI X) (bI (fold (mvS ln sy row X) d (5 * r + p) a).1) (nI (r + 1)) (nI 0) f'
  | 0, p, a, f, hp, h1 => by
    obtain ⟨hs1, hs2, hs3⟩ := hs r hr
    refine ⟨f, h1, fun k => ?_⟩
    show B_States_moveBehind_1 (F_States_moveBehind (nI m) f3 f4 k) (nI m) f3 f4 (nI q) (nI X) (bI a.1) (nI r) (nI p) f = F_States_moveBehind (nI m) f3 f4 k 0 (nI q) (nI X) (bI a.1) (nI (r + 1)) (nI 0) f
    simp (disch := omega) only [B_States_moveBehind_1, S_Grammar_sizeOf, hs2, i_lit, nI_ltI, nI_leI, nI_eq, nI_add, pk_mul, pk_sub, nI_clamp, if_pos, if_neg, if_true, if_false, Option.bind_some, true_or, or_true, false_or, or_false, or_self, not_true_eq_false, not_false_eq_true, i_m1lt, i_m1le, i_nlt1, i_nle1, i_ne1, i_1ne]
  | d + 1, p, a, f, hp, h1 => by
    obtain ⟨hs1, hs2, hs3⟩ := hs r hr
    obtain ⟨hy1, hy2⟩ := hs3 p (by omega)
    have hrow : f (55 * q + (5 * r + p)) = nI (row (5 * r + p)) := by rw [h1.2 _ (by omega)]; exact h0 _ (by omega)
    have hwr := hw (5 * r + p)
    have e0 : q * 55 + (r * 5 + p) = 55 * q + (5 * r + p) := by omega
    have e1 : m * 55 + (r * 5 + p) + 1 = 55 * m + (5 * r + p + 1) := by omega
    have ed : (5 * r + p) / 5 = r := by omega
    have em : (5 * r + p) % 5 = p := by omega
    have hsz : S_Grammar_sizeOf (nI r) f4 = some (nI (ln r)) := by simp (disch := omega) only [S_Grammar_sizeOf, hs2, i_lit, nI_ltI, nI_leI, nI_eq, nI_add, pk_mul, pk_sub, nI_clamp, if_pos, if_neg, if_true, if_false, Option.bind_some, true_or, or_true, false_or, or_false, or_self, not_true_eq_false, not_false_eq_true, i_m1lt, i_m1le, i_nlt1, i_nle1, i_ne1, i_1ne]
    have hsy : S_Grammar_symbolAt (nI r) (nI p) f3 f4 = some (nI (sy r p)) := by simp (disch := omega) only [S_Grammar_symbolAt, hsz, hy2, i_lit, nI_ltI, nI_leI, nI_eq, nI_add, pk_mul, pk_sub, nI_clamp, if_pos, if_neg, if_true, if_false, Option.bind_some, true_or, or_true, false_or, or_false, or_self, not_true_eq_false, not_false_eq_true, i_m1lt, i_m1le, i_nlt1, i_nle1, i_ne1, i_1ne]
    by_cases e : p < ln r ∧ ¬ row (5 * r + p) = 0 ∧ sy r p = X
    · have hS : mvS ln sy row X (5 * r + p) a = (true, upN a.2 (5 * r + p + 1) (row (5 * r + p))) := by simp only [mvS, ed, em]; rw [if_pos e]
      obtain ⟨f', b1, b2⟩ := c_mv1 hs hq hm hX hr hw h0 d (p + 1) (mvS ln sy row X (5 * r + p) a) (upd f (55 * m + (5 * r + p + 1)) (nI (row (5 * r + p)))) (by omega) (by rw [hS]; exact RW_up h1 (by omega))
      rw [show 5 * r + (p + 1) = 5 * r + p + 1 by omega] at b1 b2
      refine ⟨f', b1, fun k => ?_⟩
      show _ = F_States_moveBehind (nI m) f3 f4 k 0 (nI q) (nI X) (bI (fold (mvS ln sy row X) d (5 * r + p + 1) (mvS ln sy row X (5 * r + p) a)).1) (nI (r + 1)) (nI 0) f'
      rw [← b2 k, hS]
      show B_States_moveBehind_1 (F_States_moveBehind (nI m) f3 f4 (k + (d + 1))) (nI m) f3 f4 (nI q) (nI X) (bI a.1) (nI r) (nI p) f = _
      have h00 := e.2.1
      rw [e.2.2] at hsy
      simp (disch := omega) only [B_States_moveBehind_1, hsz, e0, hrow, h00, hsy, e1, bI_t, i_lit, nI_ltI, nI_leI, nI_eq, nI_add, pk_mul, pk_sub, nI_clamp, if_pos, if_neg, if_true, if_false, Option.bind_some, true_or, or_true, false_or, or_false, or_self, not_true_eq_false, not_false_eq_true, i_m1lt, i_m1le, i_nlt1, i_nle1, i_ne1, i_1ne]
    · have hS : mvS ln sy row X (5 * r + p) a = a := by simp only [mvS, ed, em]; rw [if_neg e]
      obtain ⟨f', b1, b2⟩ := c_mv1 hs hq hm hX hr hw h0 d (p + 1) (mvS ln sy row X (5 * r + p) a) f (by omega) (by rw [hS]; exact h1)
      rw [show 5 * r + (p + 1) = 5 * r + p + 1 by omega] at b1 b2
      refine ⟨f', b1, fun k => ?_⟩
      show _ = F_States_moveBehind (nI m) f3 f4 k 0 (nI q) (nI X) (bI (fold (mvS ln sy row X) d (5 * r + p + 1) (mvS ln sy row X (5 * r + p) a)).1) (nI (r + 1)) (nI 0) f'
      rw [← b2 k, hS]
      show B_States_moveBehind_1 (F_States_moveBehind (nI m) f3 f4 (k + (d + 1))) (nI m) f3 f4 (nI q) (nI X) (bI a.1) (nI r) (nI p) f = _
      by_cases h00 : row (5 * r + p) = 0
      · simp (disch := omega) only [B_States_moveBehind_1, hsz, e0, hrow, h00, i_lit, nI_ltI, nI_leI, nI_eq, nI_add, pk_mul, pk_sub, nI_clamp, if_pos, if_neg, if_true, if_false, Option.bind_some, true_or, or_true, false_or, or_false, or_self, not_true_eq_false, not_false_eq_true, i_m1lt, i_m1le, i_nlt1, i_nle1, i_ne1, i_1ne]
      · have hne : ¬ sy r p = X := fun h => e ⟨by omega, h00, h⟩
        simp (disch := omega) only [B_States_moveBehind_1, hsz, e0, hrow, h00, hsy, hne, i_lit, nI_ltI, nI_leI, nI_eq, nI_add, pk_mul, pk_sub, nI_clamp, if_pos, if_neg, if_true, if_false, Option.bind_some, true_or, or_true, false_or, or_false, or_self, not_true_eq_false, not_false_eq_true, i_m1lt, i_m1le, i_nlt1, i_nle1, i_ne1, i_1ne]
theorem foldm5 {ln : Nat → Nat} {r : Nat} (h4 : ln r ≤ 4) {row : Nat → Nat} {X : Nat} (e : Nat) (he : ln r ≤ e) (he5 : e ≤ 5) (a : Bool × (Nat → Nat)) : fold (mvS ln sy row X) e (5 * r) a = fold (mvS ln sy row X) (ln r) (5 * r) a := by
  obtain ⟨k, rfl⟩ : ∃ k, e = ln r + k := ⟨e - ln r, by omega⟩
  rw [fold_add]
  refine fold_no _ _ _ (fun i h1 h2 => ?_)
  have ed : i / 5 = r := by omega
  simp only [mvS, ed]
  rw [if_neg (by omega)]
theorem c_mv0 {f3 f4 f0 : Nat → Int32} (hs : GS 11 ln sy f3 f4) {q m X : Nat} (hq : q < m) (hm : m ≤ 40) (hX : X < 12) {row : Nat → Nat} (hw : wfb row) (h0 : ∀ c, c < 55 → f0 (55 * q + c) = nI (row c)) : ∀ d r a f, r + d = 11 → RW m a.2 f0 f →
    ∃ C f', C ≤ 6 * d + 1 ∧ RW m (fold (mvS ln sy row X) (5 * d) (5 * r) a).2 f0 f' ∧ ∀ k, F_States_moveBehind (nI m) f3 f4 (k + C) 0 (nI q) (nI X) (bI a.1) (nI r) (nI 0) f = some (bI (fold (mvS ln sy row X) (5 * d) (5 * r) a).1, f')
  | 0, r, a, f, hr, h1 => by
    have : r = 11 := by omega
    subst this
    refine ⟨1, f, by omega, h1, fun k => ?_⟩
    show B_States_moveBehind_0 (F_States_moveBehind (nI m) f3 f4 k) (nI m) f3 f4 (nI q) (nI X) (bI a.1) (nI 11) (nI 0) f = some (bI a.1, f)
    cases a.1 with
    | true => simp (disch := omega) only [B_States_moveBehind_0, bI_t, i_lit, nI_ltI, nI_leI, nI_eq, nI_add, pk_mul, pk_sub, nI_clamp, if_pos, if_neg, if_true, if_false, Option.bind_some, true_or, or_true, false_or, or_false, or_self, not_true_eq_false, not_false_eq_true, i_m1lt, i_m1le, i_nlt1, i_nle1, i_ne1, i_1ne]
    | false => simp (disch := omega) only [B_States_moveBehind_0, bI_f, i_lit, nI_ltI, nI_leI, nI_eq, nI_add, pk_mul, pk_sub, nI_clamp, if_pos, if_neg, if_true, if_false, Option.bind_some, true_or, or_true, false_or, or_false, or_self, not_true_eq_false, not_false_eq_true, i_m1lt, i_m1le, i_nlt1, i_nle1, i_ne1, i_1ne]
  | d + 1, r, a, f, hr, h1 => by
    have h4 := (hs r (by omega)).1
    obtain ⟨fa, c1, c2⟩ := c_mv1 hs hq hm hX (show r < 11 by omega) hw h0 (ln r) 0 a f (by omega) h1
    have z0 : 5 * r + 0 = 5 * r := rfl
    have z5 := foldm5 (sy := sy) (row := row) (X := X) h4 5 (by omega) (by omega) a
    rw [z0, ← z5] at c1 c2
    obtain ⟨C, f', b0, b1, b2⟩ := c_mv0 hs hq hm hX hw h0 d (r + 1) (fold (mvS ln sy row X) 5 (5 * r) a) fa (by omega) c1
    have e5 : fold (mvS ln sy row X) (5 * (d + 1)) (5 * r) a = fold (mvS ln sy row X) (5 * d) (5 * (r + 1)) (fold (mvS ln sy row X) 5 (5 * r) a) := by
      rw [show 5 * (d + 1) = 5 + 5 * d by omega, fold_add, show 5 * r + 5 = 5 * (r + 1) by omega]
    rw [e5]
    refine ⟨C + (ln r + 1) + 1, f', by omega, b1, fun k => ?_⟩
    rw [← b2 k, ← c2 (k + C), show k + (C + (ln r + 1) + 1) = k + C + (ln r + 1) + 1 by omega]
    show B_States_moveBehind_0 (F_States_moveBehind (nI m) f3 f4 (k + C + (ln r + 1))) (nI m) f3 f4 (nI q) (nI X) (bI a.1) (nI r) (nI 0) f = _
    simp (disch := omega) only [B_States_moveBehind_0, i_lit, nI_ltI, nI_leI, nI_eq, nI_add, pk_mul, pk_sub, nI_clamp, if_pos, if_neg, if_true, if_false, Option.bind_some, true_or, or_true, false_or, or_false, or_self, not_true_eq_false, not_false_eq_true, i_m1lt, i_m1le, i_nlt1, i_nle1, i_ne1, i_1ne]
theorem c_mov {f3 f4 f : Nat → Int32} (hs : GS 11 ln sy f3 f4) {q m X : Nat} (hq : q < m) (hm : m ≤ 40) (hX : X < 12) {row : Nat → Nat} (hw : wfb row) (h0 : ∀ c, c < 55 → f (55 * q + c) = nI (row c)) :
    ∃ f', S_States_moveBehind (nI q) (nI X) (nI m) f f3 f4 = some (bI (mov ln sy row X).1, f') ∧ RW m (mov ln sy row X).2 f f' := by
  obtain ⟨C, f', b0, b1, b2⟩ := c_mv0 hs hq hm hX hw (f0 := fl f (fun _ => nI 0) (55 * m) 55) (fun c hc => by rw [fl_out (by omega)]; exact h0 c hc) 11 0 (false, fun _ => 0) (fl f (fun _ => nI 0) (55 * m) 55) (by omega) ⟨fun c hc => fl_in (by omega) (by omega), fun j _ => rfl⟩
  obtain ⟨k, hk⟩ := fuelled (k := C) (by omega)
  refine ⟨f', ?_, b1.1, fun j hj => by rw [b1.2 j hj, fl_out (by omega)]⟩
  have hcl := c_clear hm (f := f)
  rw [S_States_moveBehind, hcl]
  show F_States_moveBehind (nI m) f3 f4 fuel_ 0 (nI q) (nI X) (bI false) (nI 0) (nI 0) (fl f (fun _ => nI 0) (55 * m) 55) = _
  rw [hk]
  exact b2 k
theorem c_same {m k : Nat} (hm : m ≤ 40) (hk : k < m) {f : Nat → Int32} {rk rn : Nat → Nat} (hwk : wfb rk) (hwn : wfb rn) (h1 : ∀ c, c < 55 → f (55 * k + c) = nI (rk c)) (h2 : ∀ c, c < 55 → f (55 * m + c) = nI (rn c)) : S_States_isSameAsNew (nI k) (nI m) f = some (bI (eqd rk rn 55 0)) := by
  have key : ∀ d p j, p + d = 55 → F_States_isSameAsNew (nI m) f (j + (d + 1)) 0 (nI k) (nI p) = some (bI (eqd rk rn d p)) := by
    intro d
    induction d with
    | zero =>
      intro p j hp
      show B_States_isSameAsNew_0 (F_States_isSameAsNew (nI m) f j) (nI m) f (nI k) (nI p) = _
      simp (disch := omega) only [B_States_isSameAsNew_0, eqd, bI_t, i_lit, nI_ltI, nI_leI, nI_eq, nI_add, pk_mul, pk_sub, nI_clamp, if_pos, if_neg, if_true, if_false, Option.bind_some, true_or, or_true, false_or, or_false, or_self, not_true_eq_false, not_false_eq_true, i_m1lt, i_m1le, i_nlt1, i_nle1, i_ne1, i_1ne]
    | succ d ih =>
      intro p j hp
      show B_States_isSameAsNew_0 (F_States_isSameAsNew (nI m) f (j + (d + 1))) (nI m) f (nI k) (nI p) = _
      have e1 : k * 55 + p = 55 * k + p := by omega
      have e2 : m * 55 + p = 55 * m + p := by omega
      have h3 := h1 p (by omega)
      have h4 := h2 p (by omega)
      have h5 := hwk p
      have h6 := hwn p
      by_cases e : rk p = rn p
      · simp (disch := omega) only [B_States_isSameAsNew_0, e1, e2, h3, h4, e, eqd, decide_true, Bool.true_and, i_lit, nI_ltI, nI_leI, nI_eq, nI_add, pk_mul, pk_sub, nI_clamp, if_pos, if_neg, if_true, if_false, Option.bind_some, true_or, or_true, false_or, or_false, or_self, not_true_eq_false, not_false_eq_true, i_m1lt, i_m1le, i_nlt1, i_nle1, i_ne1, i_1ne]
        exact ih (p + 1) j (by omega)
      · simp (disch := omega) only [B_States_isSameAsNew_0, e1, e2, h3, h4, e, eqd, decide_false, Bool.false_and, bI_f, i_lit, nI_ltI, nI_leI, nI_eq, nI_add, pk_mul, pk_sub, nI_clamp, if_pos, if_neg, if_true, if_false, Option.bind_some, true_or, or_true, false_or, or_false, or_self, not_true_eq_false, not_false_eq_true, i_m1lt, i_m1le, i_nlt1, i_nle1, i_ne1, i_1ne]
  obtain ⟨j, hj⟩ := fuelled (k := 55 + 1) (by omega)
  rw [S_States_isSameAsNew, hj]
  exact key 55 0 j (by omega)
theorem c_fnd {f3 f4 f5 f6 f7 f : Nat → Int32} {m : Nat} (hm : m ≤ 40) {rows : Nat → Nat → Nat} {rn : Nat → Nat} (hw : ∀ s, s < m → wfb (rows s)) (hwn : wfb rn) (h1 : RS rows m f) (h2 : ∀ c, c < 55 → f (55 * m + c) = nI (rn c)) (q X : Nat) : ∀ d k j, k + d = m →
    F_States_enter f3 f4 f5 f6 f7 (j + (d + 1)) 0 (nI q) (nI X) (nI k) (nI m) f = match fnd rows rn d k with
      | some i => some (nI i, nI m, f)
      | none => if m < 40 then some (nI m, nI (m + 1), f) else some (nI 40, nI m, f)
  | 0, k, j, hk => by
    show B_States_enter_0 (F_States_enter f3 f4 f5 f6 f7 j) f3 f4 f5 f6 f7 (nI q) (nI X) (nI k) (nI m) f = _
    have e1 : m + 1 - 1 = m := by omega
    by_cases h40 : m < 40
    · simp (disch := omega) only [B_States_enter_0, fnd, e1, i_lit, nI_ltI, nI_leI, nI_eq, nI_add, pk_mul, pk_sub, nI_clamp, if_pos, if_neg, if_true, if_false, Option.bind_some, true_or, or_true, false_or, or_false, or_self, not_true_eq_false, not_false_eq_true, i_m1lt, i_m1le, i_nlt1, i_nle1, i_ne1, i_1ne]
    · simp (disch := omega) only [B_States_enter_0, fnd, i_lit, nI_ltI, nI_leI, nI_eq, nI_add, pk_mul, pk_sub, nI_clamp, if_pos, if_neg, if_true, if_false, Option.bind_some, true_or, or_true, false_or, or_false, or_self, not_true_eq_false, not_false_eq_true, i_m1lt, i_m1le, i_nlt1, i_nle1, i_ne1, i_1ne]
  | d + 1, k, j, hk => by
    show B_States_enter_0 (F_States_enter f3 f4 f5 f6 f7 (j + (d + 1))) f3 f4 f5 f6 f7 (nI q) (nI X) (nI k) (nI m) f = _
    have hsm := c_same hm (show k < m by omega) (hw k (by omega)) hwn (h1 k (by omega)) h2
    have ih := c_fnd (f3 := f3) (f4 := f4) (f5 := f5) (f6 := f6) (f7 := f7) hm hw hwn h1 h2 q X d (k + 1) j (by omega)
    cases e : eqd (rows k) rn 55 0 with
    | true =>
      rw [e, bI_t] at hsm
      simp (disch := omega) only [B_States_enter_0, hsm, i_10, fnd, e, i_lit, nI_ltI, nI_leI, nI_eq, nI_add, pk_mul, pk_sub, nI_clamp, if_pos, if_neg, if_true, if_false, Option.bind_some, true_or, or_true, false_or, or_false, or_self, not_true_eq_false, not_false_eq_true, i_m1lt, i_m1le, i_nlt1, i_nle1, i_ne1, i_1ne]
    | false =>
      rw [e, bI_f] at hsm
      simp (disch := omega) only [B_States_enter_0, hsm, fnd, e, Bool.false_eq_true, i_lit, nI_ltI, nI_leI, nI_eq, nI_add, pk_mul, pk_sub, nI_clamp, if_pos, if_neg, if_true, if_false, Option.bind_some, true_or, or_true, false_or, or_false, or_self, not_true_eq_false, not_false_eq_true, i_m1lt, i_m1le, i_nlt1, i_nle1, i_ne1, i_1ne]
      exact ih
/-- the class's step to the state behind a symbol -/
theorem c_ent (hn : n ≤ 10) {f3 f4 f5 f6 f7 f : Nat → Int32} (hb : wfb b) (hf : ∀ x, x < 6 → f3 x = nI (b x)) (hl : GL n lf f4) (hs : GS 11 ln sy f5 f6) (hu : RB 12 us f7) (hus : ∀ r, r < 10 → us r = true → r < n) {q m X : Nat} (hq : q < m) (hm : m ≤ 40) (hX : X < 12) {rows : Nat → Nat → Nat} (hw : ∀ s, s < m → wfb (rows s)) (h1 : RS rows m f) :
    ((mov ln sy (rows q) X).1 = false → ∃ f', S_States_enter (nI q) (nI X) (nI m) f f3 f4 f5 f6 f7 = some (-nI 1, nI m, f') ∧ RS rows m f') ∧
    ((mov ln sy (rows q) X).1 = true → ∃ f', RW m (clo lf ln sy us b (mov ln sy (rows q) X).2) f f' ∧ S_States_enter (nI q) (nI X) (nI m) f f3 f4 f5 f6 f7 = match fnd rows (clo lf ln sy us b (mov ln sy (rows q) X).2) m 0 with
      | some i => some (nI i, nI m, f')
      | none => if m < 40 then some (nI m, nI (m + 1), f') else some (nI 40, nI m, f')) := by
  obtain ⟨f1, c1, c2⟩ := c_mov hs hq hm hX (hw q hq) (h1 q hq)
  constructor
  · intro hc
    rw [hc, bI_f] at c1
    refine ⟨f1, ?_, RS_RW h1 c2⟩
    simp (disch := omega) only [S_States_enter, c1, i_lit, nI_ltI, nI_leI, nI_eq, nI_add, pk_mul, pk_sub, nI_clamp, if_pos, if_neg, if_true, if_false, Option.bind_some, true_or, or_true, false_or, or_false, or_self, not_true_eq_false, not_false_eq_true, i_m1lt, i_m1le, i_nlt1, i_nle1, i_ne1, i_1ne]
  · intro hc
    rw [hc, bI_t] at c1
    have hw2 := mov_w (ln := ln) (sy := sy) (X := X) (hw q hq)
    obtain ⟨f', d1, d2⟩ := c_clo hn hb hf hl hs hu hus hm hw2 ⟨c2.1, fun j _ => rfl⟩
    have d3 : RW m (clo lf ln sy us b (mov ln sy (rows q) X).2) f f' := ⟨d2.1, fun j hj => by rw [d2.2 j hj, c2.2 j hj]⟩
    refine ⟨f', d3, ?_⟩
    obtain ⟨j, hj⟩ := fuelled (k := m + 1) (by omega)
    have := c_fnd (f3 := f3) (f4 := f4) (f5 := f5) (f6 := f6) (f7 := f7) hm hw (clo_fix hb hw2).1 (RS_RW h1 d3) d3.1 q X m 0 j (by omega)
    rw [← hj] at this
    rw [← this]
    simp (disch := omega) only [S_States_enter, c1, i_10, d1, i_lit, nI_ltI, nI_leI, nI_eq, nI_add, pk_mul, pk_sub, nI_clamp, if_pos, if_neg, if_true, if_false, Option.bind_some, true_or, or_true, false_or, or_false, or_self, not_true_eq_false, not_false_eq_true, i_m1lt, i_m1le, i_nlt1, i_nle1, i_ne1, i_1ne]
end
