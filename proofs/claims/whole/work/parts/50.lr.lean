/-! parsers with one letter to look ahead, as such: names 0..5 (as symbols 6..11), letters 0..5, the end 6; rule 10 is the root -/
def LRD : Type := (Nat → Nat) × (Nat → Nat) × (Nat → Nat → Nat) × (Nat → Prop) × (Nat → Prop) × (Nat → Nat → Prop) × (Nat → Nat → Nat → Nat → Prop) × (Nat → Nat → Option Nat) × (Nat → Nat → Option Nat) × Nat
def LRD.lf (g : LRD) : Nat → Nat := g.1
def LRD.ln (g : LRD) : Nat → Nat := g.2.1
def LRD.sy (g : LRD) : Nat → Nat → Nat := g.2.2.1
def LRD.us (g : LRD) : Nat → Prop := g.2.2.2.1
def LRD.em (g : LRD) : Nat → Prop := g.2.2.2.2.1
def LRD.fi (g : LRD) : Nat → Nat → Prop := g.2.2.2.2.2.1
def LRD.I (g : LRD) : Nat → Nat → Nat → Nat → Prop := g.2.2.2.2.2.2.1
def LRD.tg (g : LRD) : Nat → Nat → Option Nat := g.2.2.2.2.2.2.2.1
def LRD.rd (g : LRD) : Nat → Nat → Option Nat := g.2.2.2.2.2.2.2.2.1
def LRD.m (g : LRD) : Nat := g.2.2.2.2.2.2.2.2.2
/-- a symbol of which the empty row comes; of which a row comes that begins with t -/
def LRD.eS (g : LRD) (s : Nat) : Prop := 6 ≤ s ∧ g.em (s - 6)
def LRD.fS (g : LRD) (s t : Nat) : Prop := (s = t ∧ s < 6) ∨ (6 ≤ s ∧ g.fi (s - 6) t)
/-- rows of the right side from p on that begin with t; or are empty -/
def LRD.la (g : LRD) (r p t : Nat) : Prop := ∃ k, p ≤ k ∧ k < g.ln r ∧ (∀ i, p ≤ i → i < k → g.eS (g.sy r i)) ∧ g.fS (g.sy r k) t
def LRD.ae (g : LRD) (r p : Nat) : Prop := ∀ i, p ≤ i → i < g.ln r → g.eS (g.sy r i)
def LRD.fst (g : LRD) (r p u t : Nat) : Prop := (t < 6 ∧ g.la r p t) ∨ (g.ae r p ∧ t = u)
/-- what the rules and the names are -/
def LRD.okg (g : LRD) : Prop :=
  (∀ r, g.us r → r < 10 → g.lf r < 6 ∧ g.ln r ≤ 4 ∧ ∀ k, k < g.ln r → g.sy r k < 12) ∧
  (g.us 10 ∧ g.ln 10 = 1 ∧ 6 ≤ g.sy 10 0 ∧ g.sy 10 0 < 12) ∧
  (∀ r, g.us r → r < 10 → g.ae r 0 → g.em (g.lf r)) ∧
  (∀ P : Nat → Prop, (∀ r, g.us r → r < 10 → (∀ k, k < g.ln r → 6 ≤ g.sy r k ∧ P (g.sy r k - 6)) → P (g.lf r)) → ∀ x, g.em x → P x) ∧
  (∀ t r, t < 6 → g.us r → r < 10 → g.la r 0 t → g.fi (g.lf r) t) ∧
  (∀ (t : Nat) (P : Nat → Prop), t < 6 → (∀ r k, g.us r → r < 10 → k < g.ln r → (∀ i, i < k → g.eS (g.sy r i)) → ((g.sy r k = t ∧ g.sy r k < 6) ∨ (6 ≤ g.sy r k ∧ P (g.sy r k - 6))) → P (g.lf r)) → ∀ x, g.fi x t → P x) ∧
  (∀ r k, g.us r → r ≤ 10 → k < g.ln r → g.eS (g.sy r k) ∨ ∃ t, t < 6 ∧ g.fS (g.sy r k) t)
/-- what the states are -/
def LRD.oks (g : LRD) : Prop :=
  (∀ q r p u, q < g.m → g.I q r p u → g.us r ∧ r ≤ 10 ∧ p ≤ g.ln r ∧ u ≤ 6) ∧
  (∀ q r' p' u' r t, q < g.m → g.I q r' p' u' → p' < g.ln r' → g.sy r' p' = 6 + g.lf r → g.us r → r < 10 → g.fst r' (p' + 1) u' t → g.I q r 0 t) ∧
  (∀ q, q < g.m → ∀ P : Nat → Nat → Prop, (q = 0 → P 10 6) → (∀ r' p' u' r u, g.I q r' p' u' → p' < g.ln r' → (p' = 0 → P r' u') → g.sy r' p' = 6 + g.lf r → g.us r → r < 10 → g.fst r' (p' + 1) u' u → P r u) → ∀ r u, g.I q r 0 u → P r u) ∧
  (∀ q X, q < g.m → X < 12 → (g.tg q X = none ∧ ∀ r p u, g.I q r p u → p < g.ln r → g.sy r p ≠ X) ∨ ∃ q', g.tg q X = some q' ∧ 0 < q' ∧ q' < g.m ∧ (∃ r p u, g.I q r p u ∧ p < g.ln r ∧ g.sy r p = X) ∧ ∀ r p u, g.I q' r (p + 1) u ↔ g.I q r p u ∧ p < g.ln r ∧ g.sy r p = X) ∧
  (0 < g.m ∧ g.I 0 10 0 6 ∧ ∀ r p u, ¬ g.I 0 r (p + 1) u) ∧
  (∀ q t r, q < g.m → t ≤ 6 → (g.rd q t = some r ↔ g.I q r (g.ln r) t)) ∧
  (∀ q t r, q < g.m → t < 6 → g.I q r (g.ln r) t → g.tg q t = none)
def LRD.ok (g : LRD) : Prop := g.okg ∧ g.oks
/-! names that are distinct, rounds -/
theorem nodup_lt : ∀ (n : Nat) (l : List Nat), l.Nodup → (∀ x ∈ l, x < n) → l.length ≤ n
  | 0, l, _, h => by
    cases l with
    | nil => exact Nat.le_refl _
    | cons a l => exact absurd (h a List.mem_cons_self) (by omega)
  | n + 1, l, hn, h => by
    by_cases hm : n ∈ l
    · have h1 := nodup_lt n (l.erase n) (hn.erase n) (fun x hx => by
        have := (hn.mem_erase_iff).mp hx
        have := h x this.2
        omega)
      have h2 := List.length_erase_of_mem hm
      omega
    · exact Nat.le_succ_of_le (nodup_lt n l hn (fun x hx => by
        have := h x hx
        have : x ≠ n := fun e => hm (e ▸ hx)
        omega))
def rnd (f : (Nat → Prop) → Nat → Prop) : Nat → Nat → Prop
  | 0, _ => False
  | k + 1, x => f (rnd f k) x
theorem rnd_up {f : (Nat → Prop) → Nat → Prop} (hm : ∀ A B : Nat → Prop, (∀ x, A x → B x) → ∀ x, f A x → f B x) : ∀ k x, rnd f k x → rnd f (k + 1) x
  | 0, _, h => h.elim
  | k + 1, x, h => hm _ _ (rnd_up hm k) x h
theorem rnd_le {f : (Nat → Prop) → Nat → Prop} (hm : ∀ A B : Nat → Prop, (∀ x, A x → B x) → ∀ x, f A x → f B x) {i j : Nat} (h : i ≤ j) : ∀ x, rnd f i x → rnd f j x := by
  induction j with
  | zero => intro x hx; rw [show i = 0 by omega] at hx; exact hx
  | succ j ih =>
    intro x hx
    by_cases e : i = j + 1
    · rw [← e]; exact hx
    · exact rnd_up hm j x (ih (by omega) x hx)
/-- six rounds are enough for six names -/
theorem rnd_6 {f : (Nat → Prop) → Nat → Prop} (hm : ∀ A B : Nat → Prop, (∀ x, A x → B x) → ∀ x, f A x → f B x) (h6 : ∀ A x, f A x → x < 6) : ∀ x, f (rnd f 6) x → rnd f 6 x := by
  apply Classical.byContradiction
  intro hno
  have hx : ∀ k, k ≤ 6 → ∃ x, rnd f (k + 1) x ∧ ¬ rnd f k x := by
    intro k hk
    apply Classical.byContradiction
    intro h1
    have hst : ∀ x, rnd f (k + 1) x → rnd f k x := fun x hx => Classical.byContradiction fun h2 => h1 ⟨x, hx, h2⟩
    have hall : ∀ d x, rnd f (k + d) x → rnd f k x := by
      intro d
      induction d with
      | zero => intro x hx; exact hx
      | succ d ih => intro x hx; exact hst x (hm _ _ ih x hx)
    exact hno (fun x hx => by
      have : rnd f (k + (7 - k)) x := by rw [show k + (7 - k) = 7 by omega]; exact hx
      exact rnd_le hm hk x (hall _ x this))
  obtain ⟨x, hx⟩ : ∃ x : Nat → Nat, ∀ k, k ≤ 6 → rnd f (k + 1) (x k) ∧ ¬ rnd f k (x k) :=
    ⟨fun k => if h : k ≤ 6 then (hx k h).choose else 0, fun k h => by simp only [dif_pos h]; exact (hx k h).choose_spec⟩
  have hinj : ∀ i j, i < j → j ≤ 6 → x i ≠ x j := fun i j hij hj e => (hx j hj).2 (e ▸ rnd_le hm (show i + 1 ≤ j by omega) _ (hx i (by omega)).1)
  have hl := nodup_lt 6 ((List.range 7).map x) (by
    rw [List.nodup_iff_pairwise_ne, List.pairwise_map]
    refine List.Pairwise.imp_of_mem ?_ List.pairwise_lt_range
    intro a b ha hb hab
    exact hinj a b hab (by have := List.mem_range.mp hb; omega)) (by
    intro y hy
    obtain ⟨k, hk, rfl⟩ := List.mem_map.mp hy
    have := List.mem_range.mp hk
    exact h6 _ _ (hx k (by omega)).1)
  simp at hl
def LRD.fe (g : LRD) (A : Nat → Prop) (x : Nat) : Prop := ∃ r, g.us r ∧ r < 10 ∧ g.lf r = x ∧ ∀ i, i < g.ln r → 6 ≤ g.sy r i ∧ A (g.sy r i - 6)
def LRD.ff (g : LRD) (t : Nat) (A : Nat → Prop) (x : Nat) : Prop := ∃ r k, g.us r ∧ r < 10 ∧ g.lf r = x ∧ k < g.ln r ∧ (∀ i, i < k → g.eS (g.sy r i)) ∧ ((g.sy r k = t ∧ g.sy r k < 6) ∨ (6 ≤ g.sy r k ∧ A (g.sy r k - 6)))
def LRD.ek (g : LRD) : Nat → Nat → Prop := rnd g.fe
def LRD.fk (g : LRD) (t : Nat) : Nat → Nat → Prop := rnd (g.ff t)
theorem LRD.fe_m (g : LRD) : ∀ A B : Nat → Prop, (∀ x, A x → B x) → ∀ x, g.fe A x → g.fe B x := by
  intro A B h x ⟨r, h1, h2, h3, h4⟩
  exact ⟨r, h1, h2, h3, fun i hi => ⟨(h4 i hi).1, h _ (h4 i hi).2⟩⟩
theorem LRD.ff_m (g : LRD) (t : Nat) : ∀ A B : Nat → Prop, (∀ x, A x → B x) → ∀ x, g.ff t A x → g.ff t B x := by
  intro A B h x ⟨r, k, h1, h2, h3, h4, h5, h6⟩
  exact ⟨r, k, h1, h2, h3, h4, h5, h6.imp id (fun h7 => ⟨h7.1, h _ h7.2⟩)⟩
theorem LRD.em_6 {g : LRD} (h : g.okg) {x : Nat} (hx : g.em x) : g.ek 6 x := by
  refine h.2.2.2.1 (g.ek 6) (fun r h1 h2 h3 => ?_) x hx
  refine rnd_6 g.fe_m (fun A x ⟨r, h1, h2, h3, _⟩ => by rw [← h3]; exact (h.1 r h1 h2).1) (g.lf r) ⟨r, h1, h2, rfl, h3⟩
theorem LRD.fi_6 {g : LRD} (h : g.okg) {x t : Nat} (ht : t < 6) (hx : g.fi x t) : g.fk t 6 x := by
  refine h.2.2.2.2.2.1 t (g.fk t 6) ht (fun r k h1 h2 h3 h4 h5 => ?_) x hx
  refine rnd_6 (g.ff_m t) (fun A x ⟨r, k, h1, h2, h3, _⟩ => by rw [← h3]; exact (h.1 r h1 h2).1) (g.lf r) ⟨r, k, h1, h2, rfl, h3, h4, h5⟩
theorem LRD.ek_em {g : LRD} (h : g.okg) : ∀ k x, g.ek k x → g.em x
  | 0, _, hx => hx.elim
  | k + 1, x, hx => by
    obtain ⟨r, h1, h2, h3, h4⟩ := hx
    rw [← h3]
    exact h.2.2.1 r h1 h2 (fun i _ hi => ⟨(h4 i hi).1, ek_em h k _ (h4 i hi).2⟩)
theorem LRD.fk_fi {g : LRD} (h : g.okg) {t : Nat} (ht : t < 6) : ∀ k x, g.fk t k x → g.fi x t
  | 0, _, hx => hx.elim
  | k + 1, x, hx => by
    obtain ⟨r, j, h1, h2, h3, h4, h5, h6⟩ := hx
    rw [← h3]
    exact h.2.2.2.2.1 t r ht h1 h2 ⟨j, by omega, h4, fun i _ hi => h5 i hi, h6.imp id (fun h7 => ⟨h7.1, fk_fi h ht k _ h7.2⟩)⟩
/-- something may follow -/
theorem LRD.fst_some {g : LRD} (h : g.okg) {r u : Nat} (hu : g.us r) (hr : r ≤ 10) : ∀ d p, p + d = g.ln r → ∃ t, g.fst r p u t ∧ (t < 6 ∨ t = u)
  | 0, p, hp => ⟨u, Or.inr ⟨fun i h1 h2 => absurd h2 (by omega), rfl⟩, Or.inr rfl⟩
  | d + 1, p, hp => by
    rcases h.2.2.2.2.2.2 r p hu hr (by omega) with h1 | ⟨t, ht, h1⟩
    · obtain ⟨t, h2, h3⟩ := fst_some h hu hr d (p + 1) (by omega)
      refine ⟨t, ?_, h3⟩
      rcases h2 with ⟨ht, k, k1, k2, k3, k4⟩ | ⟨k1, k2⟩
      · refine Or.inl ⟨ht, k, by omega, k2, fun i h5 h6 => ?_, k4⟩
        by_cases e : i = p
        · rw [e]; exact h1
        · exact k3 i (by omega) h6
      · refine Or.inr ⟨fun i h5 h6 => ?_, k2⟩
        by_cases e : i = p
        · rw [e]; exact h1
        · exact k1 i (by omega) h6
    · exact ⟨t, Or.inl ⟨ht, p, Nat.le_refl _, by omega, fun i h5 h6 => absurd h6 (by omega), h1⟩, Or.inl ht⟩
