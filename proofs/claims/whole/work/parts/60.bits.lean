/-! bits as ints, and rounds that go on as long as something changes -/
theorem i_or (a b : Nat) : nI a ||| nI b = nI (a ||| b) := by
  apply Int32.toBitVec_inj.mp
  simp [nI]
theorem i_and (a b : Nat) : nI a &&& nI b = nI (a &&& b) := by
  apply Int32.toBitVec_inj.mp
  simp [nI]
theorem i_m65 {a : Nat} (h : a < 128) : nI a &&& -nI 65 = nI (a % 64) := by
  have h1 : (List.range 128).all (fun a => decide (nI a &&& -nI 65 = nI (a % 64))) = true := by decide +kernel
  have := List.all_eq_true.mp h1 a (List.mem_range.mpr h)
  exact of_decide_eq_true this
theorem i_shl {t : Nat} (h : t < 7) : nI 1 <<< (nI t &&& nI 31) = nI (2 ^ t) := by
  have h1 : (List.range 7).all (fun t => decide (nI 1 <<< (nI t &&& nI 31) = nI (2 ^ t))) = true := by decide +kernel
  have := List.all_eq_true.mp h1 t (List.mem_range.mpr h)
  exact of_decide_eq_true this
theorem i_nb0 : vp_nar .boolean (nI 0) = nI 0 := by decide
theorem i_nb1 : vp_nar .boolean (nI 1) = nI 1 := by decide
theorem i_10 : ¬ nI 1 = nI 0 := by decide
theorem i_01 : ¬ nI 0 = nI 1 := by decide
def bI : Bool → Int32
  | true => nI 1
  | false => nI 0
theorem bI_t : bI true = nI 1 := rfl
theorem bI_f : bI false = nI 0 := rfl
theorem upd_self (f : Nat → Int32) (j : Nat) {v : Int32} (h : f j = v) : upd f j v = f := by
  funext i
  by_cases e : i = j
  · subst e; rw [pk_us, h]
  · rw [pk_un e]
theorem or_lt {a b : Nat} (ha : a < 128) (hb : b < 128) : a ||| b < 128 := Nat.or_lt_two_pow (n := 7) ha hb
theorem or_lt6 {a b : Nat} (ha : a < 64) (hb : b < 64) : a ||| b < 64 := Nat.or_lt_two_pow (n := 6) ha hb
theorem bit_hi {a t : Nat} (ha : a < 128) (ht : 7 ≤ t) : a.testBit t = false := by
  apply Nat.testBit_lt_two_pow
  exact Nat.lt_of_lt_of_le ha (Nat.pow_le_pow_right (by omega) ht : 2 ^ 7 ≤ 2 ^ t)
theorem bit_ext {a b : Nat} (ha : a < 128) (hb : b < 128) (h : ∀ t, t < 7 → (a.testBit t = true ↔ b.testBit t = true)) : a = b := by
  apply Nat.eq_of_testBit_eq
  intro t
  by_cases ht : t < 7
  · have := h t ht
    cases h1 : a.testBit t <;> cases h2 : b.testBit t <;> simp_all
  · rw [bit_hi ha (by omega), bit_hi hb (by omega)]
theorem bit_0 {a : Nat} (ha : a < 128) : a ≠ 0 ↔ ∃ t, t < 7 ∧ a.testBit t = true := by
  constructor
  · intro h
    apply Classical.byContradiction
    intro hn
    apply h
    refine bit_ext ha (by omega) (fun t ht => ⟨fun h1 => absurd ⟨t, ht, h1⟩ hn, fun h1 => by simp at h1⟩)
  · rintro ⟨t, _, h⟩ rfl
    simp at h
theorem bit_or (a b t : Nat) : (a ||| b).testBit t = true ↔ a.testBit t = true ∨ b.testBit t = true := by
  rw [Nat.testBit_or, Bool.or_eq_true]
theorem bit_m64 (a : Nat) {t : Nat} : (a % 64).testBit t = true ↔ t < 6 ∧ a.testBit t = true := by
  rw [show (64 : Nat) = 2 ^ 6 by rfl, Nat.testBit_mod_two_pow, Bool.and_eq_true, decide_eq_true_iff]
theorem bit_pow {s t : Nat} : (2 ^ s).testBit t = true ↔ s = t := by
  rw [Nat.testBit_two_pow, decide_eq_true_iff]
theorem i_and64 {a : Nat} (h : a < 128) : (nI a &&& nI 64 = nI 0) ↔ a.testBit 6 = false := by
  have h1 : (List.range 128).all (fun a => decide ((nI a &&& nI 64 = nI 0) ↔ a.testBit 6 = false)) = true := by decide +kernel
  have := List.all_eq_true.mp h1 a (List.mem_range.mpr h)
  exact of_decide_eq_true this
theorem i_and63 {a : Nat} (h : a < 128) : nI a &&& nI 63 = nI (a % 64) := by
  have h1 : (List.range 128).all (fun a => decide (nI a &&& nI 63 = nI (a % 64))) = true := by decide +kernel
  have := List.all_eq_true.mp h1 a (List.mem_range.mpr h)
  exact of_decide_eq_true this
def pop (a : Nat) : Nat := a % 2 + a / 2 % 2 + a / 4 % 2 + a / 8 % 2 + a / 16 % 2 + a / 32 % 2 + a / 64 % 2
theorem pop_le (a : Nat) : pop a ≤ 7 := by unfold pop; omega
theorem pop_or {a b : Nat} (ha : a < 128) (hb : b < 128) (h : ¬ (a ||| b) = a) : pop a < pop (a ||| b) := by
  have h1 : (List.range 128).all (fun a => (List.range 128).all fun b => decide ((a ||| b) = a) || decide (pop a < pop (a ||| b))) = true := by decide +kernel
  have := List.all_eq_true.mp (List.all_eq_true.mp h1 a (List.mem_range.mpr ha)) b (List.mem_range.mpr hb)
  simp only [Bool.or_eq_true, decide_eq_true_eq] at this
  exact this.resolve_left h
/-! rounds -/
def lim {α : Type} (R : α → Bool × α) : Nat → α → α
  | 0, a => a
  | k + 1, a => if (R a).1 = true then lim R k (R a).2 else (R a).2
theorem lim_ind {α : Type} {R : α → Bool × α} {J : α → Prop} (hJ : ∀ a, J a → J (R a).2) : ∀ k a, J a → J (lim R k a)
  | 0, a, h => h
  | k + 1, a, h => by
    simp only [lim]
    by_cases e : (R a).1 = true
    · rw [if_pos e]; exact lim_ind hJ k _ (hJ a h)
    · rw [if_neg e]; exact hJ a h
theorem lim_fix {α : Type} {R : α → Bool × α} {μ : α → Nat} {M : Nat} {J : α → Prop} (hJ : ∀ a, J a → J (R a).2) (h0 : ∀ a, J a → (R a).1 = false → (R a).2 = a) (h1 : ∀ a, J a → (R a).1 = true → μ a < μ (R a).2) (hM : ∀ a, J a → μ a ≤ M) :
    ∀ k a, J a → M < μ a + k → (R (lim R k a)).1 = false
  | 0, a, h, hk => absurd (hM a h) (by omega)
  | k + 1, a, h, hk => by
    simp only [lim]
    by_cases e : (R a).1 = true
    · rw [if_pos e]
      exact lim_fix hJ h0 h1 hM k _ (hJ a h) (by have := h1 a h e; omega)
    · rw [if_neg e]
      have e' : (R a).1 = false := by cases h2 : (R a).1 <;> simp_all
      rw [h0 a h e']; exact e'
def fold {α : Type} (S : Nat → Bool × α → Bool × α) : Nat → Nat → Bool × α → Bool × α
  | 0, _, a => a
  | d + 1, r, a => fold S d (r + 1) (S r a)
theorem fold_mu {α : Type} {S : Nat → Bool × α → Bool × α} {μ : α → Nat} {J : α → Prop} {N : Nat} (h : ∀ r a, r < N → J a.2 → J (S r a).2 ∧ (S r a = a ∨ (S r a).1 = true ∧ μ a.2 < μ (S r a).2)) :
    ∀ d r a, r + d ≤ N → J a.2 → J (fold S d r a).2 ∧ (fold S d r a = a ∨ (fold S d r a).1 = true ∧ μ a.2 < μ (fold S d r a).2)
  | 0, r, a, _, hj => ⟨hj, Or.inl rfl⟩
  | d + 1, r, a, hr, hj => by
    obtain ⟨h1, h2⟩ := h r a (by omega) hj
    obtain ⟨h3, h4⟩ := fold_mu h d (r + 1) (S r a) (by omega) h1
    refine ⟨h3, ?_⟩
    show fold S d (r + 1) (S r a) = a ∨ (fold S d (r + 1) (S r a)).1 = true ∧ μ a.2 < μ (fold S d (r + 1) (S r a)).2
    rcases h4 with h4 | ⟨h4, h5⟩
    · rw [h4]; exact h2
    · rcases h2 with h2 | ⟨h2, h6⟩
      · rw [h2] at h4 h5 ⊢; exact Or.inr ⟨h4, h5⟩
      · exact Or.inr ⟨h4, by omega⟩
/-- nothing was changed: no step changes anything -/
theorem fold_id {α : Type} {S : Nat → Bool × α → Bool × α} {μ : α → Nat} {J : α → Prop} {N : Nat} (h : ∀ r a, r < N → J a.2 → J (S r a).2 ∧ (S r a = a ∨ (S r a).1 = true ∧ μ a.2 < μ (S r a).2)) :
    ∀ d r a, r + d ≤ N → J a.2 → (fold S d r a).1 = false → ∀ i, r ≤ i → i < r + d → S i a = a
  | 0, r, a, _, hj, hf, i, h1, h2 => absurd h2 (by omega)
  | d + 1, r, a, hr, hj, hf, i, h1, h2 => by
    obtain ⟨h3, h4⟩ := h r a (by omega) hj
    have hf' : (fold S d (r + 1) (S r a)).1 = false := hf
    rcases h4 with h4 | ⟨h4, -⟩
    · by_cases e : i = r
      · rw [e]; exact h4
      · rw [h4] at hf'
        exact fold_id h d (r + 1) a (by omega) hj hf' i (by omega) (by omega)
    · rcases (fold_mu h d (r + 1) (S r a) (by omega) h3).2 with h5 | ⟨h5, -⟩
      · rw [h5, h4] at hf'; cases hf'
      · rw [h5] at hf'; cases hf'
theorem fold_ind {α : Type} {S : Nat → Bool × α → Bool × α} {J : α → Prop} {N : Nat} (h : ∀ r a, r < N → J a.2 → J (S r a).2) : ∀ d r a, r + d ≤ N → J a.2 → J (fold S d r a).2
  | 0, r, a, _, hj => hj
  | d + 1, r, a, hr, hj => fold_ind h d (r + 1) (S r a) (by omega) (h r a (by omega) hj)
def cnt (u : Nat → Bool) : Nat → Nat
  | 0 => 0
  | n + 1 => cnt u n + (if u n = true then 1 else 0)
theorem cnt_le (u : Nat → Bool) : ∀ n, cnt u n ≤ n
  | 0 => Nat.le_refl _
  | n + 1 => by have := cnt_le u n; simp only [cnt]; split <;> omega
def upB (u : Nat → Bool) (j : Nat) : Nat → Bool := fun i => if i = j then true else u i
theorem upB_s (u : Nat → Bool) (j : Nat) : upB u j j = true := by simp only [upB, if_true]
theorem upB_n (u : Nat → Bool) {i j : Nat} (h : i ≠ j) : upB u j i = u i := by simp only [upB, if_neg h]
theorem upB_m (u : Nat → Bool) {i j : Nat} (h : u i = true) : upB u j i = true := by
  by_cases e : i = j
  · rw [e, upB_s]
  · rw [upB_n u e]; exact h
theorem cnt_hi (u : Nat → Bool) {j : Nat} : ∀ n, n ≤ j → cnt (upB u j) n = cnt u n
  | 0, _ => rfl
  | n + 1, h => by simp only [cnt]; rw [cnt_hi u n (by omega), upB_n u (by omega)]
theorem cnt_up (u : Nat → Bool) {j : Nat} (hu : u j = false) : ∀ n, j < n → cnt (upB u j) n = cnt u n + 1
  | 0, h => absurd h (by omega)
  | n + 1, h => by
    simp only [cnt]
    by_cases e : j = n
    · subst e; rw [upB_s, cnt_hi u j (Nat.le_refl _), hu]; simp
    · rw [cnt_up u hu n (by omega), upB_n u (by omega)]; omega
