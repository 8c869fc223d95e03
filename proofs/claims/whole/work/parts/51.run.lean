/-! the moves of a parser before a letter is read; stacks with their top first; no stack grows above B -/
def LRD.mv (g : LRD) (B t : Nat) : List Nat → Option (List Nat)
  | [] => none
  | q :: S => match g.rd q t with
    | none => none
    | some r => if r = 10 then none else match (q :: S).drop (g.ln r) with
      | [] => none
      | q0 :: S0 => match g.tg q0 (6 + g.lf r) with
        | none => none
        | some q1 => if B < S0.length + 2 then none else some (q1 :: q0 :: S0)
def LRD.rn (g : LRD) (B t : Nat) : Nat → List Nat → Option (List Nat)
  | 0, S => some S
  | k + 1, S => (g.mv B t S).bind (g.rn B t k)
def LRD.rc (g : LRD) (B t k : Nat) (S S' : List Nat) : Prop := ∃ j, j ≤ k ∧ g.rn B t j S = some S'
theorem LRD.rn_add (g : LRD) (B t : Nat) : ∀ i j S, g.rn B t (i + j) S = (g.rn B t i S).bind (g.rn B t j)
  | 0, j, S => by rw [Nat.zero_add]; rfl
  | i + 1, j, S => by
    rw [show i + 1 + j = (i + j) + 1 by omega]
    show (g.mv B t S).bind (g.rn B t (i + j)) = ((g.mv B t S).bind (g.rn B t i)).bind (g.rn B t j)
    cases h : g.mv B t S with
    | none => rfl
    | some S' => exact rn_add g B t i j S'
theorem LRD.rc_refl (g : LRD) (B t k : Nat) (S : List Nat) : g.rc B t k S S := ⟨0, by omega, rfl⟩
theorem LRD.rc_trans {g : LRD} {B t k1 k2 : Nat} {S1 S2 S3 : List Nat} (h1 : g.rc B t k1 S1 S2) (h2 : g.rc B t k2 S2 S3) : g.rc B t (k1 + k2) S1 S3 := by
  obtain ⟨i, hi, e1⟩ := h1
  obtain ⟨j, hj, e2⟩ := h2
  exact ⟨i + j, by omega, by rw [g.rn_add, e1]; exact e2⟩
theorem LRD.rc_mono {g : LRD} {B t k k' : Nat} {S S' : List Nat} (h : g.rc B t k S S') (hk : k ≤ k') : g.rc B t k' S S' := by
  obtain ⟨i, hi, e⟩ := h
  exact ⟨i, by omega, e⟩
theorem LRD.mv_B {g : LRD} {B B' t : Nat} (hB : B ≤ B') {S S' : List Nat} (h : g.mv B t S = some S') : g.mv B' t S = some S' := by
  cases S with
  | nil => cases h
  | cons q S =>
    simp only [LRD.mv] at h ⊢
    cases hr : g.rd q t with
    | none => rw [hr] at h; cases h
    | some r =>
      rw [hr] at h
      simp only at h ⊢
      by_cases h10 : r = 10
      · rw [if_pos h10] at h; cases h
      · rw [if_neg h10] at h ⊢
        cases hd : (q :: S).drop (g.ln r) with
        | nil => rw [hd] at h; cases h
        | cons q0 S0 =>
          rw [hd] at h
          simp only at h ⊢
          cases ht : g.tg q0 (6 + g.lf r) with
          | none => rw [ht] at h; cases h
          | some q1 =>
            rw [ht] at h
            simp only at h ⊢
            by_cases hb : B < S0.length + 2
            · rw [if_pos hb] at h; cases h
            · rw [if_neg hb] at h
              rw [if_neg (by omega)]; exact h
theorem LRD.rn_B {g : LRD} {B B' t : Nat} (hB : B ≤ B') : ∀ k S S', g.rn B t k S = some S' → g.rn B' t k S = some S'
  | 0, S, S', h => h
  | k + 1, S, S', h => by
    show (g.mv B' t S).bind (g.rn B' t k) = some S'
    cases hm : g.mv B t S with
    | none =>
      have h' : (g.mv B t S).bind (g.rn B t k) = some S' := h
      rw [hm] at h'; cases h'
    | some S1 =>
      have h' : (g.mv B t S).bind (g.rn B t k) = some S' := h
      rw [hm] at h'
      rw [LRD.mv_B hB hm]
      exact rn_B hB k S1 S' h'
theorem LRD.rc_B {g : LRD} {B B' t k : Nat} (hB : B ≤ B') {S S' : List Nat} (h : g.rc B t k S S') : g.rc B' t k S S' := by
  obtain ⟨i, hi, e⟩ := h
  exact ⟨i, hi, LRD.rn_B hB i _ _ e⟩
/-- one reduction, when the item is there -/
theorem LRD.mv_of {g : LRD} {B t q r q0 q1 : Nat} {S S0 : List Nat} (hr : g.rd q t = some r) (h10 : r ≠ 10) (hd : (q :: S).drop (g.ln r) = q0 :: S0) (ht : g.tg q0 (6 + g.lf r) = some q1) (hB : S0.length + 2 ≤ B) : g.mv B t (q :: S) = some (q1 :: q0 :: S0) := by
  simp only [LRD.mv, hr, if_neg h10, hd, ht]
  rw [if_neg (by omega)]
theorem LRD.rc_1 {g : LRD} {B t : Nat} {S S' : List Nat} (h : g.mv B t S = some S') : g.rc B t 1 S S' := ⟨1, by omega, by show (g.mv B t S).bind (g.rn B t 0) = _; rw [h]; rfl⟩
/-- a stack as it comes about, with at most k symbols of which letters were read -/
def LRD.vf (g : LRD) : Nat → List Nat → Prop
  | _, [] => False
  | _, [q] => q = 0
  | k, q :: q' :: S => ∃ X, X < 12 ∧ g.tg q' X = some q ∧ ((g.eS X ∧ LRD.vf g k (q' :: S)) ∨ ((∃ b, b < 6 ∧ g.fS X b) ∧ 0 < k ∧ LRD.vf g (k - 1) (q' :: S)))
theorem LRD.vf_up {g : LRD} : ∀ (S : List Nat) k, g.vf k S → g.vf (k + 1) S
  | [], k, h => h
  | [q], k, h => h
  | q :: q' :: S, k, h => by
    obtain ⟨X, h1, h2, h3⟩ := h
    refine ⟨X, h1, h2, h3.imp (fun h4 => ⟨h4.1, vf_up (q' :: S) k h4.2⟩) (fun h4 => ⟨h4.1, by omega, ?_⟩)⟩
    have := vf_up (q' :: S) (k - 1) h4.2.2
    rwa [show k - 1 + 1 = k by omega] at this
theorem LRD.vf_le {g : LRD} {S : List Nat} {k k' : Nat} (h : g.vf k S) (hk : k ≤ k') : g.vf k' S := by
  induction k' with
  | zero => rw [show k = 0 by omega] at h; exact h
  | succ k' ih =>
    by_cases e : k = k' + 1
    · rw [← e]; exact h
    · exact LRD.vf_up S k' (ih (by omega))
theorem LRD.vf_m {g : LRD} (h : g.ok) : ∀ (S : List Nat) k q, g.vf k (q :: S) → q < g.m
  | [], k, q, hv => by have : q = 0 := hv; rw [this]; exact h.2.2.2.2.2.1.1
  | q' :: S, k, q, hv => by
    obtain ⟨X, h1, h2, h3⟩ := hv
    have hq' : q' < g.m := h3.elim (fun h4 => vf_m h S k q' h4.2) (fun h4 => vf_m h S (k - 1) q' h4.2.2)
    rcases h.2.2.2.2.1 q' X hq' h1 with ⟨h5, _⟩ | ⟨q2, h5, _, h6, _⟩
    · rw [h5] at h2; cases h2
    · rw [h5] at h2; cases h2; exact h6
/-- back along an item, down to where its rule was begun -/
theorem LRD.bt {g : LRD} (h : g.ok) : ∀ p k (S : List Nat) q r u, g.vf k (q :: S) → g.I q r p u → ∃ q0 T0 k0, (q :: S).drop p = q0 :: T0 ∧ T0.length + p = S.length ∧ g.vf k0 (q0 :: T0) ∧ g.I q0 r 0 u ∧
    ((k0 = k ∧ ∀ i, i < p → g.eS (g.sy r i)) ∨ (k0 + 1 ≤ k ∧ ∃ i b, i < p ∧ b < 6 ∧ g.fS (g.sy r i) b ∧ ∀ j, j < i → g.eS (g.sy r j)))
  | 0, k, S, q, r, u, hv, hi => ⟨q, S, k, rfl, rfl, hv, hi, Or.inl ⟨rfl, fun i h => absurd h (by omega)⟩⟩
  | p + 1, k, [], q, r, u, hv, hi => by
    have : q = 0 := hv
    rw [this] at hi
    exact absurd hi (h.2.2.2.2.2.1.2.2 r p u)
  | p + 1, k, q' :: S, q, r, u, hv, hi => by
    obtain ⟨X, h1, h2, h3⟩ := hv
    obtain ⟨k', hv', hk'⟩ : ∃ k', g.vf k' (q' :: S) ∧ ((k' = k ∧ g.eS X) ∨ (k' + 1 = k ∧ ∃ b, b < 6 ∧ g.fS X b)) := by
      rcases h3 with h4 | h4
      · exact ⟨k, h4.2, Or.inl ⟨rfl, h4.1⟩⟩
      · exact ⟨k - 1, h4.2.2, Or.inr ⟨by omega, h4.1⟩⟩
    have hq' := LRD.vf_m h _ _ _ hv'
    rcases h.2.2.2.2.1 q' X hq' h1 with ⟨h5, _⟩ | ⟨q2, h5, _, h6, _, h7⟩
    · rw [h5] at h2; cases h2
    · rw [h5] at h2
      cases h2
      obtain ⟨h8, h9, h10⟩ := (h7 r p u).mp hi
      obtain ⟨q0, T0, k0, e1, e2, e3, e4, e5⟩ := bt h p k' S q' r u hv' h8
      refine ⟨q0, T0, k0, e1, by simp only [List.length_cons]; omega, e3, e4, ?_⟩
      rcases e5 with ⟨e5, e6⟩ | ⟨e5, i, b, e6, e7, e8, e9⟩
      · rcases hk' with ⟨hk', hX⟩ | ⟨hk', b, hb, hX⟩
        · refine Or.inl ⟨by omega, fun i hi => ?_⟩
          by_cases e : i = p
          · rw [e, h10]; exact hX
          · exact e6 i (by omega)
        · exact Or.inr ⟨by omega, p, b, by omega, hb, by rw [h10]; exact hX, e6⟩
      · exact Or.inr ⟨by omega, i, b, by omega, e7, e8, e9⟩
/-- the symbol behind the place of an item leads on -/
theorem LRD.go {g : LRD} (h : g.ok) {q r p u : Nat} (hq : q < g.m) (hi : g.I q r p u) (hp : p < g.ln r) (hs : g.sy r p < 12) : ∃ q', g.tg q (g.sy r p) = some q' ∧ g.I q' r (p + 1) u ∧ q' < g.m := by
  rcases h.2.2.2.2.1 q (g.sy r p) hq hs with ⟨_, h6⟩ | ⟨q', h5, _, h6, _, h7⟩
  · exact absurd rfl (h6 r p u hi hp)
  · exact ⟨q', h5, (h7 r p u).mpr ⟨hi, hp, rfl⟩, h6⟩
theorem LRD.sy12 {g : LRD} (h : g.ok) {q r p u : Nat} (hq : q < g.m) (hi : g.I q r p u) (hp : p < g.ln r) : g.sy r p < 12 := by
  obtain ⟨h1, h2, -, -⟩ := h.2.1 q r p u hq hi
  by_cases e : r = 10
  · subst e
    have := h.1.2.1.2.1
    rw [show p = 0 by omega]; exact h.1.2.1.2.2.2
  · exact (h.1.1 r h1 (by omega)).2.2 p hp
/-- a reduction, with what is below -/
theorem LRD.red {g : LRD} (h : g.ok) {k q r t : Nat} {S : List Nat} (hv : g.vf k (q :: S)) (ht : t ≤ 6) (hi : g.I q r (g.ln r) t) (h10 : r ≠ 10) : ∃ q0 T0 q1, (q :: S).drop (g.ln r) = q0 :: T0 ∧ T0.length + g.ln r = S.length ∧ g.I q0 r 0 t ∧ g.tg q0 (6 + g.lf r) = some q1 ∧ (∀ B, T0.length + 2 ≤ B → g.mv B t (q :: S) = some (q1 :: q0 :: T0)) ∧ g.vf k (q1 :: q0 :: T0) ∧ (∃ k0, k0 ≤ k ∧ g.vf k0 (q0 :: T0)) := by
  have hq := LRD.vf_m h _ _ _ hv
  have hu := h.2.1 q r _ t hq hi
  have hr : r < 10 := by omega
  have hl := h.1.1 r hu.1 hr
  obtain ⟨q0, T0, k0, e1, e2, e3, e4, e5⟩ := LRD.bt h (g.ln r) k S q r t hv hi
  have hq0 := LRD.vf_m h _ _ _ e3
  -- some item in q0 has the name before it
  have hgo : ∃ q1, g.tg q0 (6 + g.lf r) = some q1 := by
    rcases h.2.2.2.2.1 q0 (6 + g.lf r) hq0 (by omega) with ⟨_, h6⟩ | ⟨q', h5, _⟩
    · exfalso
      have := h.2.2.2.1 q0 hq0 (fun r u => r = 10 ∨ False) (fun _ => Or.inl rfl) (fun r' p' u' r2 u2 a1 a2 a3 a4 a5 a6 a7 => by
        by_cases e : r2 = r
        · rw [e] at a4; exact absurd a4 (h6 r' p' u' a1 a2)
        · exact Or.inr (by
            have hP : ∀ r u, g.I q0 r 0 u → (r = 10 ∨ ∃ r' p' u', g.I q0 r' p' u' ∧ p' < g.ln r' ∧ g.sy r' p' = 6 + g.lf r) := fun r u hh => h.2.2.2.1 q0 hq0 (fun r u => r = 10 ∨ ∃ r' p' u', g.I q0 r' p' u' ∧ p' < g.ln r' ∧ g.sy r' p' = 6 + g.lf r) (fun _ => Or.inl rfl) (fun r' p' u' r u b1 b2 b3 b4 b5 b6 b7 => Or.inr ⟨r', p', u', b1, b2, b4⟩) r u hh
            rcases hP r t e4 with hh | ⟨r', p', u', b1, b2, b3⟩
            · exact h10 hh
            · exact h6 r' p' u' b1 b2 b3)) r t e4
      rcases this with hh | hh
      · exact h10 hh
      · exact hh
    · exact ⟨q', h5⟩
  obtain ⟨q1, hq1⟩ := hgo
  refine ⟨q0, T0, q1, e1, e2, e4, hq1, fun B hB => LRD.mv_of ((h.2.2.2.2.2.2.1 q t r hq ht).mpr hi) h10 e1 hq1 hB, ?_, k0, ?_, e3⟩
  · refine ⟨6 + g.lf r, by omega, hq1, ?_⟩
    rcases e5 with ⟨e5, e6⟩ | ⟨e5, i, b, e6, e7, e8, e9⟩
    · left
      subst e5
      exact ⟨⟨by omega, by rw [show 6 + g.lf r - 6 = g.lf r by omega]; exact h.1.2.2.1 r hu.1 hr (fun i _ hi => e6 i hi)⟩, e3⟩
    · right
      refine ⟨⟨b, e7, Or.inr ⟨by omega, ?_⟩⟩, by omega, LRD.vf_le e3 (by omega)⟩
      rw [show 6 + g.lf r - 6 = g.lf r by omega]
      exact h.1.2.2.2.2.1 b r e7 hu.1 hr ⟨i, by omega, e6, fun j _ hj => e9 j hj, e8⟩
  · rcases e5 with ⟨e5, _⟩ | ⟨e5, _⟩ <;> omega
/-- how many moves an empty name of rank k takes at most -/
def stp : Nat → Nat
  | 0 => 0
  | k + 1 => 4 * stp k + 1
