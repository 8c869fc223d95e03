/-! reading letters: the stack behind a row of letters -/
def LRD.fd (g : LRD) (t : Nat) (S S' : List Nat) : Prop := ∃ K q' S1 q2, K ≤ 520000 ∧ g.rn 399 t K S = some (q' :: S1) ∧ g.tg q' t = some q2 ∧ S' = q2 :: q' :: S1
/-- the top state has a move -/
def LRD.cm (g : LRD) (t : Nat) : List Nat → Prop
  | [] => False
  | q :: _ => (∃ r, g.rd q t = some r) ∨ (t < 6 ∧ ∃ q2, g.tg q t = some q2)
def LRD.st (g : LRD) (n : Nat) : List Nat → Prop
  | [] => False
  | q :: S => g.vf n (q :: S) ∧ S.length ≤ 18 * n + 1 ∧ ∀ r p u, g.I q r (p + 1) u → g.sy r p < 6
theorem LRD.st_0 {g : LRD} (h : g.ok) : g.st 0 [0] := ⟨rfl, by simp, fun r p u hi => absurd hi (h.2.2.2.2.2.1.2.2 r p u)⟩
theorem LRD.fd_st {g : LRD} (h : g.ok) {n t : Nat} {S S' : List Nat} (ht : t < 6) (hs : g.st n S) (hf : g.fd t S S') : g.st (n + 1) S' := by
  cases S with
  | nil => exact hs.elim
  | cons q S =>
    obtain ⟨K, q', S1, q2, -, h1, h2, rfl⟩ := hf
    have hv := LRD.rc_vf h (show t ≤ 6 by omega) K _ _ hs.1 h1
    have hh := LRD.hgt h hv ht h2
    refine ⟨⟨t, by omega, h2, Or.inr ⟨⟨t, ht, Or.inl ⟨rfl, ht⟩⟩, by omega, by rw [Nat.add_sub_cancel]; exact hv⟩⟩, by simp only [List.length_cons]; omega, fun r p u hi => ?_⟩
    rcases h.2.2.2.2.1 q' t (LRD.vf_m h _ _ _ hv) (by omega) with ⟨h5, _⟩ | ⟨q3, h5, _, h6, _, h7⟩
    · rw [h5] at h2; cases h2
    · rw [h5] at h2; cases h2
      rw [((h7 r p u).mp hi).2.2]; exact ht
theorem LRD.no10 {g : LRD} (h : g.ok) {n q t : Nat} {S : List Nat} (ht : t < 6) (hv : g.vf n (q :: S)) : g.rd q t ≠ some 10 := by
  intro hr
  have hq := LRD.vf_m h _ _ _ hv
  have hi := (h.2.2.2.2.2.2.1 q t 10 hq (by omega)).mp hr
  obtain ⟨q0, T0, k0, -, -, b3, b4, -⟩ := LRD.bt h _ n S q 10 t hv hi
  have := LRD.root6 h (LRD.vf_m h _ _ _ b3) b4
  omega
theorem LRD.step {g : LRD} (h : g.ok) {n t : Nat} {S : List Nat} (ht : t < 6) (hn : n ≤ 19) (hs : g.st n S) (hc : g.cm t S) : ∃ S', g.fd t S S' := by
  cases S with
  | nil => exact hs.elim
  | cons q S =>
    rcases hc with ⟨r, hr⟩ | ⟨-, q2, h2⟩
    · have h10 : r ≠ 10 := fun e => LRD.no10 h ht hs.1 (e ▸ hr)
      obtain ⟨K, q', S', h1, h2, h3, h4⟩ := LRD.moves h hs.1 hs.2.2 hn (by omega) hr h10 (by have := hs.2.1; omega)
      rcases h3 with ⟨-, q2, h3⟩ | ⟨h3, -⟩
      · exact ⟨q2 :: q' :: S', K, q', S', q2, h1, h2, h3, rfl⟩
      · omega
    · exact ⟨q2 :: q :: S, 0, q, S, q2, by omega, rfl, h2, rfl⟩
theorem LRD.endd {g : LRD} (h : g.ok) {n q r : Nat} {S : List Nat} (hn : n ≤ 19) (hs : g.st n (q :: S)) (hr : g.rd q 6 = some r) : ∃ K q' S', K ≤ 520000 ∧ g.rn 399 6 K (q :: S) = some (q' :: S') ∧ g.rd q' 6 = some 10 ∧ g.vf n (q' :: S') := by
  by_cases e : r = 10
  · exact ⟨0, q, S, by omega, rfl, e ▸ hr, hs.1⟩
  · obtain ⟨K, q', S', h1, h2, h3, h4⟩ := LRD.moves h hs.1 hs.2.2 hn (by omega) hr e (by have := hs.2.1; omega)
    rcases h3 with ⟨h3, -⟩ | ⟨-, h3⟩
    · omega
    · exact ⟨K, q', S', h1, h2, h3, h4⟩
def LRD.rdS (g : LRD) (w : Nat → Nat) : Nat → List Nat → Prop
  | 0, S => S = [0]
  | n + 1, S => ∃ S0, LRD.rdS g w n S0 ∧ g.fd (w n) S0 S
theorem LRD.rdS_st {g : LRD} (h : g.ok) {w : Nat → Nat} : ∀ n S, (∀ i, i < n → w i < 6) → g.rdS w n S → g.st n S
  | 0, S, _, hr => by have : S = [0] := hr; rw [this]; exact LRD.st_0 h
  | n + 1, S, hw, hr => by
    obtain ⟨S0, h1, h2⟩ := hr
    exact LRD.fd_st h (hw n (by omega)) (rdS_st h n S0 (fun i hi => hw i (by omega)) h1) h2
theorem LRD.fd_det {g : LRD} (h : g.ok) {n t : Nat} {S S1 S2 : List Nat} (ht : t < 6) (hs : g.st n S) (h1 : g.fd t S S1) (h2 : g.fd t S S2) : S1 = S2 := by
  cases S with
  | nil => exact hs.elim
  | cons q S =>
    obtain ⟨K, q', E, q2, -, a1, a2, rfl⟩ := h1
    obtain ⟨K', q'', E', q2', -, b1, b2, rfl⟩ := h2
    have ht6 : t ≤ 6 := by omega
    have m1 := LRD.at_mv (B := 399) (S := E) h (LRD.vf_m h _ _ _ (LRD.rc_vf h ht6 K _ _ hs.1 a1)) (Or.inl ⟨ht, q2, a2⟩)
    have m2 := LRD.at_mv (B := 399) (S := E') h (LRD.vf_m h _ _ _ (LRD.rc_vf h ht6 K' _ _ hs.1 b1)) (Or.inl ⟨ht, q2', b2⟩)
    obtain ⟨c1, -⟩ := LRD.rn_end a1 b1 m2
    obtain ⟨d1, -⟩ := LRD.rn_end b1 a1 m1
    have : K = K' := by omega
    subst this
    rw [a1] at b1
    cases b1
    rw [a2] at b2
    cases b2
    rfl
theorem LRD.rdS_det {g : LRD} (h : g.ok) {w : Nat → Nat} : ∀ n S S', (∀ i, i < n → w i < 6) → g.rdS w n S → g.rdS w n S' → S = S'
  | 0, S, S', _, h1, h2 => by have a : S = [0] := h1; have b : S' = [0] := h2; rw [a, b]
  | n + 1, S, S', hw, h1, h2 => by
    obtain ⟨S0, a1, a2⟩ := h1
    obtain ⟨S0', b1, b2⟩ := h2
    have := rdS_det h n S0 S0' (fun i hi => hw i (by omega)) a1 b1
    subst this
    exact LRD.fd_det h (hw n (by omega)) (LRD.rdS_st h n S0 (fun i hi => hw i (by omega)) a1) a2 b2
theorem LRD.rdS_cong {g : LRD} {w w' : Nat → Nat} : ∀ n S, (∀ i, i < n → w i = w' i) → g.rdS w n S → g.rdS w' n S
  | 0, S, _, h1 => h1
  | n + 1, S, hw, h1 => by
    obtain ⟨S0, a1, a2⟩ := h1
    exact ⟨S0, rdS_cong n S0 (fun i hi => hw i (by omega)) a1, by rw [← hw n (by omega)]; exact a2⟩
theorem LRD.cm_fd {g : LRD} {t : Nat} {S S' : List Nat} (ht : t < 6) (h : g.fd t S S') : g.cm t S := by
  obtain ⟨K, q', E, q2, -, a1, a2, rfl⟩ := h
  cases S with
  | nil =>
    cases K with
    | zero => cases a1
    | succ K => cases a1
  | cons q S =>
    cases K with
    | zero => cases a1; exact Or.inr ⟨ht, q2, a2⟩
    | succ K =>
      left
      cases hr : g.rd q t with
      | some r => exact ⟨r, rfl⟩
      | none =>
        have a1' : (g.mv 399 t (q :: S)).bind (g.rn 399 t K) = some (q' :: E) := a1
        simp only [LRD.mv, hr] at a1'
        cases a1'
/-- a row of letters is read to its end, or up to a first letter that goes wrong -/
theorem LRD.split {g : LRD} (h : g.ok) {w : Nat → Nat} : ∀ n, n ≤ 20 → (∀ i, i < n → w i < 6) → (∃ S, g.rdS w n S) ∨ ∃ k S, k < n ∧ g.rdS w k S ∧ ¬ g.cm (w k) S
  | 0, _, _ => Or.inl ⟨[0], rfl⟩
  | n + 1, hn, hw => by
    rcases split h n (by omega) (fun i hi => hw i (by omega)) with ⟨S, hS⟩ | ⟨k, S, h1, h2, h3⟩
    · by_cases hc : g.cm (w n) S
      · obtain ⟨S', h2⟩ := LRD.step h (hw n (by omega)) (by omega) (LRD.rdS_st h n S (fun i hi => hw i (by omega)) hS) hc
        exact Or.inl ⟨S', S, hS, h2⟩
      · exact Or.inr ⟨n, S, by omega, hS, hc⟩
    · exact Or.inr ⟨k, S, by omega, h2, h3⟩
theorem LRD.rdS_pre {g : LRD} {w : Nat → Nat} : ∀ n k S, k ≤ n → g.rdS w n S → ∃ S', g.rdS w k S'
  | 0, k, S, hk, h => ⟨S, by rw [show k = 0 by omega]; exact h⟩
  | n + 1, k, S, hk, h => by
    by_cases e : k = n + 1
    · exact ⟨S, by rw [e]; exact h⟩
    · obtain ⟨S0, h1, -⟩ := h
      exact rdS_pre n k S0 (by omega) h1
