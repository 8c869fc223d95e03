/-! how high the stacks grow, how many moves there are between two letters -/
theorem LRD.rn_end {g : LRD} {B t i j : Nat} {S S1 E : List Nat} (h1 : g.rn B t i S = some S1) (h2 : g.rn B t j S = some E) (h3 : g.mv B t E = none) : i ≤ j ∧ g.rn B t (j - i) S1 = some E := by
  by_cases hij : i ≤ j
  · refine ⟨hij, ?_⟩
    have := g.rn_add B t i (j - i) S
    rw [show i + (j - i) = j by omega, h2, h1] at this
    exact this.symm
  · exfalso
    have := g.rn_add B t j (i - j - 1 + 1) S
    rw [show j + (i - j - 1 + 1) = i by omega, h1, h2] at this
    have h4 : g.rn B t (i - j - 1 + 1) E = none := by show (g.mv B t E).bind _ = none; rw [h3]; rfl
    have h5 : some S1 = g.rn B t (i - j - 1 + 1) E := this
    rw [h4] at h5; cases h5
theorem LRD.no_loop {g : LRD} {B t i : Nat} {C E : List Nat} (hi : 0 < i) (h1 : g.rn B t i C = some C) (h3 : g.mv B t E = none) : ∀ K, g.rn B t K C ≠ some E := by
  intro K
  induction K using Nat.strongRecOn with
  | _ K ih =>
    intro h2
    obtain ⟨a, b⟩ := LRD.rn_end h1 h2 h3
    exact ih (K - i) (by omega) b
theorem LRD.at_mv {g : LRD} (h : g.ok) {B t q : Nat} {S : List Nat} (hq : q < g.m) (ha : g.at_ t q) : g.mv B t (q :: S) = none := by
  simp only [LRD.mv]
  rcases ha with ⟨ht, q2, h1⟩ | ⟨rfl, h1⟩
  · cases hr : g.rd q t with
    | none => rfl
    | some r =>
      have := h.2.2.2.2.2.2.2 q t r hq ht ((h.2.2.2.2.2.2.1 q t r hq (by omega)).mp hr)
      rw [this] at h1; cases h1
  · rw [h1]; simp
theorem LRD.rc_vf {g : LRD} (h : g.ok) {t : Nat} (ht : t ≤ 6) {B k : Nat} : ∀ j S S', g.vf k S → g.rn B t j S = some S' → g.vf k S'
  | 0, S, S', hv, e => by cases e; exact hv
  | j + 1, S, S', hv, e => by
    have e' : (g.mv B t S).bind (g.rn B t j) = some S' := e
    cases S with
    | nil => exact hv.elim
    | cons q S =>
      cases hm : g.mv B t (q :: S) with
      | none => rw [hm] at e'; cases e'
      | some S1 =>
        rw [hm] at e'
        refine rc_vf h ht j S1 S' ?_ e'
        cases hr : g.rd q t with
        | none => simp only [LRD.mv, hr] at hm; cases hm
        | some r =>
          by_cases h10 : r = 10
          · simp only [LRD.mv, hr, if_pos h10] at hm; cases hm
          · obtain ⟨q0, T0, q1, d1, d2, d3, d4, d5, d6, -⟩ := LRD.red h hv ht ((h.2.2.2.2.2.2.1 q t r (LRD.vf_m h _ _ _ hv) ht).mp hr) h10
            have := LRD.mv_B (Nat.le_max_left B (T0.length + 2)) hm
            rw [d5 _ (Nat.le_max_right B (T0.length + 2))] at this
            cases this
            exact d6
/-- a name that may be begun at a stack -/
def LRD.op (g : LRD) (Z : Nat) : List Nat → Prop
  | [] => False
  | q :: _ => ∃ r p u, g.I q r p u ∧ p < g.ln r ∧ g.sy r p = 6 + Z
theorem LRD.par {g : LRD} (h : g.ok) {q r u : Nat} (hq : q < g.m) (hi : g.I q r 0 u) (hr : r < 10) : ∃ r' p' u', g.I q r' p' u' ∧ p' < g.ln r' ∧ g.sy r' p' = 6 + g.lf r ∧ g.fst r' (p' + 1) u' u := by
  have := h.2.2.2.1 q hq (fun r u => r = 10 ∨ ∃ r' p' u', g.I q r' p' u' ∧ p' < g.ln r' ∧ g.sy r' p' = 6 + g.lf r ∧ g.fst r' (p' + 1) u' u) (fun _ => Or.inl rfl) (fun r' p' u' r u b1 b2 b3 b4 b5 b6 b7 => Or.inr ⟨r', p', u', b1, b2, b4, b7⟩) r u hi
  exact this.resolve_left (by omega)
theorem LRD.uq {g : LRD} (h : g.ok) {Z b B k c c' : Nat} (hb : b < 6) (hf : g.fi Z b) {T V : List Nat} (hv : g.vf c T) (hv' : g.vf c' V) (h1 : g.op Z T) (h2 : g.op Z V) (hr : g.rc B b k T V) : T.length = V.length := by
  obtain ⟨L, hL, H⟩ := LRD.l2 h hb 6 Z (LRD.fi_6 h.1 hb hf)
  cases T with
  | nil => exact h1.elim
  | cons q T =>
    cases V with
    | nil => exact h2.elim
    | cons q' V =>
      obtain ⟨r1, p1, u1, a1, a2, a3⟩ := h1
      obtain ⟨r2, p2, u2, b1, b2, b3⟩ := h2
      obtain ⟨B', hB'⟩ : ∃ B', B' = B + T.length + V.length + 100 := ⟨_, rfl⟩
      obtain ⟨e1, E1, c1, c2, c3, c4⟩ := H c q T r1 p1 u1 B' hv a1 a2 a3 (by omega)
      obtain ⟨e2, E2, d1, d2, d3, d4⟩ := H c' q' V r2 p2 u2 B' hv' b1 b2 b3 (by omega)
      obtain ⟨i, -, hi⟩ := LRD.rc_B (show B ≤ B' by omega) hr
      obtain ⟨j1, -, hj1⟩ := c1
      obtain ⟨j2, -, hj2⟩ := d1
      have m1 := LRD.at_mv (B := B') (S := E1) h (LRD.vf_m h _ _ _ c4) (Or.inl ⟨hb, c3⟩)
      have m2 := LRD.at_mv (B := B') (S := E2) h (LRD.vf_m h _ _ _ d4) (Or.inl ⟨hb, d3⟩)
      obtain ⟨-, k1⟩ := LRD.rn_end hi hj1 m1
      obtain ⟨-, k2⟩ := LRD.rn_end k1 hj2 m2
      have k3 : (j2 - (j1 - i)) = 0 := by
        cases hz : (j2 - (j1 - i)) with
        | zero => rfl
        | succ n =>
          rw [hz] at k2
          have k2' : (g.mv B' b (e1 :: E1)).bind (g.rn B' b n) = some (e2 :: E2) := k2
          rw [m1] at k2'; cases k2'
      rw [k3] at k2
      cases k2
      simp only [List.length_cons]
      omega
/-- the same symbols on the same stack are the same states -/
theorem LRD.uniq {g : LRD} (h : g.ok) : ∀ p k k' q (S : List Nat) q' (S' : List Nat) r u u', g.vf k (q :: S) → g.vf k' (q' :: S') → g.I q r p u → g.I q' r p u' → (q :: S).drop p = (q' :: S').drop p → (q :: S).length = (q' :: S').length → q :: S = q' :: S'
  | 0, k, k', q, S, q', S', r, u, u', _, _, _, _, e, _ => e
  | p + 1, k, k', q, [], q', S', r, u, u', hv, _, hi, _, _, _ => by
    have : q = 0 := hv
    rw [this] at hi
    exact absurd hi (h.2.2.2.2.2.1.2.2 r p u)
  | p + 1, k, k', q, q1 :: S, q', [], r, u, u', _, hv', _, hi', _, _ => by
    have : q' = 0 := hv'
    rw [this] at hi'
    exact absurd hi' (h.2.2.2.2.2.1.2.2 r p u')
  | p + 1, k, k', q, q1 :: S, q', q1' :: S', r, u, u', hv, hv', hi, hi', e, el => by
    obtain ⟨X, h1, h2, h3⟩ := hv
    obtain ⟨X', h1', h2', h3'⟩ := hv'
    obtain ⟨c, hc⟩ : ∃ c, g.vf c (q1 :: S) := h3.elim (fun z => ⟨_, z.2⟩) (fun z => ⟨_, z.2.2⟩)
    obtain ⟨c', hc'⟩ : ∃ c, g.vf c (q1' :: S') := h3'.elim (fun z => ⟨_, z.2⟩) (fun z => ⟨_, z.2.2⟩)
    rcases h.2.2.2.2.1 q1 X (LRD.vf_m h _ _ _ hc) h1 with ⟨h5, _⟩ | ⟨q2, h5, _, h6, _, h7⟩
    · rw [h5] at h2; cases h2
    rcases h.2.2.2.2.1 q1' X' (LRD.vf_m h _ _ _ hc') h1' with ⟨h5', _⟩ | ⟨q2', h5', _, h6', _, h7'⟩
    · rw [h5'] at h2'; cases h2'
    have i1 : g.I q2 r (p + 1) u := by rw [h5] at h2; cases h2; exact hi
    have i2 : g.I q2' r (p + 1) u' := by rw [h5'] at h2'; cases h2'; exact hi'
    obtain ⟨k1, k2, k3⟩ := (h7 r p u).mp i1
    obtain ⟨k1', k2', k3'⟩ := (h7' r p u').mp i2
    have := uniq h p c c' q1 S q1' S' r u u' hc hc' k1 k1' e (by simp only [List.length_cons] at el ⊢; omega)
    cases this
    have : X = X' := by rw [← k3, ← k3']
    subst this
    rw [h2] at h2'
    cases h2'
    rfl
/-- down a rule whose symbols so far are empty: the stack comes about before b too -/
theorem LRD.reach {g : LRD} (h : g.ok) {k p q q0 r u b : Nat} {S T0 : List Nat} (hb : b < 6) (hv : g.vf k (q :: S)) (hi : g.I q r p u) (hp : p < g.ln r) (hd : (q :: S).drop p = q0 :: T0) (hl : T0.length + p = S.length) (hv0 : g.vf k (q0 :: T0)) (hi0 : g.I q0 r 0 u) (he : ∀ i, i < p → g.eS (g.sy r i)) (hf : g.fS (g.sy r p) b) :
    ∃ B j, g.rc B b j (q0 :: T0) (q :: S) := by
  obtain ⟨q', S', c1, c2, c3, c4, c5⟩ := LRD.l1s h (LRD.l1 h 6) p 0 k q0 T0 r u b (T0.length + p + 18) hv0 hi0 (by omega) (fun i _ h2 => ⟨(he i (by omega)).1, LRD.em_6 h.1 (he i (by omega)).2, Or.inl ⟨hb, p, by omega, hp, fun j _ hj => he j hj, hf⟩⟩) (by omega) (fun _ => by omega)
  rw [Nat.zero_add] at c4
  have := LRD.uniq h p k k q' S' q S r u u c5 hv c4 hi (by rw [c3, hd]) (by simp only [List.length_cons]; omega)
  rw [this] at c1
  exact ⟨_, _, c1⟩
def LRD.up (g : LRD) (T : List Nat) (b : Nat) (U : List Nat) : Prop := U.Nodup ∧ ∀ V ∈ U, V < 6 ∧ g.fi V b ∧ ∃ SV c, g.vf c SV ∧ g.op V SV ∧ T.length < SV.length ∧ ∃ B k, g.rc B b k T SV
theorem LRD.rc_trB {g : LRD} {B1 B2 b k1 k2 : Nat} {S1 S2 S3 : List Nat} (h1 : g.rc B1 b k1 S1 S2) (h2 : g.rc B2 b k2 S2 S3) : ∃ B k, g.rc B b k S1 S3 := ⟨max B1 B2, _, LRD.rc_trans (LRD.rc_B (Nat.le_max_left _ _) h1) (LRD.rc_B (Nat.le_max_right _ _) h2)⟩
theorem LRD.vf_0 {g : LRD} (h : g.ok) {k q : Nat} {T : List Nat} (hv : g.vf k (q :: T)) (hq : q = 0) : T = [] := by
  cases T with
  | nil => rfl
  | cons q' T =>
    exfalso
    obtain ⟨X, h1, h2, h3⟩ := hv
    obtain ⟨c, hc⟩ : ∃ c, g.vf c (q' :: T) := h3.elim (fun z => ⟨_, z.2⟩) (fun z => ⟨_, z.2.2⟩)
    rcases h.2.2.2.2.1 q' X (LRD.vf_m h _ _ _ hc) h1 with ⟨h5, _⟩ | ⟨q2, h5, h6, _⟩
    · rw [h5] at h2; cases h2
    · rw [h5] at h2; cases h2; omega
theorem LRD.la_of {g : LRD} {r p b Z : Nat} (hp : p < g.ln r) (hs : g.sy r p = 6 + Z) (hf : g.fi Z b) (he : ∀ i, i < p → g.eS (g.sy r i)) : g.la r 0 b :=
  ⟨p, by omega, hp, fun i _ hi => he i hi, Or.inr ⟨by omega, by rw [hs, show 6 + Z - 6 = Z by omega]; exact hf⟩⟩
/-- a rule is begun no higher than so -/
theorem LRD.hb {g : LRD} (h : g.ok) : ∀ n k q (T : List Nat) r u b U, T.length ≤ n → g.vf k (q :: T) → g.I q r 0 u → r < 10 → b < 6 → g.la r 0 b → g.up (q :: T) b U → g.lf r ∉ U ∧ T.length ≤ 18 * k + 3 * (5 - U.length) := by
  intro n
  induction n using Nat.strongRecOn with
  | _ n ih =>
    intro k q T r u b U hn hv hi hr hb hla hU
    have hq := LRD.vf_m h _ _ _ hv
    have notin : ∀ r u, g.I q r 0 u → r < 10 → g.la r 0 b → g.lf r ∉ U := by
      intro r u hi hr hla hm
      obtain ⟨r', p', u', a1, a2, a3, -⟩ := LRD.par h hq hi hr
      obtain ⟨-, hf, SV, c, b1, b2, b3, B, j, b4⟩ := hU.2 _ hm
      have := LRD.uq h hb hf hv b1 ⟨r', p', u', a1, a2, a3⟩ b2 b4
      omega
    refine ⟨notin r u hi hr hla, ?_⟩
    have key := h.2.2.2.1 q hq (fun r u => g.I q r 0 u → r < 10 → g.la r 0 b → T.length ≤ 18 * k + 3 * (5 - U.length)) (fun _ _ h10 => absurd h10 (by omega)) (by
      intro r' p' u' r u a1 a2 a3 a4 a5 a6 a7 hir _ hlar
      have hur := h.2.1 q r' p' u' hq a1
      have hfi : g.fi (g.lf r) b := h.1.2.2.2.2.1 b r hb a5 a6 hlar
      by_cases e : p' = 0
      · subst e
        by_cases e10 : r' = 10
        · subst e10
          have hq0 : q = 0 := h.2.2.2.1 q hq (fun r _ => r = 10 → q = 0) (fun hh _ => hh) (fun r' p' u' r u _ _ _ _ _ b6 _ e => absurd e (by omega)) 10 u' a1 rfl
          rw [LRD.vf_0 h hv hq0]; simp
        · exact a3 rfl a1 (by omega) (LRD.la_of a2 a4 hfi (fun i hi => absurd hi (by omega)))
      · have e10 : r' ≠ 10 := fun e10 => by
          rw [e10, h.1.2.1.2.1] at a2; omega
        have hr' : r' < 10 := by omega
        have hl4 := (h.1.1 r' hur.1 hr').2.1
        obtain ⟨q0, T0, k0, b1, b2, b3, b4, b5⟩ := LRD.bt h p' k T q r' u' hv a1
        rcases b5 with ⟨b5, b6⟩ | ⟨b5, i, b0, b6, b7, b8, b9⟩
        · subst b5
          have hni := notin r u hir a6 hlar
          obtain ⟨B, j, hre⟩ := LRD.reach h hb hv a1 a2 b1 b2 b3 b4 b6 (show g.fS (g.sy r' p') b from Or.inr ⟨by omega, by rw [a4, show 6 + g.lf r - 6 = g.lf r by omega]; exact hfi⟩)
          have hU' : g.up (q0 :: T0) b (g.lf r :: U) := by
            refine ⟨List.nodup_cons.mpr ⟨hni, hU.1⟩, fun V hV => ?_⟩
            rcases List.mem_cons.mp hV with rfl | hV
            · exact ⟨(h.1.1 r a5 a6).1, hfi, q :: T, k0, hv, ⟨r', p', u', a1, a2, a4⟩, by simp only [List.length_cons]; omega, B, j, hre⟩
            · obtain ⟨c1, c2, SV, c, c3, c4, c5, B2, j2, c6⟩ := hU.2 V hV
              exact ⟨c1, c2, SV, c, c3, c4, by simp only [List.length_cons] at c5 ⊢; omega, LRD.rc_trB hre c6⟩
          obtain ⟨d1, d2⟩ := ih (n - p') (by omega) k0 q0 T0 r' u' b (g.lf r :: U) (by omega) b3 b4 hr' hb (LRD.la_of a2 a4 hfi b6) hU'
          have hlen := nodup_lt 6 (g.lf r' :: g.lf r :: U) (List.nodup_cons.mpr ⟨d1, hU'.1⟩) (fun x hx => by
            rcases List.mem_cons.mp hx with rfl | hx
            · exact (h.1.1 r' hur.1 hr').1
            · exact (hU'.2 x hx).1)
          simp only [List.length_cons] at hlen d2
          omega
        · obtain ⟨d1, d2⟩ := ih (n - p') (by omega) k0 q0 T0 r' u' b0 [] (by omega) b3 b4 hr' b7 ⟨i, by omega, by omega, fun j _ hj => b9 j hj, b8⟩ ⟨List.nodup_nil, fun V hV => by cases hV⟩
          simp only [List.length_nil] at d2
          omega)
    exact key r u hi hi hr hla
/-- where a letter can be read, the stack is no higher than so -/
theorem LRD.hgt {g : LRD} (h : g.ok) {k q t q2 : Nat} {S : List Nat} (hv : g.vf k (q :: S)) (ht : t < 6) (hs : g.tg q t = some q2) : S.length ≤ 18 * k + 18 := by
  have hq := LRD.vf_m h _ _ _ hv
  rcases h.2.2.2.2.1 q t hq (by omega) with ⟨h5, _⟩ | ⟨q3, h5, _, h6, ⟨r, p, u, a1, a2, a3⟩, _⟩
  · rw [h5] at hs; cases hs
  · have hu := h.2.1 q r p u hq a1
    have hr : r < 10 := by
      apply Classical.byContradiction
      intro hr
      have e : r = 10 := by omega
      subst e
      have h1 := h.1.2.1
      rw [show p = 0 by omega] at a3
      omega
    have hl4 := (h.1.1 r hu.1 hr).2.1
    obtain ⟨q0, T0, k0, b1, b2, b3, b4, b5⟩ := LRD.bt h p k S q r u hv a1
    have nil : ∀ T b, g.up T b [] := fun T b => ⟨List.nodup_nil, fun V hV => by cases hV⟩
    rcases b5 with ⟨b5, b6⟩ | ⟨b5, i, b0, b6, b7, b8, b9⟩
    · subst b5
      have := (LRD.hb h T0.length k0 q0 T0 r u t [] (Nat.le_refl _) b3 b4 hr ht ⟨p, by omega, a2, fun i _ hi => b6 i hi, Or.inl ⟨a3, by omega⟩⟩ (nil _ _)).2
      simp only [List.length_nil] at this
      omega
    · have := (LRD.hb h T0.length k0 q0 T0 r u b0 [] (Nat.le_refl _) b3 b4 hr b7 ⟨i, by omega, by omega, fun j _ hj => b9 j hj, b8⟩ (nil _ _)).2
      simp only [List.length_nil] at this
      omega
