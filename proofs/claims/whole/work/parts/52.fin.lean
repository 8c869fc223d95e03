/-! every reduction that a state offers leads to the letter that was looked at -/
def LRD.h1 (g : LRD) (e : Nat) : Prop := ∀ x, g.ek e x → ∀ c q (S : List Nat) r p u t B, g.vf c (q :: S) → g.I q r p u → p < g.ln r → g.sy r p = 6 + x → g.fst r (p + 1) u t → t ≤ 6 → S.length + 1 + 3 * e ≤ B → ∃ q', g.tg q (6 + x) = some q' ∧ g.rc B t (stp e) (q :: S) (q' :: q :: S)
theorem LRD.l1s {g : LRD} (h : g.ok) {e : Nat} (H : g.h1 e) : ∀ d p c q (S : List Nat) r u t B, g.vf c (q :: S) → g.I q r p u → p + d ≤ g.ln r → (∀ i, p ≤ i → i < p + d → 6 ≤ g.sy r i ∧ g.ek e (g.sy r i - 6) ∧ g.fst r (i + 1) u t) → t ≤ 6 → (0 < d → S.length + d + 3 * e ≤ B) →
    ∃ q' S', g.rc B t (d * stp e) (q :: S) (q' :: S') ∧ S'.length = S.length + d ∧ (q' :: S').drop d = q :: S ∧ g.I q' r (p + d) u ∧ g.vf c (q' :: S')
  | 0, p, c, q, S, r, u, t, B, hv, hi, hp, hs, ht, hB => ⟨q, S, g.rc_refl B t _ _, rfl, rfl, hi, hv⟩
  | d + 1, p, c, q, S, r, u, t, B, hv, hi, hp, hs, ht, hB => by
    have hq := LRD.vf_m h _ _ _ hv
    obtain ⟨s1, s2, s3⟩ := hs p (Nat.le_refl _) (by omega)
    obtain ⟨q1, a1, a2, a3⟩ := LRD.go h hq hi (by omega) (LRD.sy12 h hq hi (by omega))
    obtain ⟨q1', b1, b2⟩ := H (g.sy r p - 6) s2 c q S r p u t B hv hi (by omega) (by omega) s3 ht (by have := hB (by omega); omega)
    rw [show 6 + (g.sy r p - 6) = g.sy r p by omega] at b1
    rw [a1] at b1
    cases b1
    have hv1 : g.vf c (q1 :: q :: S) := ⟨g.sy r p, LRD.sy12 h hq hi (by omega), a1, Or.inl ⟨⟨s1, LRD.ek_em h.1 e _ s2⟩, hv⟩⟩
    obtain ⟨q', S', c1, c2, c3, c4, c5⟩ := l1s h H d (p + 1) c q1 (q :: S) r u t B hv1 a2 (by omega) (fun i h1 h2 => hs i (by omega) (by omega)) ht (fun hd => by have := hB (by omega); simp only [List.length_cons]; omega)
    refine ⟨q', S', ?_, ?_, ?_, by rw [show p + (d + 1) = p + 1 + d by omega]; exact c4, c5⟩
    · rw [show (d + 1) * stp e = stp e + d * stp e by rw [Nat.add_mul]; omega]
      exact LRD.rc_trans b2 c1
    · rw [c2, List.length_cons]; omega
    · rw [show d + 1 = d + 1 from rfl, ← List.drop_drop, c3]; rfl
theorem LRD.l1 {g : LRD} (h : g.ok) : ∀ e, g.h1 e
  | 0 => fun x hx => hx.elim
  | e + 1 => by
    intro x hx c q S r p u t B hv hi hp hs hf ht hB
    obtain ⟨r1, h1, h2, h3, h4⟩ := hx
    have hq := LRD.vf_m h _ _ _ hv
    have hl := h.1.1 r1 h1 h2
    have hi1 : g.I q r1 0 t := h.2.2.1 q r p u r1 t hq hi hp (by rw [hs, h3]) h1 h2 hf
    have hae : ∀ i, i < g.ln r1 → g.eS (g.sy r1 i) := fun i hi => ⟨(h4 i hi).1, LRD.ek_em h.1 e _ (h4 i hi).2⟩
    obtain ⟨q', S', c1, c2, c3, c4, c5⟩ := LRD.l1s h (l1 h e) (g.ln r1) 0 c q S r1 t t B hv hi1 (by omega) (fun i _ hi => ⟨(h4 i (by omega)).1, (h4 i (by omega)).2, Or.inr ⟨fun j _ hj => hae j hj, rfl⟩⟩) ht (fun _ => by omega)
    rw [Nat.zero_add] at c4
    obtain ⟨q0, T0, q1, d1, d2, d3, d4, d5, d6, -⟩ := LRD.red h c5 ht c4 (by omega)
    rw [c3] at d1
    cases d1
    rw [h3] at d4
    refine ⟨q1, d4, LRD.rc_mono (LRD.rc_trans c1 (LRD.rc_1 (d5 B (by omega)))) ?_⟩
    simp only [stp]
    have := Nat.mul_le_mul_right (stp e) hl.2.1
    omega
theorem LRD.l2 {g : LRD} (h : g.ok) {t : Nat} (ht : t < 6) : ∀ e x, g.fk t e x → ∃ L, L ≤ 3 * e ∧ ∀ c q (S : List Nat) r p u B, g.vf c (q :: S) → g.I q r p u → p < g.ln r → g.sy r p = 6 + x → S.length + 1 + 3 * e + 18 ≤ B →
    ∃ q' S', g.rc B t (e * (3 * stp 6)) (q :: S) (q' :: S') ∧ S'.length = S.length + L ∧ (∃ q2, g.tg q' t = some q2) ∧ g.vf c (q' :: S')
  | 0, x, hx => hx.elim
  | e + 1, x, hx => by
    obtain ⟨r1, k, h1, h2, h3, h4, h5, h6⟩ := hx
    have hl := h.1.1 r1 h1 h2
    have hk3 : k ≤ 3 := by omega
    have hfS : g.fS (g.sy r1 k) t := h6.imp id (fun h7 => ⟨h7.1, LRD.fk_fi h.1 ht e _ h7.2⟩)
    -- the rows of r1 before k
    have main : ∀ c q (S : List Nat) r p u B, g.vf c (q :: S) → g.I q r p u → p < g.ln r → g.sy r p = 6 + x → S.length + k + 18 ≤ B → ∃ q' S' v, g.rc B t (3 * stp 6) (q :: S) (q' :: S') ∧ S'.length = S.length + k ∧ g.I q' r1 k v ∧ g.vf c (q' :: S') := by
      intro c q S r p u B hv hi hp hs hB
      have hq := LRD.vf_m h _ _ _ hv
      have hu := h.2.1 q r p u hq hi
      obtain ⟨v, hv1, hv2⟩ := LRD.fst_some (u := u) h.1 hu.1 hu.2.1 (g.ln r - (p + 1)) (p + 1) (by omega)
      have hi1 : g.I q r1 0 v := h.2.2.1 q r p u r1 v hq hi hp (by rw [hs, h3]) h1 h2 hv1
      obtain ⟨q', S', c1, c2, c3, c4, c5⟩ := LRD.l1s h (LRD.l1 h 6) k 0 c q S r1 v t B hv hi1 (by omega) (fun i _ hi => ⟨(h5 i (by omega)).1, LRD.em_6 h.1 (h5 i (by omega)).2, Or.inl ⟨ht, k, by omega, h4, fun j _ hj => h5 j hj, hfS⟩⟩) (by omega) (fun _ => by omega)
      rw [Nat.zero_add] at c4
      exact ⟨q', S', v, LRD.rc_mono c1 (Nat.mul_le_mul_right _ hk3), c2, c4, c5⟩
    rcases h6 with ⟨h6, h7⟩ | ⟨h6, h7⟩
    · refine ⟨k, by omega, fun c q S r p u B hv hi hp hs hB => ?_⟩
      obtain ⟨q', S', v, a1, a2, a3, a4⟩ := main c q S r p u B hv hi hp hs (by omega)
      obtain ⟨q2, b1, -, -⟩ := LRD.go h (LRD.vf_m h _ _ _ a4) a3 h4 (by omega)
      rw [h6] at b1
      exact ⟨q', S', LRD.rc_mono a1 (by rw [Nat.add_mul]; omega), a2, ⟨q2, b1⟩, a4⟩
    · obtain ⟨L, hL, H⟩ := l2 h ht e _ h7
      refine ⟨k + L, by omega, fun c q S r p u B hv hi hp hs hB => ?_⟩
      obtain ⟨q', S', v, a1, a2, a3, a4⟩ := main c q S r p u B hv hi hp hs (by omega)
      obtain ⟨q2, S2, b1, b2, b3, b4⟩ := H c q' S' r1 k v B a4 a3 h4 (by omega) (by omega)
      refine ⟨q2, S2, LRD.rc_mono (LRD.rc_trans a1 b1) (by rw [Nat.add_mul]; omega), by omega, b3, b4⟩
/-- at the end: the letter can be read, or the text is a sentence -/
def LRD.at_ (g : LRD) (t q : Nat) : Prop := (t < 6 ∧ ∃ q2, g.tg q t = some q2) ∨ (t = 6 ∧ g.rd q 6 = some 10)
def LRD.fin (g : LRD) (B t : Nat) (S : List Nat) : Prop := ∃ k q' S', g.rc B t k S (q' :: S') ∧ g.at_ t q'
theorem LRD.root6 {g : LRD} (h : g.ok) {q u : Nat} (hq : q < g.m) (hi : g.I q 10 0 u) : u = 6 := by
  have := h.2.2.2.1 q hq (fun r u => r = 10 → u = 6) (fun _ _ => rfl) (fun r' p' u' r u _ _ _ _ _ a6 _ e => absurd e (by omega)) 10 u hi
  exact this rfl
/-- from an item on: the letter comes of what stands behind, by way of empty names -/
theorem LRD.ahead {g : LRD} (h : g.ok) {t : Nat} (ht : t < 6) {c q r p u B : Nat} {S : List Nat} (hv : g.vf c (q :: S)) (hi : g.I q r p u) (hla : g.la r p t) (hp : 0 < p) (hB : S.length + 40 ≤ B) : ∃ q' S', g.rc B t (21 * stp 6) (q :: S) (q' :: S') ∧ (∃ q2, g.tg q' t = some q2) ∧ g.vf c (q' :: S') := by
  have hq := LRD.vf_m h _ _ _ hv
  have hu := h.2.1 q r p u hq hi
  obtain ⟨k, k1, k2, k3, k4⟩ := hla
  have hk4 : k ≤ 3 := by
    by_cases e : r = 10
    · subst e; have := h.1.2.1.2.1; omega
    · have := (h.1.1 r hu.1 (by omega)).2.1; omega
  obtain ⟨q', S', c1, c2, c3, c4, c5⟩ := LRD.l1s h (LRD.l1 h 6) (k - p) p c q S r u t B hv hi (by omega) (fun i h1 h2 => ⟨(k3 i h1 (by omega)).1, LRD.em_6 h.1 (k3 i h1 (by omega)).2, Or.inl ⟨ht, k, by omega, k2, fun j h3 h4 => k3 j (by omega) h4, k4⟩⟩) (by omega) (fun _ => by omega)
  rw [show p + (k - p) = k by omega] at c4
  have hq' := LRD.vf_m h _ _ _ c5
  have c1' : g.rc B t (3 * stp 6) (q :: S) (q' :: S') := LRD.rc_mono c1 (Nat.mul_le_mul_right _ (by omega))
  rcases k4 with ⟨k4, k5⟩ | ⟨k4, k5⟩
  · obtain ⟨q2, b1, -, -⟩ := LRD.go h hq' c4 k2 (by omega)
    rw [k4] at b1
    exact ⟨q', S', LRD.rc_mono c1' (by omega), ⟨q2, b1⟩, c5⟩
  · obtain ⟨L, hL, H⟩ := LRD.l2 h ht 6 _ (LRD.fi_6 h.1 ht k5)
    obtain ⟨q2, S2, b1, b2, b3, b4⟩ := H c q' S' r k u B c5 c4 k2 (by omega) (by omega)
    exact ⟨q2, S2, LRD.rc_mono (LRD.rc_trans c1' b1) (by omega), b3, b4⟩
/-- from an item on: what stands behind is empty, and the rule comes to its end -/
theorem LRD.through {g : LRD} (h : g.ok) {c q r p t B : Nat} {S : List Nat} (hv : g.vf c (q :: S)) (ht : t ≤ 6) (hi : g.I q r p t) (hae : g.ae r p) (hp : 0 < p) (hB : S.length + 21 ≤ B) : ∃ q' S', g.rc B t (3 * stp 6) (q :: S) (q' :: S') ∧ S'.length + p = S.length + g.ln r ∧ (q' :: S').drop (g.ln r - p) = q :: S ∧ g.I q' r (g.ln r) t ∧ g.vf c (q' :: S') := by
  have hq := LRD.vf_m h _ _ _ hv
  have hu := h.2.1 q r p t hq hi
  have hl4 : g.ln r ≤ 4 := by
    by_cases e : r = 10
    · subst e; have := h.1.2.1.2.1; omega
    · have := (h.1.1 r hu.1 (by omega)).2.1; omega
  obtain ⟨q', S', c1, c2, c3, c4, c5⟩ := LRD.l1s h (LRD.l1 h 6) (g.ln r - p) p c q S r t t B hv hi (by omega) (fun i h1 h2 => ⟨(hae i h1 (by omega)).1, LRD.em_6 h.1 (hae i h1 (by omega)).2, Or.inr ⟨fun j h3 h4 => hae j (by omega) h4, rfl⟩⟩) ht (fun _ => by omega)
  rw [show p + (g.ln r - p) = g.ln r by omega] at c4
  exact ⟨q', S', LRD.rc_mono c1 (Nat.mul_le_mul_right _ (by omega)), by omega, c3, c4, c5⟩
theorem LRD.vf_go {g : LRD} (h : g.ok) {c q0 q1 r' p' u' : Nat} {T0 : List Nat} (hv : g.vf c (q0 :: T0)) (hi : g.I q0 r' p' u') (hp : p' < g.ln r') (ht : g.tg q0 (g.sy r' p') = some q1) : ∃ c', g.vf c' (q1 :: q0 :: T0) := by
  have hq := LRD.vf_m h _ _ _ hv
  have hu := h.2.1 q0 r' p' u' hq hi
  rcases h.1.2.2.2.2.2.2 r' p' hu.1 hu.2.1 hp with h1 | h1
  · exact ⟨c, g.sy r' p', LRD.sy12 h hq hi hp, ht, Or.inl ⟨h1, hv⟩⟩
  · exact ⟨c + 1, g.sy r' p', LRD.sy12 h hq hi hp, ht, Or.inr ⟨h1, by omega, hv⟩⟩
/-- what comes next behind a name that was put on: one step of the way -/
theorem LRD.next {g : LRD} (h : g.ok) {c q0 q1 r' p' u' r t B : Nat} {T0 : List Nat} (hv : g.vf c (q0 :: T0)) (hi : g.I q0 r' p' u') (hp : p' < g.ln r') (hs : g.sy r' p' = 6 + g.lf r) (hf : g.fst r' (p' + 1) u' t) (ht : t ≤ 6) (hq1 : g.tg q0 (6 + g.lf r) = some q1) (hB : T0.length + 42 ≤ B) :
    (∃ q' S', g.rc B t (21 * stp 6) (q1 :: q0 :: T0) (q' :: S') ∧ g.at_ t q') ∨
    (t = u' ∧ r' < 10 ∧ g.us r' ∧ ∃ q00 T00 q11 d, 0 < d ∧ d ≤ 3 * stp 6 + 1 ∧ (q0 :: T0).drop p' = q00 :: T00 ∧ g.I q00 r' 0 t ∧ g.tg q00 (6 + g.lf r') = some q11 ∧ g.rn B t d (q1 :: q0 :: T0) = some (q11 :: q00 :: T00)) := by
  have hq := LRD.vf_m h _ _ _ hv
  have hu := h.2.1 q0 r' p' u' hq hi
  obtain ⟨q1', a1, a2, a3⟩ := LRD.go h hq hi hp (LRD.sy12 h hq hi hp)
  rw [hs] at a1
  rw [hq1] at a1
  cases a1
  obtain ⟨c', hv'⟩ := LRD.vf_go h hv hi hp (by rw [hs]; exact hq1)
  rcases hf with ⟨ht6, hla⟩ | ⟨hae, rfl⟩
  · obtain ⟨q', S', b1, b2, b3⟩ := LRD.ahead h ht6 hv' a2 hla (by omega) (B := B) (by simp only [List.length_cons]; omega)
    exact Or.inl ⟨q', S', b1, Or.inl ⟨ht6, b2⟩⟩
  · obtain ⟨q', S', b1, b2, b3, b4, b5⟩ := LRD.through h hv' ht a2 hae (by omega) (B := B) (by simp only [List.length_cons]; omega)
    by_cases e : r' = 10
    · left
      subst e
      have hl := h.1.2.1.2.1
      have hp0 : p' = 0 := by omega
      subst hp0
      have h6 := LRD.root6 h hq hi
      subst h6
      exact ⟨q', S', LRD.rc_mono b1 (by omega), Or.inr ⟨rfl, (h.2.2.2.2.2.2.1 q' 6 10 (LRD.vf_m h _ _ _ b5) (by omega)).mpr b4⟩⟩
    · right
      refine ⟨rfl, by omega, hu.1, ?_⟩
      obtain ⟨q00, T00, q11, d1, d2, d3, d4, d5, d6, -⟩ := LRD.red h b5 ht b4 e
      have hdrop : (q0 :: T0).drop p' = q00 :: T00 := by
        rw [← d1, show g.ln r' = (g.ln r' - (p' + 1)) + (p' + 1) by omega, ← List.drop_drop, b3]; rfl
      simp only [List.length_cons] at b2
      obtain ⟨j, hj, ej⟩ := b1
      refine ⟨q00, T00, q11, j + 1, by omega, by omega, hdrop, d3, d4, ?_⟩
      rw [g.rn_add, ej]
      show g.rn B t 1 (q' :: S') = _
      show (g.mv B t (q' :: S')).bind (g.rn B t 0) = _
      rw [d5 B (by omega)]; rfl
theorem LRD.fin_a {g : LRD} (h : g.ok) : ∀ n c q0 (T0 : List Nat) r t, T0.length ≤ n → g.vf c (q0 :: T0) → g.I q0 r 0 t → r < 10 → t ≤ 6 → ∀ q1, g.tg q0 (6 + g.lf r) = some q1 → ∀ B, T0.length + 42 ≤ B → g.fin B t (q1 :: q0 :: T0) := by
  intro n
  induction n using Nat.strongRecOn with
  | _ n ih =>
    intro c q0 T0 r t hn hv hi hr ht q1 hq1 B hB
    have hq := LRD.vf_m h _ _ _ hv
    have key := h.2.2.2.1 q0 hq (fun r u => r < 10 → u ≤ 6 → ∀ q1, g.tg q0 (6 + g.lf r) = some q1 → g.fin B u (q1 :: q0 :: T0)) (fun _ h10 => absurd h10 (by omega)) (by
      intro r' p' u' r u a1 a2 a3 a4 a5 a6 a7 a8 a9 q1 hq1
      rcases LRD.next h hv a1 a2 a4 a7 a9 hq1 hB with ⟨q', S', b1, b2⟩ | ⟨b0, b1, b2, q00, T00, q11, d, d1, d2, d3, d4, d5, d6⟩
      · exact ⟨_, q', S', b1, b2⟩
      · have hfin : g.fin B u (q11 :: q00 :: T00) := by
          by_cases e : p' = 0
          · subst e
            have d3' : q0 :: T0 = q00 :: T00 := d3
            cases d3'
            rw [b0]
            exact a3 rfl b1 (by omega) q11 d5
          · obtain ⟨q0', T0', k0, e1, e2, e3, e4, -⟩ := LRD.bt h p' c T0 q0 r' u' hv a1
            rw [e1] at d3
            cases d3
            exact ih (n - p') (by have := h.2.1 q0 r' p' u' hq a1; omega) k0 q00 T00 r' u (by omega) e3 d4 b1 a9 q11 d5 B (by omega)
        obtain ⟨k, q', S', f1, f2⟩ := hfin
        exact ⟨d + k, q', S', LRD.rc_trans ⟨d, Nat.le_refl _, d6⟩ f1, f2⟩)
    exact key r t hi hr ht q1 hq1
/-- every reduction leads on to the letter -/
theorem LRD.fin_all {g : LRD} (h : g.ok) {c q t r B : Nat} {S : List Nat} (hv : g.vf c (q :: S)) (ht : t ≤ 6) (hr : g.rd q t = some r) (h10 : r ≠ 10) (hB : S.length + 42 ≤ B) : g.fin B t (q :: S) := by
  have hq := LRD.vf_m h _ _ _ hv
  have hi := (h.2.2.2.2.2.2.1 q t r hq ht).mp hr
  have hu := h.2.1 q r _ t hq hi
  obtain ⟨q0, T0, q1, d1, d2, d3, d4, d5, d6, k0, d7, d8⟩ := LRD.red h hv ht hi h10
  obtain ⟨k, q', S', f1, f2⟩ := LRD.fin_a h T0.length k0 q0 T0 r t (Nat.le_refl _) d8 d3 (by omega) ht q1 d4 B (by omega)
  exact ⟨1 + k, q', S', LRD.rc_trans (LRD.rc_1 (d5 B (by omega))) f1, f2⟩
