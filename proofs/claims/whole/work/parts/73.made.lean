/-! the parser that was made is a good one -/
/-- what is known of the grammar that was prepared -/
def GD (n : Nat) (lf ln : Nat → Nat) (sy : Nat → Nat → Nat) (us : Nat → Bool) (b : Nat → Nat) : Prop :=
  n ≤ 10 ∧ (∀ r, r < n → lf r < 6 ∧ ln r ≤ 4 ∧ ∀ k, k < ln r → sy r k < 12) ∧ (ln 10 = 1 ∧ sy 10 0 = 6 + lf 0 ∧ lf 0 < 6) ∧ (∀ r, n ≤ r → r < 10 → ln r = 0) ∧
  (us 10 = true ∧ ∀ r, r < 10 → (us r = true ↔ r < n ∧ ∀ k, k < ln r → sy r k < 6 ∨ Fr n lf ln sy (sy r k - 6))) ∧ Fr n lf ln sy (lf 0) ∧ b = lim (fiR n lf ln sy us) 43 (fun _ => 0)
def mkG (lf ln : Nat → Nat) (sy : Nat → Nat → Nat) (us : Nat → Bool) (b : Nat → Nat) (rows : Nat → Nat → Nat) (tg rd : Nat → Nat → Option Nat) (m : Nat) : LRD :=
  (lf, ln, sy, fun r => us r = true, fun x => (b x).testBit 6 = true, fun x t => (b x).testBit t = true, fun q r p u => r ≤ 10 ∧ p ≤ 4 ∧ u ≤ 6 ∧ (rows q (5 * r + p)).testBit u = true, tg, rd, m)
section
variable {n : Nat} {lf ln : Nat → Nat} {sy : Nat → Nat → Nat} {us : Nat → Bool} {b : Nat → Nat} {rows : Nat → Nat → Nat} {tg rd : Nat → Nat → Option Nat} {m : Nat}
theorem GD_u (h : GD n lf ln sy us b) {r : Nat} (hr : r < 10) (hu : us r = true) : r < n := ((h.2.2.2.2.1.2 r hr).mp hu).1
theorem GD_4 (h : GD n lf ln sy us b) {r : Nat} (hr : r < 11) : ln r ≤ 4 := by
  by_cases e : r = 10
  · rw [e, h.2.2.1.1]; omega
  · by_cases e2 : r < n
    · exact (h.2.1 r e2).2.1
    · rw [h.2.2.2.1 r (by omega) (by omega)]; omega
theorem GD_b (h : GD n lf ln sy us b) : wfb b ∧ ∀ r, r < n → us r = true → ∀ t, (beg sy b r (ln r) 0).testBit t = true → (b (lf r)).testBit t = true := by
  have := fi_end (lf := lf) (ln := ln) (sy := sy) (us := us) (fun r hr => (h.2.1 r hr).1) 43 (fun _ => 0) (by omega) (fun x => (by decide : (0 : Nat) < 128))
  rw [← h.2.2.2.2.2.2] at this
  refine ⟨this.1, fun r hr hu t ht => ?_⟩
  have h2 := this.2 r hr hu
  rw [← h2, bit_or]; exact Or.inr ht
theorem GD_s (h : GD n lf ln sy us b) (Q : Nat → Nat → Prop) (hQ : ∀ (b : Nat → Nat) r t, (∀ x t, (b x).testBit t = true → Q x t) → r < n → us r = true → (beg sy b r (ln r) 0).testBit t = true → Q (lf r) t) : ∀ x t, (b x).testBit t = true → Q x t := by
  have := fi_snd (lf := lf) (ln := ln) (sy := sy) (us := us) Q hQ 43
  rw [← h.2.2.2.2.2.2] at this
  exact this
theorem least_ex {P : Nat → Prop} : ∀ n, (∃ k, k < n ∧ ¬ P k) → ∃ k, k < n ∧ ¬ P k ∧ ∀ i, i < k → P i
  | 0, ⟨k, hk, _⟩ => absurd hk (by omega)
  | n + 1, ⟨k, hk, hp⟩ => by
    by_cases e : ∃ k, k < n ∧ ¬ P k
    · obtain ⟨k, h1, h2, h3⟩ := least_ex n e
      exact ⟨k, by omega, h2, h3⟩
    · refine ⟨k, hk, hp, fun i hi => Classical.byContradiction fun h => e ⟨i, by omega, h⟩⟩
theorem mk_la {r p t : Nat} (ht : t < 6) (hp : p ≤ ln r) : (mkG lf ln sy us b rows tg rd m).la r p t ↔ (beg sy b r (ln r - p) p).testBit t = true := by
  rw [beg_t ht]
  constructor
  · rintro ⟨k, h1, h2, h3, h4⟩
    exact ⟨k, h1, by have : k < ln r := h2; omega, h3, h4⟩
  · rintro ⟨k, h1, h2, h3, h4⟩
    exact ⟨k, h1, by show k < ln r; omega, h3, h4⟩
theorem mk_ae {r p : Nat} (hp : p ≤ ln r) : (mkG lf ln sy us b rows tg rd m).ae r p ↔ (beg sy b r (ln r - p) p).testBit 6 = true := by
  rw [beg_6]
  constructor
  · exact fun h i h1 h2 => h i h1 (by show i < ln r; omega)
  · exact fun h i h1 h2 => h i h1 (by have : i < ln r := h2; omega)
theorem mk_fst (hb : wfb b) {r p v t : Nat} (hp : p ≤ ln r) (hv : v < 128) (hv0 : ¬ v = 0) (ht : t < 7) : (bgn sy b r (ln r - p) p v).testBit t = true ↔ ∃ u, u < 7 ∧ v.testBit u = true ∧ (mkG lf ln sy us b rows tg rd m).fst r p u t := by
  rw [bgn_bit hb hv ht]
  constructor
  · rintro (⟨h1, h2⟩ | ⟨h1, h2⟩)
    · obtain ⟨u, h3, h4⟩ := (bit_0 hv).mp hv0
      exact ⟨u, h3, h4, Or.inl ⟨h1, (mk_la h1 hp).mpr h2⟩⟩
    · exact ⟨t, ht, h2, Or.inr ⟨(mk_ae hp).mpr h1, rfl⟩⟩
  · rintro ⟨u, h1, h2, ⟨h3, h4⟩ | ⟨h3, h4⟩⟩
    · exact Or.inl ⟨h3, (mk_la h3 hp).mp h4⟩
    · exact Or.inr ⟨(mk_ae hp).mp h3, by rw [h4]; exact h2⟩
theorem mk_okg (h : GD n lf ln sy us b) : (mkG lf ln sy us b rows tg rd m).okg := by
  obtain ⟨hb, hcl⟩ := GD_b h
  have hu := fun r hr hu => GD_u h (r := r) hr hu
  have c3 : ∀ r, (mkG lf ln sy us b rows tg rd m).us r → r < 10 → (mkG lf ln sy us b rows tg rd m).ae r 0 → (mkG lf ln sy us b rows tg rd m).em ((mkG lf ln sy us b rows tg rd m).lf r) := fun r h1 h2 h3 => hcl r (hu r h2 h1) h1 6 ((mk_ae (by omega)).mp h3)
  have c5 : ∀ t r, t < 6 → (mkG lf ln sy us b rows tg rd m).us r → r < 10 → (mkG lf ln sy us b rows tg rd m).la r 0 t → (mkG lf ln sy us b rows tg rd m).fi ((mkG lf ln sy us b rows tg rd m).lf r) t := fun t r ht h1 h2 h3 => hcl r (hu r h2 h1) h1 t ((mk_la ht (by omega)).mp h3)
  refine ⟨fun r h1 h2 => ?_, ⟨h.2.2.2.2.1.1, h.2.2.1.1, ?_, ?_⟩, c3, fun P hP x hx => ?_, c5, fun t P ht hP x hx => ?_, fun r k h1 h2 h3 => ?_⟩
  · exact h.2.1 r (hu r h2 h1)
  · show 6 ≤ sy 10 0
    rw [h.2.2.1.2.1]; omega
  · show sy 10 0 < 12
    rw [h.2.2.1.2.1]; have := h.2.2.1.2.2; omega
  · refine GD_s h (fun x t => t = 6 → P x) (fun b' r t hb' hr hur ht e => ?_) x 6 hx rfl
    subst e
    refine hP r hur (by have := h.1; omega) (fun k hk => ?_)
    have := (beg_6 (ln r) 0).mp ht k (by omega) (by have : k < ln r := hk; omega)
    exact ⟨this.1, hb' _ 6 this.2 rfl⟩
  · refine (GD_s h (fun x s => (s = 6 → (b x).testBit 6 = true) ∧ (s = t → P x)) (fun b' r s hb' hr hur hs => ⟨fun e => ?_, fun e => ?_⟩) x t hx).2 rfl
    · subst e
      refine hcl r hr hur 6 ((beg_6 (ln r) 0).mpr (fun i h1 h2 => ?_))
      have := (beg_6 (ln r) 0).mp hs i h1 h2
      exact ⟨this.1, (hb' _ 6 this.2).1 rfl⟩
    · subst e
      obtain ⟨k, k1, k2, k3, k4⟩ := (beg_t ht (ln r) 0).mp hs
      refine hP r k hur (by have := h.1; omega) (by show k < ln r; omega) (fun i hi => ⟨(k3 i (by omega) hi).1, (hb' _ 6 (k3 i (by omega) hi).2).1 rfl⟩) (k4.imp id (fun h5 => ⟨h5.1, (hb' _ _ h5.2).2 rfl⟩))
  · have key : ∀ x, Fr n lf ln sy x → (b x).testBit 6 = true ∨ ∃ t, t < 6 ∧ (b x).testBit t = true := by
      intro x hx
      refine (hx (fun x => Fr n lf ln sy x ∧ ((b x).testBit 6 = true ∨ ∃ t, t < 6 ∧ (b x).testBit t = true)) (fun r hr hk => ?_)).2
      have hr10 : r < 10 := by have := h.1; omega
      have hur : us r = true := (h.2.2.2.2.1.2 r hr10).mpr ⟨hr, fun k hkl => (hk k hkl).imp id (fun z => z.1)⟩
      refine ⟨Fr_c hr (fun k hkl => (hk k hkl).imp id (fun z => z.1)), ?_⟩
      by_cases hall : ∀ i, i < ln r → 6 ≤ sy r i ∧ (b (sy r i - 6)).testBit 6 = true
      · exact Or.inl (c3 r hur hr10 (fun i _ hi => hall i hi))
      · right
        have hex : ∃ k, k < ln r ∧ ¬ (6 ≤ sy r k ∧ (b (sy r k - 6)).testBit 6 = true) := Classical.byContradiction fun hn => hall (fun i hi => Classical.byContradiction fun hh => hn ⟨i, hi, hh⟩)
        obtain ⟨k, k1, k2, k3⟩ := least_ex (P := fun k => 6 ≤ sy r k ∧ (b (sy r k - 6)).testBit 6 = true) _ hex
        by_cases h6 : sy r k < 6
        · exact ⟨sy r k, h6, c5 (sy r k) r h6 hur hr10 ⟨k, by omega, k1, fun i _ hi => k3 i hi, Or.inl ⟨rfl, h6⟩⟩⟩
        · rcases hk k k1 with h7 | ⟨-, h7 | ⟨t, ht, h7⟩⟩
          · exact absurd h7 h6
          · exact absurd ⟨by omega, h7⟩ k2
          · exact ⟨t, ht, c5 t r ht hur hr10 ⟨k, by omega, k1, fun i _ hi => k3 i hi, Or.inr ⟨by show 6 ≤ sy r k; omega, h7⟩⟩⟩
    have hsym : sy r k < 6 ∨ (6 ≤ sy r k ∧ Fr n lf ln sy (sy r k - 6)) := by
      by_cases e : r = 10
      · subst e
        have hk : k < ln 10 := h3
        rw [h.2.2.1.1] at hk
        have : k = 0 := by omega
        subst this
        rw [h.2.2.1.2.1]
        right
        refine ⟨by omega, ?_⟩
        rw [show 6 + lf 0 - 6 = lf 0 by omega]
        exact h.2.2.2.2.2.1
      · by_cases h6 : sy r k < 6
        · exact Or.inl h6
        · exact Or.inr ⟨by omega, (((h.2.2.2.2.1.2 r (by omega)).mp h1).2 k h3).resolve_left h6⟩
    rcases hsym with h6 | ⟨h6, h7⟩
    · exact Or.inr ⟨sy r k, h6, Or.inl ⟨rfl, h6⟩⟩
    · rcases key _ h7 with h8 | ⟨t, h8, h9⟩
      · exact Or.inl ⟨h6, h8⟩
      · exact Or.inr ⟨t, h8, Or.inr ⟨h6, h9⟩⟩
theorem mk_oks (h : GD n lf ln sy us b) (hT : TB lf ln sy us b rows tg m m 0) (hR : ∀ q, q < m → RQ ln us (rows q) (fun t => if t < 12 then tg q t else none) 11 (rd q)) : (mkG lf ln sy us b rows tg rd m).oks := by
  obtain ⟨hb, hcl⟩ := GD_b h
  have h4 : ∀ r, r < 11 → ln r ≤ 4 := fun r hr => GD_4 h hr
  have hsh := TB_shp h4 h.2.2.2.2.1.1 hT
  obtain ⟨t1, t2, t3, t4, t5, t6⟩ := hT
  -- every state is a closure
  have hcl0 : ∀ q, q < m → ∃ row, wfb row ∧ rows q = clo lf ln sy us b row ∧ ((q = 0 ∧ row = row0) ∨ (0 < q ∧ ∀ c t, (row c).testBit t = true → c % 5 ≠ 0)) := by
    intro q hq
    by_cases e : q = 0
    · exact ⟨row0, row0_w, by rw [e]; exact t4, Or.inl ⟨e, rfl⟩⟩
    · obtain ⟨q', X, c1, c2, c3, c4⟩ := t5 q (by omega) hq
      refine ⟨(mov ln sy (rows q') X).2, mov_w (t3 q' (by omega)), c4, Or.inr ⟨by omega, fun c t hct => ?_⟩⟩
      rcases mov_2 (ln := ln) (sy := sy) (row := rows q') (X := X) (c := c) with ⟨k, k0, k1, k2, k3, k5, k6⟩ | ⟨-, k2⟩
      · have := h4 (k / 5) (by omega)
        omega
      · rw [k2] at hct; simp at hct
  have e5 : ∀ r p, p ≤ 4 → (5 * r + p) / 5 = r ∧ (5 * r + p) % 5 = p := fun r p hp => by omega
  have nz : ∀ q c t, (rows q c).testBit t = true → ¬ rows q c = 0 := fun q c t ht e => by rw [e] at ht; simp at ht
  have item : ∀ q r p u, q < m → (mkG lf ln sy us b rows tg rd m).I q r p u → us r = true ∧ r ≤ 10 ∧ p ≤ ln r ∧ u ≤ 6 := by
    rintro q r p u hq ⟨g1, g2, g3, g4⟩
    have := hsh q hq (5 * r + p) (nz q _ u g4)
    rw [(e5 r p g2).1, (e5 r p g2).2] at this
    exact ⟨this.2.1, g1, this.2.2, g3⟩
  have closed : ∀ q r' p' u' r t, q < m → (mkG lf ln sy us b rows tg rd m).I q r' p' u' → p' < ln r' → sy r' p' = 6 + lf r → us r = true → r < 10 → (mkG lf ln sy us b rows tg rd m).fst r' (p' + 1) u' t → (mkG lf ln sy us b rows tg rd m).I q r 0 t := by
    intro q r' p' u' r t hq hi hp hsy hur hr10 hf
    obtain ⟨i1, i2, i3, i4⟩ := item q r' p' u' hq hi
    obtain ⟨g1, g2, g3, g4⟩ := hi
    have ht6 : t ≤ 6 := by
      rcases hf with ⟨f1, -⟩ | ⟨-, f2⟩ <;> omega
    obtain ⟨row, w1, w2, -⟩ := hcl0 q hq
    refine ⟨by omega, by omega, ht6, ?_⟩
    have hlt := t3 q hq (5 * r' + p')
    rw [Nat.add_zero]
    rw [w2] at g4 hlt ⊢
    refine clo_4 hb w1 (i := 5 * r' + p') (by omega) ?_ ?_ (fun e => by rw [e] at g4; simp at g4) hr10 hur ?_ ?_
    · rw [(e5 r' p' g2).1, (e5 r' p' g2).2]; exact hp
    · rw [(e5 r' p' g2).1, (e5 r' p' g2).2, hsy]; omega
    · rw [(e5 r' p' g2).1, (e5 r' p' g2).2, hsy]; omega
    · rw [(e5 r' p' g2).1, (e5 r' p' g2).2]
      exact (mk_fst (rows := rows) (tg := tg) (rd := rd) (m := m) (lf := lf) (us := us) hb (by omega) hlt (fun e => by rw [e] at g4; simp at g4) (by omega)).mpr ⟨u', by omega, g4, hf⟩
  refine ⟨item, closed, fun q hq P hP0 hP r u hi => ?_, fun q X hq hX => ?_, ⟨t1, ?_, ?_⟩, fun q t r hq ht => ?_, fun q t r hq ht hi => ?_⟩
  · obtain ⟨row, w1, w2, w3⟩ := hcl0 q hq
    have key : ∀ c t, (clo lf ln sy us b row c).testBit t = true → ((rows q c).testBit t = true ∧ (c % 5 = 0 → P (c / 5) t)) := by
      refine clo_3 (fun c t => (rows q c).testBit t = true ∧ (c % 5 = 0 → P (c / 5) t)) (fun row' i r t hrow hi55 hil hi6 hi0 hr10 hur hlr hbt => ?_) (fun c t hct => ⟨by rw [w2]; exact clo_2 hct, fun hc0 => ?_⟩)
      · have hi5 : i = 5 * (i / 5) + i % 5 := by omega
        have hlt : row' i < 128 := by
          apply Nat.lt_pow_two_of_testBit (n := 7)
          intro j hj
          cases hbj : (row' i).testBit j with
          | false => rfl
          | true =>
            have := (hrow i j hbj).1
            rw [bit_hi (t3 q hq i) hj] at this; cases this
        have ht7 : t < 7 := by
          apply Classical.byContradiction
          intro ht
          rw [bit_hi (bgn_lt (sy := sy) hb hlt) (by omega)] at hbt; cases hbt
        obtain ⟨u', u1, u2, u3⟩ := (mk_fst (rows := rows) (tg := tg) (rd := rd) (m := m) (lf := lf) (us := us) hb (show i % 5 + 1 ≤ ln (i / 5) by omega) hlt hi0 ht7).mp hbt
        obtain ⟨v1, v2⟩ := hrow i u' u2
        have hI : (mkG lf ln sy us b rows tg rd m).I q (i / 5) (i % 5) u' := ⟨by omega, by omega, by omega, by rw [← hi5]; exact v1⟩
        have hsy : sy (i / 5) (i % 5) = 6 + lf r := by omega
        have hc := closed q (i / 5) (i % 5) u' r t hq hI hil hsy hur hr10 u3
        have hcc := hc.2.2.2
        rw [Nat.add_zero] at hcc
        refine ⟨hcc, fun _ => ?_⟩
        rw [show 5 * r / 5 = r by omega]
        exact hP (i / 5) (i % 5) u' r t hI hil v2 hsy hur hr10 u3
      · rcases w3 with ⟨e1, e2⟩ | ⟨e1, e2⟩
        · rw [e2] at hct
          simp only [row0] at hct
          by_cases e : c = 50
          · subst e
            rw [upN_s, show (64 : Nat) = 2 ^ 6 by rfl, bit_pow] at hct
            rw [← hct]
            exact hP0 e1
          · rw [upN_n _ e] at hct; simp at hct
        · exact absurd hc0 (e2 c t hct)
    obtain ⟨g1, g2, g3, g4⟩ := hi
    rw [Nat.add_zero] at g4
    have := (key (5 * r) u (by rw [← w2]; exact g4)).2 (by omega)
    rw [show 5 * r / 5 = r by omega] at this
    exact this
  · rcases t6 q X hq hX (Or.inl hq) with ⟨c1, c2⟩ | ⟨k, c1, c2, c3, c4⟩
    · left
      refine ⟨c1, fun r p u hi hp hs => ?_⟩
      obtain ⟨g1, g2, g3, g4⟩ := hi
      have hp' : p < ln r := hp
      have : (mov ln sy (rows q) X).1 = true := mov_1.mpr ⟨5 * r + p, by omega, by rw [(e5 r p g2).1, (e5 r p g2).2]; exact hp', nz q _ u g4, by rw [(e5 r p g2).1, (e5 r p g2).2]; exact hs⟩
      rw [c2] at this; cases this
    · right
      -- the cells behind a place are those that were moved
      have cell : ∀ r p, r ≤ 10 → p + 1 ≤ 4 → rows k (5 * r + (p + 1)) = (mov ln sy (rows q) X).2 (5 * r + (p + 1)) := by
        intro r p hr hp
        rw [c4 _ (by omega)]
        exact clo_1 (by omega)
      have hkk : ∀ r p u, (mkG lf ln sy us b rows tg rd m).I k r (p + 1) u ↔ (mkG lf ln sy us b rows tg rd m).I q r p u ∧ p < ln r ∧ sy r p = X := by
        intro r p u
        constructor
        · rintro ⟨g1, g2, g3, g4⟩
          rw [cell r p g1 g2] at g4
          rcases mov_2 (ln := ln) (sy := sy) (row := rows q) (X := X) (c := 5 * r + (p + 1)) with ⟨j, j0, j1, j2, j3, j5, j6⟩ | ⟨-, j2⟩
          · have hj : j = 5 * r + p := by omega
            subst hj
            rw [(e5 r p (by omega)).1, (e5 r p (by omega)).2] at j2 j5
            rw [j6] at g4
            exact ⟨⟨g1, by omega, g3, g4⟩, j2, j5⟩
          · rw [j2] at g4; simp at g4
        · rintro ⟨⟨g1, g2, g3, g4⟩, g5, g6⟩
          have := h4 r (by omega)
          refine ⟨g1, by omega, g3, ?_⟩
          rw [cell r p g1 (by omega)]
          rcases mov_2 (ln := ln) (sy := sy) (row := rows q) (X := X) (c := 5 * r + (p + 1)) with ⟨j, j0, j1, j2, j3, j5, j6⟩ | ⟨j1, -⟩
          · have hj : j = 5 * r + p := by omega
            subst hj
            rw [j6]; exact g4
          · exact absurd ⟨5 * r + p, by omega, by omega, by rw [(e5 r p g2).1, (e5 r p g2).2]; exact g5, nz q _ u g4, by rw [(e5 r p g2).1, (e5 r p g2).2]; exact g6⟩ j1
      obtain ⟨j, j1, j2, j3, j4⟩ := mov_1.mp c3
      obtain ⟨u, u1, u2⟩ := (bit_0 (t3 q hq j)).mp j3
      have hj5 : j = 5 * (j / 5) + j % 5 := by omega
      have hI : (mkG lf ln sy us b rows tg rd m).I q (j / 5) (j % 5) u := ⟨by omega, by omega, by omega, by rw [← hj5]; exact u2⟩
      refine ⟨k, c2, ?_, c1, ⟨j / 5, j % 5, u, hI, j2, j4⟩, hkk⟩
      apply Classical.byContradiction
      intro hk0
      have hk0' : k = 0 := by omega
      subst hk0'
      obtain ⟨g1, g2, g3, g4⟩ := (hkk (j / 5) (j % 5) u).mpr ⟨hI, j2, j4⟩
      rw [t4, clo_1 (by omega)] at g4
      simp only [row0] at g4
      rw [upN_n _ (by omega)] at g4
      simp at g4
  · refine ⟨by omega, by omega, by omega, ?_⟩
    show (rows 0 (5 * 10 + 0)).testBit 6 = true
    rw [t4]
    exact clo_2 (by show (row0 50).testBit 6 = true; simp only [row0, upN_s]; decide)
  · rintro r p u ⟨g1, g2, g3, g4⟩
    rw [t4, clo_1 (by omega)] at g4
    simp only [row0] at g4
    rw [upN_n _ (by omega)] at g4
    simp at g4
  · refine ((hR q hq).1 t r (by omega)).trans ⟨fun ⟨g1, g2, g3⟩ => ⟨by omega, h4 r g1, ht, g3⟩, fun hi => ?_⟩
    have := (item q r _ t hq hi).1
    exact ⟨by have := hi.1; omega, this, hi.2.2.2⟩
  · have hu := item q r _ t hq hi
    have := (hR q hq).2 t r ht (by omega) hu.1 hi.2.2.2
    simp only [if_pos (show t < 12 by omega)] at this
    exact this
theorem mk_ok (h : GD n lf ln sy us b) (hT : TB lf ln sy us b rows tg m m 0) (hR : ∀ q, q < m → RQ ln us (rows q) (fun t => if t < 12 then tg q t else none) 11 (rd q)) : (mkG lf ln sy us b rows tg rd m).ok := ⟨mk_okg h, mk_oks h hT hR⟩
end
