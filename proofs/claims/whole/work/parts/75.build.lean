/-! all that compile makes, of both -/
theorem c_bc {v : Nat} (hv : v < 128) : S_Integer_bitCount (nI v) = some (nI (pop v)) := by
  have h1 : (List.range 128).all (fun v => decide (S_Integer_bitCount (nI v) = some (nI (pop v)))) = true := by decide +kernel
  exact of_decide_eq_true (List.all_eq_true.mp h1 v (List.mem_range.mpr hv))
section
variable {n : Nat} {lf ln : Nat → Nat} {sy : Nat → Nat → Nat} {us : Nat → Bool} {b : Nat → Nat}
theorem conf_iff (h4 : ∀ r, r < 11 → ln r ≤ 4) {row : Nat → Nat} (hw : wfb row) (hsh : shp ln us row) {tq : Nat → Option Nat} (ht : ∀ t, t < 6 → (tq t = none ↔ (mov ln sy row t).1 = false)) :
    (∃ r q' p, r < 11 ∧ q' < 11 ∧ p < 5 ∧ chk ln sy row r q' p) ↔ CF ln us row tq := by
  have nz : ∀ c t, (row c).testBit t = true → ¬ row c = 0 := fun c t ht e => by rw [e] at ht; simp at ht
  have hus : ∀ r t, r < 11 → (row (5 * r + ln r)).testBit t = true → us r = true := fun r t hr hb => by
    have := h4 r hr
    have := (hsh _ (nz _ t hb)).2.1
    rwa [show (5 * r + ln r) / 5 = r by omega] at this
  constructor
  · rintro ⟨r, q', p, hr, hq', hp, c1, c2, ⟨c3, t, c4, c5, c6⟩ | ⟨c3, c4, c5, c6⟩⟩
    · subst c3
      exact ⟨r, t, hr, hus r t hr c6, c4, c6, Or.inr ⟨q', hq', fun e => c1 ⟨e, by rw [e]⟩, hus q' t hq' c5, c5⟩⟩
    · refine ⟨r, sy q' p, hr, hus r _ hr c6, by omega, c6, Or.inl ⟨c5, fun e => ?_⟩⟩
      have h1 := (ht (sy q' p) c5).mp e
      have h2 : (mov ln sy row (sy q' p)).1 = true := mov_1.mpr ⟨5 * q' + p, by omega, by rw [show (5 * q' + p) / 5 = q' by omega, show (5 * q' + p) % 5 = p by omega]; exact c3, c4, by rw [show (5 * q' + p) / 5 = q' by omega, show (5 * q' + p) % 5 = p by omega]⟩
      rw [h1] at h2; cases h2
  · rintro ⟨r, t, hr, hu, h7, hb, ⟨c1, c2⟩ | ⟨r', c1, c2, c3, c4⟩⟩
    · have h2 : (mov ln sy row t).1 = true := by
        cases h3 : (mov ln sy row t).1 with
        | true => rfl
        | false => exact absurd ((ht t c1).mpr h3) c2
      obtain ⟨k, k1, k2, k3, k4⟩ := mov_1.mp h2
      refine ⟨r, k / 5, k % 5, hr, by omega, by omega, fun e => ?_, by omega, Or.inr ⟨k2, ?_, by omega, by rw [k4]; exact hb⟩⟩
      · rw [e.1] at k2; omega
      · rw [show 5 * (k / 5) + k % 5 = k by omega]; exact k3
    · have := h4 r' c1
      exact ⟨r, r', ln r', hr, c1, by omega, fun e => c2 e.1, Nat.le_refl _, Or.inl ⟨rfl, t, h7, c4, hb⟩⟩
theorem c_sum {m : Nat} (hm : m ≤ 40) {f1 f2 f3 f5 f6 f7 f8 f9 : Nat → Int32} {rv : Nat → Nat} (h : ∀ k, k < 55 * m → rv k < 128 ∧ f2 k = nI (rv k)) : ∀ d i k, i + d = 55 * m → F_States_build f5 f6 f7 f8 f9 (k + (d + 1)) 0 (nI i) (nI m) (nI (sm rv i)) f1 f2 f3 = some (nI 1, nI m, nI (sm rv (55 * m)), f1, f2, f3)
  | 0, i, k, hi => by
    have : i = 55 * m := by omega
    subst this
    show B_States_build_0 (F_States_build f5 f6 f7 f8 f9 k) f5 f6 f7 f8 f9 (nI (55 * m)) (nI m) (nI (sm rv (55 * m))) f1 f2 f3 = _
    simp (disch := omega) only [B_States_build_0, i_lit, nI_ltI, nI_leI, nI_eq, nI_add, pk_mul, pk_sub, nI_clamp, if_pos, if_neg, if_true, if_false, Option.bind_some, true_or, or_true, false_or, or_false, or_self, not_true_eq_false, not_false_eq_true, i_m1lt, i_m1le, i_nlt1, i_nle1, i_ne1, i_1ne]
  | d + 1, i, k, hi => by
    rw [← c_sum (f1 := f1) (f3 := f3) (f5 := f5) (f6 := f6) (f7 := f7) (f8 := f8) (f9 := f9) hm h d (i + 1) k (by omega)]
    obtain ⟨h1, h2⟩ := h i (by omega)
    have hbc := c_bc h1
    show B_States_build_0 (F_States_build f5 f6 f7 f8 f9 (k + (d + 1))) f5 f6 f7 f8 f9 (nI i) (nI m) (nI (sm rv i)) f1 f2 f3 = _
    simp (disch := omega) only [B_States_build_0, h2, hbc, sm, i_lit, nI_ltI, nI_leI, nI_eq, nI_add, pk_mul, pk_sub, nI_clamp, if_pos, if_neg, if_true, if_false, Option.bind_some, true_or, or_true, false_or, or_false, or_self, not_true_eq_false, not_false_eq_true, i_m1lt, i_m1le, i_nlt1, i_nle1, i_ne1, i_1ne]
/-- the reference's conflicts over all states -/
theorem m_cf {g1 g2 g4 g5 g6 g7 h1 fm tm : Nat → Int32} {y0 y12 y22 y23 : Int32} (hs : GSm 11 ln sy g6 g5) {rows : Nat → Nat → Nat} {m : Nat} (hm : m ≤ 40) (hw : ∀ q, q < m → wfb (rows q)) (h2 : RS rows m fm) : ∀ d q, q + d = m →
    ((∀ q', q ≤ q' → q' < m → ∀ r q'' p, r < 11 → q'' < 11 → p < 5 → ¬ chk ln sy (rows q') r q'' p) ∧ ∀ k, F_Model_compile (nI n) (k + (d + 1)) 4 (nI 0) (nI q) y0 (nI m) y12 y22 y23 h1 g1 g2 fm g4 g5 tm g6 g7 = some (nI m, y0, nI m, nI m, y22, y23, h1, g1, g2, fm, g4, g5, tm, g6, g7)) ∨
    ((∃ q' r q'' p, q ≤ q' ∧ q' < m ∧ r < 11 ∧ q'' < 11 ∧ p < 5 ∧ chk ln sy (rows q') r q'' p) ∧ ∃ C, C ≤ d + 1 ∧ ∀ k, F_Model_compile (nI n) (k + C) 4 (nI 0) (nI q) y0 (nI m) y12 y22 y23 h1 g1 g2 fm g4 g5 tm g6 g7 = some (nI 0, nI 2, nI m, y12, y22, y23, h1, g1, g2, fm, g4, g5, tm, g6, g7))
  | 0, q, hd => by
    refine Or.inl ⟨fun q' h3 h4 => absurd h4 (by omega), fun k => ?_⟩
    show B_Model_compile_4 (F_Model_compile (nI n) k) (nI n) (nI 0) (nI q) y0 (nI m) y12 y22 y23 h1 g1 g2 fm g4 g5 tm g6 g7 = _
    simp (disch := omega) only [B_Model_compile_4, i_lit, nI_ltI, nI_leI, nI_eq, nI_add, pk_mul, pk_sub, nI_clamp, if_pos, if_neg, if_true, if_false, Option.bind_some, true_or, or_true, false_or, or_false, or_self, not_true_eq_false, not_false_eq_true, i_m1lt, i_m1le, i_nlt1, i_nle1, i_ne1, i_1ne]
  | d + 1, q, hd => by
    have hq : q < m := by omega
    rcases m_conf (show q ≤ 40 by omega) hs (hw q hq) (h2 q hq) with ⟨c1, r, q'', p, c2, c3, c4, c5⟩ | ⟨c1, c2⟩
    · refine Or.inr ⟨⟨q, r, q'', p, by omega, hq, c2, c3, c4, c5⟩, 2, by omega, fun k => ?_⟩
      have s1 : F_Model_compile (nI n) (k + 2) 4 (nI 0) (nI q) y0 (nI m) y12 y22 y23 h1 g1 g2 fm g4 g5 tm g6 g7 = F_Model_compile (nI n) (k + 1) 4 (nI 1) (nI (q + 1)) y0 (nI m) y12 y22 y23 h1 g1 g2 fm g4 g5 tm g6 g7 := by
        show B_Model_compile_4 (F_Model_compile (nI n) (k + 1)) (nI n) (nI 0) (nI q) y0 (nI m) y12 y22 y23 h1 g1 g2 fm g4 g5 tm g6 g7 = _
        simp (disch := omega) only [B_Model_compile_4, c1, i_lit, nI_ltI, nI_leI, nI_eq, nI_add, pk_mul, pk_sub, nI_clamp, if_pos, if_neg, if_true, if_false, Option.bind_some, true_or, or_true, false_or, or_false, or_self, not_true_eq_false, not_false_eq_true, i_m1lt, i_m1le, i_nlt1, i_nle1, i_ne1, i_1ne]
      rw [s1]
      show B_Model_compile_4 (F_Model_compile (nI n) k) (nI n) (nI 1) (nI (q + 1)) y0 (nI m) y12 y22 y23 h1 g1 g2 fm g4 g5 tm g6 g7 = _
      by_cases e : m ≤ q + 1
      · simp (disch := omega) only [B_Model_compile_4, i_10, S_Model_fails, i_lit, nI_ltI, nI_leI, nI_eq, nI_add, pk_mul, pk_sub, nI_clamp, if_pos, if_neg, if_true, if_false, Option.bind_some, true_or, or_true, false_or, or_false, or_self, not_true_eq_false, not_false_eq_true, i_m1lt, i_m1le, i_nlt1, i_nle1, i_ne1, i_1ne]
      · simp (disch := omega) only [B_Model_compile_4, i_10, S_Model_fails, i_lit, nI_ltI, nI_leI, nI_eq, nI_add, pk_mul, pk_sub, nI_clamp, if_pos, if_neg, if_true, if_false, Option.bind_some, true_or, or_true, false_or, or_false, or_self, not_true_eq_false, not_false_eq_true, i_m1lt, i_m1le, i_nlt1, i_nle1, i_ne1, i_1ne]
    · have s1 : ∀ k, F_Model_compile (nI n) (k + 1) 4 (nI 0) (nI q) y0 (nI m) y12 y22 y23 h1 g1 g2 fm g4 g5 tm g6 g7 = F_Model_compile (nI n) k 4 (nI 0) (nI (q + 1)) y0 (nI m) y12 y22 y23 h1 g1 g2 fm g4 g5 tm g6 g7 := by
        intro k
        show B_Model_compile_4 (F_Model_compile (nI n) k) (nI n) (nI 0) (nI q) y0 (nI m) y12 y22 y23 h1 g1 g2 fm g4 g5 tm g6 g7 = _
        simp (disch := omega) only [B_Model_compile_4, c1, i_lit, nI_ltI, nI_leI, nI_eq, nI_add, pk_mul, pk_sub, nI_clamp, if_pos, if_neg, if_true, if_false, Option.bind_some, true_or, or_true, false_or, or_false, or_self, not_true_eq_false, not_false_eq_true, i_m1lt, i_m1le, i_nlt1, i_nle1, i_ne1, i_1ne]
      rcases m_cf (g1 := g1) (g2 := g2) (g4 := g4) (g7 := g7) (h1 := h1) (tm := tm) (y0 := y0) (y12 := y12) (y22 := y22) (y23 := y23) hs hm hw h2 d (q + 1) (by omega) with ⟨d1, d2⟩ | ⟨⟨q', r, q'', p, d1, d2⟩, C, d3, d4⟩
      · refine Or.inl ⟨fun q' h3 h4 => ?_, fun k => by rw [show k + (d + 1 + 1) = k + (d + 1) + 1 by omega, s1]; exact d2 k⟩
        by_cases e : q' = q
        · rw [e]; exact c2
        · exact d1 q' (by omega) h4
      · exact Or.inr ⟨⟨q', r, q'', p, by omega, d2⟩, C + 1, by omega, fun k => by rw [show k + (C + 1) = k + C + 1 by omega, s1]; exact d4 k⟩
/-- what is kept of what was compiled: nothing, or a good parser that both hold -/
def IM (x3 x4 : Int32) (lef siz red tgt : Nat → Int32) (made : Int32) (lem len fol nxt : Nat → Int32) : Prop :=
  (x3 = nI 0 ∧ x4 = nI 0 ∧ made = nI 0) ∨ ∃ g : LRD, g.ok ∧ TC g x3 lef siz red tgt ∧ TM g lem len fol nxt ∧ made = nI g.m ∧ ∃ rv : Nat → Nat, (∀ k, k < 55 * g.m → rv k < 128 ∧ fol k = nI (rv k)) ∧ x4 = nI (sm rv (55 * g.m))
theorem j_build {f5 f6 f7 f8 f9 g1 g2 g4 g5 g6 g7 h1 : Nat → Int32} {y0 y11 y12 y22 y23 x3 x4 : Int32} (hc : CC n lf ln sy us b f5 f6 f7 f8 f9) (hm : CM n lf ln sy us b g1 g2 g4 g5 g6 g7) (hG : GD n lf ln sy us b) (f1 f2 f3 fm tm : Nat → Int32) :
    (∃ m x4' red sets tgt fol nxt C, S_States_build x3 x4 f1 f2 f3 f5 f6 f7 f8 f9 = some (nI 1, nI m, x4', red, sets, tgt) ∧ C ≤ 100000 ∧ (∀ k, F_Model_compile (nI n) (k + C) 1 (nI 0) (nI 0) y0 y11 y12 y22 y23 h1 g1 g2 fm g4 g5 tm g6 g7 = some (nI m, y0, nI m, nI m, y22, y23, h1, g1, g2, fol, g4, g5, nxt, g6, g7)) ∧ IM (nI m) x4' f6 f8 red tgt (nI m) g4 g5 fol nxt) ∨
    (∃ red sets tgt z11 fol nxt C, S_States_build x3 x4 f1 f2 f3 f5 f6 f7 f8 f9 = some (nI 0, nI 0, nI 0, red, sets, tgt) ∧ C ≤ 100000 ∧ ∀ k, F_Model_compile (nI n) (k + C) 1 (nI 0) (nI 0) y0 y11 y12 y22 y23 h1 g1 g2 fm g4 g5 tm g6 g7 = some (nI 0, nI 2, z11, y12, y22, y23, h1, g1, g2, fol, g4, g5, nxt, g6, g7)) := by
  have h4 : ∀ r, r < 11 → ln r ≤ 4 := fun r hr => GD_4 hG hr
  have hn := hc.1
  have hb := hc.2.1
  -- state 0
  have w0 : ∀ f : Nat → Int32, RW 0 row0 f (upd (fl f (fun _ => nI 0) 0 55) 50 (nI 64)) := by
    intro f
    have := RW_up (RW_0 (q := 0) (f := f)) (c := 50) (v := 64) (by omega)
    simp only [Nat.mul_zero, Nat.zero_add] at this
    exact this
  obtain ⟨s0, a1, a2⟩ := c_clo hn hb hc.2.2.1 hc.2.2.2.1 hc.2.2.2.2.1 hc.2.2.2.2.2.1 hc.2.2.2.2.2.2 (show 0 ≤ 40 by omega) row0_w (w0 f2)
  obtain ⟨t0, b1, b2⟩ := m_clo hn hb hm.1 hm.2.1 hm.2.2.1 hm.2.2.2 hc.2.2.2.2.2.2 (show 0 ≤ 40 by omega) row0_w (w0 fm)
  have hT : TB lf ln sy us b (fun _ => clo lf ln sy us b row0) (fun _ _ => none) 1 0 0 := ⟨by omega, by omega, fun q _ => (clo_fix hb row0_w).1, rfl, fun q h5 h6 => absurd h6 (by omega), fun q X _ _ h5 => absurd h5 (by omega)⟩
  have r1 : RS (fun _ => clo lf ln sy us b row0) 1 s0 := fun s hs c hc => by
    rw [show s = 0 by omega]; exact a2.1 c hc
  have r2 : RS (fun _ => clo lf ln sy us b row0) 1 t0 := fun s hs c hc => by
    rw [show s = 0 by omega]; exact b2.1 c hc
  have r3 : ∀ f, RT (fun _ _ => none) 0 0 f := fun f q X _ h5 => absurd h5 (by omega)
  -- the reference, up to the first symbol of state 0
  have k1 : ∀ d i k, i + d = 55 → F_Model_compile (nI n) (k + (d + 1)) 1 (nI i) (nI 0) y0 y11 y12 y22 y23 h1 g1 g2 (fl fm (fun _ => nI 0) 0 i) g4 g5 tm g6 g7 = F_Model_compile (nI n) k 2 (nI 0) (nI 0) y0 (nI 1) y12 y22 y23 h1 g1 g2 t0 g4 g5 tm g6 g7 := by
    intro d
    induction d with
    | zero =>
      intro i k hi
      have : i = 55 := by omega
      subst this
      show B_Model_compile_1 (F_Model_compile (nI n) k) (nI n) (nI 55) (nI 0) y0 y11 y12 y22 y23 h1 g1 g2 (fl fm (fun _ => nI 0) 0 55) g4 g5 tm g6 g7 = _
      simp (disch := omega) only [B_Model_compile_1, b1, i_lit, nI_ltI, nI_leI, nI_eq, nI_add, pk_mul, pk_sub, nI_clamp, if_pos, if_neg, if_true, if_false, Option.bind_some, true_or, or_true, false_or, or_false, or_self, not_true_eq_false, not_false_eq_true, i_m1lt, i_m1le, i_nlt1, i_nle1, i_ne1, i_1ne]
    | succ d ih =>
      intro i k hi
      rw [← ih (i + 1) k (by omega)]
      have hu := fl_up fm (fun _ => nI 0) 0 i
      rw [Nat.zero_add] at hu
      show B_Model_compile_1 (F_Model_compile (nI n) (k + (d + 1))) (nI n) (nI i) (nI 0) y0 y11 y12 y22 y23 h1 g1 g2 (fl fm (fun _ => nI 0) 0 i) g4 g5 tm g6 g7 = _
      simp (disch := omega) only [B_Model_compile_1, hu, i_lit, nI_ltI, nI_leI, nI_eq, nI_add, pk_mul, pk_sub, nI_clamp, if_pos, if_neg, if_true, if_false, Option.bind_some, true_or, or_true, false_or, or_false, or_self, not_true_eq_false, not_false_eq_true, i_m1lt, i_m1le, i_nlt1, i_nle1, i_ne1, i_1ne]
  have m3 : ∀ k, F_Model_compile (nI n) (k + 57) 1 (nI 0) (nI 0) y0 y11 y12 y22 y23 h1 g1 g2 fm g4 g5 tm g6 g7 = F_Model_compile (nI n) k 3 (nI 0) (nI 0) y0 (nI 1) y12 y22 y23 h1 g1 g2 t0 g4 g5 tm g6 g7 := by
    intro k
    have := k1 55 0 (k + 1) (by omega)
    rw [fl_0] at this
    rw [show k + 57 = k + 1 + (55 + 1) by omega, this]
    show B_Model_compile_2 (F_Model_compile (nI n) k) (nI n) (nI 0) (nI 0) y0 (nI 1) y12 y22 y23 h1 g1 g2 t0 g4 g5 tm g6 g7 = _
    simp (disch := omega) only [B_Model_compile_2, i_lit, nI_ltI, nI_leI, nI_eq, nI_add, pk_mul, pk_sub, nI_clamp, if_pos, if_neg, if_true, if_false, Option.bind_some, true_or, or_true, false_or, or_false, or_self, not_true_eq_false, not_false_eq_true, i_m1lt, i_m1le, i_nlt1, i_nle1, i_ne1, i_1ne]
  -- the class, up to there
  have hcl := c_clear (show 0 ≤ 40 by omega) (f := f2)
  have mt : ∀ C k, fuel_ = k + C + 1 → S_States_makeTargets (nI 1) s0 f3 f5 f6 f7 f8 f9 = F_States_makeTargets f5 f6 f7 f8 f9 (k + C) 1 (nI 0) (nI 0) (nI 1) s0 f3 := by
    intro C k hk
    rw [S_States_makeTargets, hk]
    show B_States_makeTargets_0 (F_States_makeTargets f5 f6 f7 f8 f9 (k + C)) f5 f6 f7 f8 f9 (nI 0) (nI 0) (nI 1) s0 f3 = _
    simp (disch := omega) only [B_States_makeTargets_0, i_lit, nI_ltI, nI_leI, nI_eq, nI_add, pk_mul, pk_sub, nI_clamp, if_pos, if_neg, if_true, if_false, Option.bind_some, true_or, or_true, false_or, or_false, or_self, not_true_eq_false, not_false_eq_true, i_m1lt, i_m1le, i_nlt1, i_nle1, i_ne1, i_1ne]
  rcases jt (y0 := y0) (y12 := y12) (y22 := y22) (y23 := y23) (h1 := h1) hc hm 520 0 0 (fun _ => clo lf ln sy us b row0) (fun _ _ => none) 1 s0 f3 t0 tm (by omega) (by omega) (by omega) hT r1 r2 (r3 _) (r3 _) with ⟨C1, C2, rows, tg, m, fc, tc, fm', tm', c1, c2, c3, c4, c5, c6, c7, c8, c9⟩ | ⟨C1, C2, z1, z2, z3, fm', tm', c1, c2, c3, c4⟩
  · obtain ⟨k1', hk1⟩ := fuelled (k := C1 + 1) (by omega)
    have hmt : S_States_makeTargets (nI 1) s0 f3 f5 f6 f7 f8 f9 = some (nI 1, nI m, fc, tc) := by
      rw [mt C1 k1' (by omega)]; exact c8 k1'
    have hsh := TB_shp h4 hG.2.2.2.2.1.1 c3
    have hm40 := c3.2.1
    have htl : ∀ q t k, q < m → t < 12 → tg q t = some k → k < 40 := by
      intro q t k hq ht he
      rcases c3.2.2.2.2.2 q t hq ht (Or.inl hq) with ⟨e1, -⟩ | ⟨k', e1, e2, -⟩
      · rw [he] at e1; cases e1
      · rw [he] at e2; cases e2; omega
    have hci : ∀ q, q < m → ((∃ r q' p, r < 11 ∧ q' < 11 ∧ p < 5 ∧ chk ln sy (rows q) r q' p) ↔ CF ln us (rows q) (fun t => if t < 12 then tg q t else none)) := by
      intro q hq
      refine conf_iff h4 (c3.2.2.1 q hq) (hsh q hq) (fun t ht => ?_)
      simp only [if_pos (show t < 12 by omega)]
      rcases c3.2.2.2.2.2 q t hq (by omega) (Or.inl hq) with ⟨e1, e2⟩ | ⟨k', e1, e2, e3, -⟩
      · exact ⟨fun _ => e2, fun _ => e1⟩
      · rw [e2, e3]; simp
    have h5 : ∀ r, r < 11 → ln r ≤ 4 ∧ f8 r = nI (ln r) := fun r hr => ⟨(hc.2.2.2.2.1 r hr).1, (hc.2.2.2.2.1 r hr).2.1⟩
    have hred := c_mr0 (m := m) hm40 h5 hc.2.2.2.2.2.1 c3.2.2.1 c4 c6 htl m 0 f1 (by omega)
    have hmod := m_cf (n := n) (g1 := g1) (g2 := g2) (g4 := g4) (g7 := g7) (h1 := h1) (tm := tm') (y0 := y0) (y12 := y12) (y22 := y22) (y23 := y23) hm.2.2.1 hm40 c3.2.2.1 c5 m 0 (by omega)
    rcases hred with ⟨red, rd, ⟨C, d0, d1⟩, -, d3, d4⟩ | ⟨red, C, d0, d1, q', d2, d3, d4⟩
    · rcases hmod with ⟨e1, e2⟩ | ⟨⟨q', r, q'', p, e1, e2, e3⟩, -⟩
      · left
        have hfol : ∀ k, k < 55 * m → rows (k / 55) (k % 55) < 128 ∧ fc k = nI (rows (k / 55) (k % 55)) ∧ fm' k = nI (rows (k / 55) (k % 55)) := by
          intro k hk
          have hs : k / 55 < m := by omega
          refine ⟨c3.2.2.1 _ hs _, ?_, ?_⟩
          · have := c4 (k / 55) hs (k % 55) (by omega)
            rwa [show 55 * (k / 55) + k % 55 = k by omega] at this
          · have := c5 (k / 55) hs (k % 55) (by omega)
            rwa [show 55 * (k / 55) + k % 55 = k by omega] at this
        obtain ⟨k2, hk2⟩ := fuelled (k := C) (by omega)
        have hmr : S_States_makeReduced (nI m) f1 fc tc f8 f9 = some (nI 1, red) := by rw [S_States_makeReduced, hk2]; exact d1 k2
        obtain ⟨k3, hk3⟩ := fuelled (k := 55 * m + 1) (by omega)
        have hsum := c_sum (f1 := red) (f3 := tc) (f5 := f5) (f6 := f6) (f7 := f7) (f8 := f8) (f9 := f9) (rv := fun k => rows (k / 55) (k % 55)) hm40 (fun k hk => ⟨(hfol k hk).1, (hfol k hk).2.1⟩) (55 * m) 0 k3 (by omega)
        rw [← hk3] at hsum
        refine ⟨m, nI (sm (fun k => rows (k / 55) (k % 55)) (55 * m)), red, fc, tc, fm', tm', m + 1 + C2 + 57, ?_, by omega, fun k => ?_, Or.inr ⟨mkG lf ln sy us b rows tg rd m, mk_ok hG c3 (fun q hq => d4 q (by omega) hq), ?_, ?_, rfl, fun k => rows (k / 55) (k % 55), fun k hk => ⟨(hfol k hk).1, (hfol k hk).2.2⟩, rfl⟩⟩
        · rw [← hsum]
          simp (disch := omega) only [S_States_build, S_States_forget, hcl, Nat.mul_zero, a1, hmt, i_10, hmr, sm, i_lit, nI_ltI, nI_leI, nI_eq, nI_add, pk_mul, pk_sub, nI_clamp, if_pos, if_neg, if_true, if_false, Option.bind_some, true_or, or_true, false_or, or_false, or_self, not_true_eq_false, not_false_eq_true, i_m1lt, i_m1le, i_nlt1, i_nle1, i_ne1, i_1ne]
        · rw [show k + (m + 1 + C2 + 57) = k + (m + 1) + C2 + 57 by omega, m3, c9]
          exact e2 k
        · refine ⟨rfl, hm40, fun q hq t ht => d3 q t (by omega) hq ht, fun q hq X hX => ?_, fun r hu hr => ?_⟩
          · show tc (q * 12 + X) = oI (tg q X)
            rw [show q * 12 + X = 12 * q + X by omega]
            exact c6 q X hX (Or.inl hq)
          · have hrn : r < n := GD_u hG hr hu
            exact ⟨(hc.2.2.2.1 r hrn).2, (h5 r (by omega)).2⟩
        · refine ⟨hm40, fun q hq X hX => c7 q X hX (Or.inl hq), fun r hr => ⟨h4 r (by omega), (hm.2.2.1 r (by omega)).2.1⟩, fun r hu hr => ?_, fun q hq r hr p hp => ⟨rows q (5 * r + p), c3.2.2.1 q hq _, ?_, fun t ht => ⟨fun h => ⟨hr, hp, by omega, h⟩, fun h => h.2.2.2⟩⟩⟩
          · exact (hm.2.1 r (GD_u hG hr hu)).2
          · rw [show 55 * q + 5 * r + p = 55 * q + (5 * r + p) by omega]
            exact c5 q hq (5 * r + p) (by omega)
      · exfalso
        obtain ⟨r1, u, v1, v2, v3, v4, v5⟩ := (hci q' e2).mp ⟨r, q'', p, e3⟩
        have hQ := d4 q' (by omega) e2
        rcases v5 with ⟨v5, v6⟩ | ⟨r2, v5, v6, v7, v8⟩
        · exact v6 (hQ.2 u r1 v5 v1 v2 v4)
        · have x1 := (hQ.1 u r1 v3).mpr ⟨v1, v2, v4⟩
          have x2 := (hQ.1 u r2 v3).mpr ⟨v5, v7, v8⟩
          rw [x1] at x2
          cases x2
          exact v6 rfl
    · rcases hmod with ⟨e1, -⟩ | ⟨-, C', e3, e4⟩
      · exfalso
        obtain ⟨r, q'', p, f1', f2', f3', f4'⟩ := (hci q' d3).mpr d4
        exact e1 q' (by omega) d3 r q'' p f1' f2' f3' f4'
      · right
        obtain ⟨k2, hk2⟩ := fuelled (k := C) (by omega)
        have hmr : S_States_makeReduced (nI m) f1 fc tc f8 f9 = some (nI 0, red) := by rw [S_States_makeReduced, hk2]; exact d1 k2
        refine ⟨red, fc, tc, nI m, fm', tm', C' + C2 + 57, ?_, by omega, fun k => ?_⟩
        · simp (disch := omega) only [S_States_build, S_States_forget, hcl, Nat.mul_zero, a1, hmt, i_10, hmr, i_lit, nI_ltI, nI_leI, nI_eq, nI_add, pk_mul, pk_sub, nI_clamp, if_pos, if_neg, if_true, if_false, Option.bind_some, true_or, or_true, false_or, or_false, or_self, not_true_eq_false, not_false_eq_true, i_m1lt, i_m1le, i_nlt1, i_nle1, i_ne1, i_1ne]
        · rw [show k + (C' + C2 + 57) = k + C' + C2 + 57 by omega, m3, c9]
          exact e4 k
  · obtain ⟨k1', hk1⟩ := fuelled (k := C1 + 1) (by omega)
    have hmt : S_States_makeTargets (nI 1) s0 f3 f5 f6 f7 f8 f9 = some (nI 0, z1, z2, z3) := by
      rw [mt C1 k1' (by omega)]; exact c3 k1'
    right
    refine ⟨f1, z2, z3, nI 41, fm', tm', 1 + C2 + 57, ?_, by omega, fun k => ?_⟩
    · simp (disch := omega) only [S_States_build, S_States_forget, hcl, Nat.mul_zero, a1, hmt, i_lit, nI_ltI, nI_leI, nI_eq, nI_add, pk_mul, pk_sub, nI_clamp, if_pos, if_neg, if_true, if_false, Option.bind_some, true_or, or_true, false_or, or_false, or_self, not_true_eq_false, not_false_eq_true, i_m1lt, i_m1le, i_nlt1, i_nle1, i_ne1, i_1ne]
    · rw [show k + (1 + C2 + 57) = k + 1 + C2 + 57 by omega, m3, c4]
      show B_Model_compile_4 (F_Model_compile (nI n) k) (nI n) (nI 1) (nI 0) y0 (nI 41) y12 y22 y23 h1 g1 g2 fm' g4 g5 tm' g6 g7 = _
      simp (disch := omega) only [B_Model_compile_4, i_10, S_Model_fails, i_lit, nI_ltI, nI_leI, nI_eq, nI_add, pk_mul, pk_sub, nI_clamp, if_pos, if_neg, if_true, if_false, Option.bind_some, true_or, or_true, false_or, or_false, or_self, not_true_eq_false, not_false_eq_true, i_m1lt, i_m1le, i_nlt1, i_nle1, i_ne1, i_1ne]
end
