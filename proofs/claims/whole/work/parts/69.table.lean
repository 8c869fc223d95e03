/-! all states, of both -/
def CC (n : Nat) (lf ln : Nat → Nat) (sy : Nat → Nat → Nat) (us : Nat → Bool) (b : Nat → Nat) (f3 f4 f5 f6 f7 : Nat → Int32) : Prop :=
  n ≤ 10 ∧ wfb b ∧ (∀ x, x < 6 → f3 x = nI (b x)) ∧ GL n lf f4 ∧ GS 11 ln sy f5 f6 ∧ RB 12 us f7 ∧ ∀ r, r < 10 → us r = true → r < n
def CM (n : Nat) (lf ln : Nat → Nat) (sy : Nat → Nat → Nat) (us : Nat → Bool) (b : Nat → Nat) (f1 f2 f4 f5 f6 f7 : Nat → Int32) : Prop :=
  RF b f1 f2 ∧ GLm n lf f4 ∧ GSm 11 ln sy f6 f5 ∧ RB n us f7
section
variable {n : Nat} {lf ln : Nat → Nat} {sy : Nat → Nat → Nat} {us : Nat → Bool} {b : Nat → Nat}
theorem ent {f3 f4 f5 f6 f7 g1 g2 g4 g5 g6 g7 fc fm : Nat → Int32} (hc : CC n lf ln sy us b f3 f4 f5 f6 f7) (hm : CM n lf ln sy us b g1 g2 g4 g5 g6 g7) {q m X : Nat} (hq : q < m) (hm40 : m ≤ 40) (hX : X < 12) {rows : Nat → Nat → Nat} (hw : ∀ s, s < m → wfb (rows s)) (h1 : RS rows m fc) (h2 : RS rows m fm) :
    ((mov ln sy (rows q) X).1 = false ∧ ∃ fc' fm', S_States_enter (nI q) (nI X) (nI m) fc f3 f4 f5 f6 f7 = some (-nI 1, nI m, fc') ∧ S_Model_led (nI q) (nI X) (nI n) (nI m) g1 g2 fm g4 g5 g6 g7 = some (-nI 1, nI m, fm') ∧ RS rows m fc' ∧ RS rows m fm') ∨
    ((mov ln sy (rows q) X).1 = true ∧ ∃ k fc' fm', k < m ∧ (∀ c, c < 55 → rows k c = clo lf ln sy us b (mov ln sy (rows q) X).2 c) ∧ S_States_enter (nI q) (nI X) (nI m) fc f3 f4 f5 f6 f7 = some (nI k, nI m, fc') ∧ S_Model_led (nI q) (nI X) (nI n) (nI m) g1 g2 fm g4 g5 g6 g7 = some (nI k, nI m, fm') ∧ RS rows m fc' ∧ RS rows m fm') ∨
    ((mov ln sy (rows q) X).1 = true ∧ m < 40 ∧ ∃ fc' fm', S_States_enter (nI q) (nI X) (nI m) fc f3 f4 f5 f6 f7 = some (nI m, nI (m + 1), fc') ∧ S_Model_led (nI q) (nI X) (nI n) (nI m) g1 g2 fm g4 g5 g6 g7 = some (nI m, nI (m + 1), fm') ∧ RS (upR rows m (clo lf ln sy us b (mov ln sy (rows q) X).2)) (m + 1) fc' ∧ RS (upR rows m (clo lf ln sy us b (mov ln sy (rows q) X).2)) (m + 1) fm') ∨
    (m = 40 ∧ ∃ fc' fm', S_States_enter (nI q) (nI X) (nI m) fc f3 f4 f5 f6 f7 = some (nI 40, nI m, fc') ∧ S_Model_led (nI q) (nI X) (nI n) (nI m) g1 g2 fm g4 g5 g6 g7 = some (nI 40, nI 41, fm')) := by
  obtain ⟨hn, hb, hf, hl, hs, hu, hus⟩ := hc
  obtain ⟨hf', hl', hs', hu'⟩ := hm
  obtain ⟨a1, a2⟩ := c_ent hn hb hf hl hs hu hus hq hm40 hX hw h1
  obtain ⟨b1, b2⟩ := m_ent hn hb hf' hl' hs' hu' hus hq hm40 hX hw h2
  cases hmv : (mov ln sy (rows q) X).1 with
  | false =>
    obtain ⟨fc', c1, c2⟩ := a1 hmv
    obtain ⟨fm', d1, d2⟩ := b1 hmv
    exact Or.inl ⟨rfl, fc', fm', c1, d1, c2, d2⟩
  | true =>
    obtain ⟨fc', c1, c2⟩ := a2 hmv
    obtain ⟨fm', d1, d2⟩ := b2 hmv
    refine Or.inr ?_
    cases hfd : fnd rows (clo lf ln sy us b (mov ln sy (rows q) X).2) m 0 with
    | some k =>
      rw [hfd] at c2 d2
      obtain ⟨e1, e2, e3⟩ := fnd_some _ _ _ hfd
      exact Or.inl ⟨rfl, k, fc', fm', by omega, e3, c2, d2, RS_RW h1 c1, RS_RW h2 d1⟩
    | none =>
      rw [hfd] at c2 d2
      simp only at c2 d2
      by_cases h40 : m < 40
      · rw [if_pos h40] at c2
        exact Or.inr (Or.inl ⟨rfl, h40, fc', fm', c2, d2, RS_up h1 c1, RS_up h2 d1⟩)
      · rw [if_neg h40] at c2
        have e40 : m = 40 := by omega
        subst e40
        exact Or.inr (Or.inr ⟨rfl, fc', fm', c2, d2⟩)
def row0 : Nat → Nat := upN (fun _ => 0) 50 64
def upT (tg : Nat → Nat → Option Nat) (q X : Nat) (v : Option Nat) : Nat → Nat → Option Nat := fun q' X' => if q' = q ∧ X' = X then v else tg q' X'
theorem upT_s (tg : Nat → Nat → Option Nat) (q X : Nat) (v : Option Nat) : upT tg q X v q X = v := by simp only [upT, and_self, if_true]
theorem upT_n (tg : Nat → Nat → Option Nat) {q X q' X' : Nat} (v : Option Nat) (h : ¬ (q' = q ∧ X' = X)) : upT tg q X v q' X' = tg q' X' := by simp only [upT, if_neg h]
/-- what holds of one target -/
def tsp (lf ln : Nat → Nat) (sy : Nat → Nat → Nat) (us : Nat → Bool) (b : Nat → Nat) (rows : Nat → Nat → Nat) (m q X : Nat) (t : Option Nat) : Prop :=
  (t = none ∧ (mov ln sy (rows q) X).1 = false) ∨ ∃ k, k < m ∧ t = some k ∧ (mov ln sy (rows q) X).1 = true ∧ ∀ c, c < 55 → rows k c = clo lf ln sy us b (mov ln sy (rows q) X).2 c
def TB (lf ln : Nat → Nat) (sy : Nat → Nat → Nat) (us : Nat → Bool) (b : Nat → Nat) (rows : Nat → Nat → Nat) (tg : Nat → Nat → Option Nat) (m s x : Nat) : Prop :=
  0 < m ∧ m ≤ 40 ∧ (∀ q, q < m → wfb (rows q)) ∧ rows 0 = clo lf ln sy us b row0 ∧ (∀ q, 0 < q → q < m → ∃ q' X, q' < q ∧ X < 12 ∧ (mov ln sy (rows q') X).1 = true ∧ rows q = clo lf ln sy us b (mov ln sy (rows q') X).2) ∧
  ∀ q X, q < m → X < 12 → (q < s ∨ (q = s ∧ X < x)) → tsp lf ln sy us b rows m q X (tg q X)
/-- the targets as the arrays hold them -/
def RT (tg : Nat → Nat → Option Nat) (s x : Nat) (f : Nat → Int32) : Prop := ∀ q X, X < 12 → (q < s ∨ (q = s ∧ X < x)) → f (12 * q + X) = oI (tg q X)
theorem RT_up {tg : Nat → Nat → Option Nat} {s x : Nat} {f : Nat → Int32} (h : RT tg s x f) (v : Option Nat) (hx : x < 12) : RT (upT tg s x v) s (x + 1) (upd f (12 * s + x) (oI v)) := by
  intro q X hX hq
  by_cases e : q = s ∧ X = x
  · rw [e.1, e.2, upT_s, pk_us]
  · rw [upT_n tg v e, pk_un (by omega)]
    exact h q X hX (by omega)
theorem TB_up {rows : Nat → Nat → Nat} {tg : Nat → Nat → Option Nat} {m s x : Nat} (h : TB lf ln sy us b rows tg m s x) (v : Option Nat) (hv : tsp lf ln sy us b rows m s x v) : TB lf ln sy us b rows (upT tg s x v) m s (x + 1) := by
  obtain ⟨h1, h2, h3, h4, h5, h6⟩ := h
  refine ⟨h1, h2, h3, h4, h5, fun q X hq hX hh => ?_⟩
  by_cases e : q = s ∧ X = x
  · rw [e.1, e.2, upT_s]; exact hv
  · rw [upT_n tg v e]; exact h6 q X hq hX (by omega)
theorem TB_new (hb : wfb b) {rows : Nat → Nat → Nat} {tg : Nat → Nat → Option Nat} {m s x : Nat} (h : TB lf ln sy us b rows tg m s x) (hs : s < m) (hx : x < 12) (hm : m < 40) (hmv : (mov ln sy (rows s) x).1 = true) : TB lf ln sy us b (upR rows m (clo lf ln sy us b (mov ln sy (rows s) x).2)) (upT tg s x (some m)) (m + 1) s (x + 1) := by
  obtain ⟨h1, h2, h3, h4, h5, h6⟩ := h
  have old : ∀ q, q < m → upR rows m (clo lf ln sy us b (mov ln sy (rows s) x).2) q = rows q := fun q hq => upR_n rows _ (by omega)
  refine ⟨by omega, by omega, fun q hq => ?_, by rw [old 0 (by omega)]; exact h4, fun q hq0 hq => ?_, fun q X hq hX hh => ?_⟩
  · by_cases e : q = m
    · rw [e, upR_s]; exact (clo_fix hb (mov_w (h3 s hs))).1
    · rw [old q (by omega)]; exact h3 q (by omega)
  · by_cases e : q = m
    · exact ⟨s, x, by omega, hx, by rw [old s hs]; exact hmv, by rw [e, upR_s, old s hs]⟩
    · obtain ⟨q', X, c1, c2, c3, c4⟩ := h5 q hq0 (by omega)
      exact ⟨q', X, c1, c2, by rw [old q' (by omega)]; exact c3, by rw [old q (by omega), old q' (by omega)]; exact c4⟩
  · have hqm : q < m := by omega
    by_cases e : q = s ∧ X = x
    · rw [e.1, e.2, upT_s]
      exact Or.inr ⟨m, by omega, rfl, by rw [old s hs]; exact hmv, fun c hc => by rw [upR_s, old s hs]⟩
    · rw [upT_n tg _ e]
      rcases h6 q X hqm hX (by omega) with ⟨c1, c2⟩ | ⟨k, c1, c2, c3, c4⟩
      · exact Or.inl ⟨c1, by rw [old q hqm]; exact c2⟩
      · exact Or.inr ⟨k, by omega, c2, by rw [old q hqm]; exact c3, fun c hc => by rw [old k c1, old q hqm]; exact c4 c hc⟩
/-- how both come to an end of it -/
def jtR (n : Nat) (lf ln : Nat → Nat) (sy : Nat → Nat → Nat) (us : Nat → Bool) (b : Nat → Nat) (f3 f4 f5 f6 f7 g1 g2 g4 g5 g6 g7 h1 : Nat → Int32) (y0 y12 y22 y23 : Int32) (B s x m : Nat) (fc tc fm tm : Nat → Int32) : Prop :=
    (∃ C1 C2 rows' tg' m' fc' tc' fm' tm', C1 ≤ B ∧ C2 ≤ B ∧ TB lf ln sy us b rows' tg' m' m' 0 ∧ RS rows' m' fc' ∧ RS rows' m' fm' ∧ RT tg' m' 0 tc' ∧ RT tg' m' 0 tm' ∧
      (∀ k, F_States_makeTargets f3 f4 f5 f6 f7 (k + C1) 1 (nI s) (nI x) (nI m) fc tc = some (nI 1, nI m', fc', tc')) ∧
      (∀ k, F_Model_compile (nI n) (k + C2) 3 (nI s) (nI x) y0 (nI m) y12 y22 y23 h1 g1 g2 fm g4 g5 tm g6 g7 = F_Model_compile (nI n) k 4 (nI 0) (nI 0) y0 (nI m') y12 y22 y23 h1 g1 g2 fm' g4 g5 tm' g6 g7)) ∨
    (∃ C1 C2 z1 z2 z3 fm' tm', C1 ≤ B ∧ C2 ≤ B ∧
      (∀ k, F_States_makeTargets f3 f4 f5 f6 f7 (k + C1) 1 (nI s) (nI x) (nI m) fc tc = some (nI 0, z1, z2, z3)) ∧
      (∀ k, F_Model_compile (nI n) (k + C2) 3 (nI s) (nI x) y0 (nI m) y12 y22 y23 h1 g1 g2 fm g4 g5 tm g6 g7 = F_Model_compile (nI n) k 4 (nI 1) (nI 0) y0 (nI 41) y12 y22 y23 h1 g1 g2 fm' g4 g5 tm' g6 g7))
theorem jt {f3 f4 f5 f6 f7 g1 g2 g4 g5 g6 g7 h1 : Nat → Int32} {y0 y12 y22 y23 : Int32} (hc : CC n lf ln sy us b f3 f4 f5 f6 f7) (hm : CM n lf ln sy us b g1 g2 g4 g5 g6 g7) : ∀ D s x rows tg m fc tc fm tm, 13 * s + x + D = 520 → s < m → x ≤ 12 → TB lf ln sy us b rows tg m s x → RS rows m fc → RS rows m fm → RT tg s x tc → RT tg s x tm →
    jtR n lf ln sy us b f3 f4 f5 f6 f7 g1 g2 g4 g5 g6 g7 h1 y0 y12 y22 y23 (2 * D + 2) s x m fc tc fm tm
  | 0, s, x, rows, tg, m, fc, tc, fm, tm, hD, hs, hx, hT, r1, r2, r3, r4 => absurd hT.2.1 (by omega)
  | D + 1, s, x, rows, tg, m, fc, tc, fm, tm, hD, hs, hx, hT, r1, r2, r3, r4 => by
    have hm40 := hT.2.1
    by_cases ex : x = 12
    · subst ex
      have sc : ∀ k, F_States_makeTargets f3 f4 f5 f6 f7 (k + 1) 1 (nI s) (nI 12) (nI m) fc tc = F_States_makeTargets f3 f4 f5 f6 f7 k 0 (nI (s + 1)) (nI 0) (nI m) fc tc := by
        intro k
        show B_States_makeTargets_1 (F_States_makeTargets f3 f4 f5 f6 f7 k) f3 f4 f5 f6 f7 (nI s) (nI 12) (nI m) fc tc = _
        simp (disch := omega) only [B_States_makeTargets_1, i_lit, nI_ltI, nI_leI, nI_eq, nI_add, pk_mul, pk_sub, nI_clamp, if_pos, if_neg, if_true, if_false, Option.bind_some, true_or, or_true, false_or, or_false, or_self, not_true_eq_false, not_false_eq_true, i_m1lt, i_m1le, i_nlt1, i_nle1, i_ne1, i_1ne]
      have sm : ∀ k, F_Model_compile (nI n) (k + 1) 3 (nI s) (nI 12) y0 (nI m) y12 y22 y23 h1 g1 g2 fm g4 g5 tm g6 g7 = F_Model_compile (nI n) k 2 (nI (s + 1)) (nI 0) y0 (nI m) y12 y22 y23 h1 g1 g2 fm g4 g5 tm g6 g7 := by
        intro k
        show B_Model_compile_3 (F_Model_compile (nI n) k) (nI n) (nI s) (nI 12) y0 (nI m) y12 y22 y23 h1 g1 g2 fm g4 g5 tm g6 g7 = _
        simp (disch := omega) only [B_Model_compile_3, i_lit, nI_ltI, nI_leI, nI_eq, nI_add, pk_mul, pk_sub, nI_clamp, if_pos, if_neg, if_true, if_false, Option.bind_some, true_or, or_true, false_or, or_false, or_self, not_true_eq_false, not_false_eq_true, i_m1lt, i_m1le, i_nlt1, i_nle1, i_ne1, i_1ne]
      have hT' : TB lf ln sy us b rows tg m (s + 1) 0 := ⟨hT.1, hT.2.1, hT.2.2.1, hT.2.2.2.1, hT.2.2.2.2.1, fun q X hq hX hh => hT.2.2.2.2.2 q X hq hX (by omega)⟩
      have r3' : RT tg (s + 1) 0 tc := fun q X hX hh => r3 q X hX (by omega)
      have r4' : RT tg (s + 1) 0 tm := fun q X hX hh => r4 q X hX (by omega)
      by_cases e : s + 1 = m
      · rw [e] at hT' r3' r4'
        refine Or.inl ⟨2, 2, rows, tg, m, fc, tc, fm, tm, by omega, by omega, hT', r1, r2, r3', r4', fun k => ?_, fun k => ?_⟩
        · rw [show k + 2 = k + 1 + 1 by omega, sc]
          show B_States_makeTargets_0 (F_States_makeTargets f3 f4 f5 f6 f7 k) f3 f4 f5 f6 f7 (nI (s + 1)) (nI 0) (nI m) fc tc = _
          simp (disch := omega) only [B_States_makeTargets_0, i_lit, nI_ltI, nI_leI, nI_eq, nI_add, pk_mul, pk_sub, nI_clamp, if_pos, if_neg, if_true, if_false, Option.bind_some, true_or, or_true, false_or, or_false, or_self, not_true_eq_false, not_false_eq_true, i_m1lt, i_m1le, i_nlt1, i_nle1, i_ne1, i_1ne]
        · rw [show k + 2 = k + 1 + 1 by omega, sm]
          show B_Model_compile_2 (F_Model_compile (nI n) k) (nI n) (nI (s + 1)) (nI 0) y0 (nI m) y12 y22 y23 h1 g1 g2 fm g4 g5 tm g6 g7 = _
          simp (disch := omega) only [B_Model_compile_2, i_lit, nI_ltI, nI_leI, nI_eq, nI_add, pk_mul, pk_sub, nI_clamp, if_pos, if_neg, if_true, if_false, Option.bind_some, true_or, or_true, false_or, or_false, or_self, not_true_eq_false, not_false_eq_true, i_m1lt, i_m1le, i_nlt1, i_nle1, i_ne1, i_1ne]
      · have sc2 : ∀ k, F_States_makeTargets f3 f4 f5 f6 f7 (k + 2) 1 (nI s) (nI 12) (nI m) fc tc = F_States_makeTargets f3 f4 f5 f6 f7 k 1 (nI (s + 1)) (nI 0) (nI m) fc tc := by
          intro k
          rw [show k + 2 = k + 1 + 1 by omega, sc]
          show B_States_makeTargets_0 (F_States_makeTargets f3 f4 f5 f6 f7 k) f3 f4 f5 f6 f7 (nI (s + 1)) (nI 0) (nI m) fc tc = _
          simp (disch := omega) only [B_States_makeTargets_0, i_lit, nI_ltI, nI_leI, nI_eq, nI_add, pk_mul, pk_sub, nI_clamp, if_pos, if_neg, if_true, if_false, Option.bind_some, true_or, or_true, false_or, or_false, or_self, not_true_eq_false, not_false_eq_true, i_m1lt, i_m1le, i_nlt1, i_nle1, i_ne1, i_1ne]
        have sm2 : ∀ k, F_Model_compile (nI n) (k + 2) 3 (nI s) (nI 12) y0 (nI m) y12 y22 y23 h1 g1 g2 fm g4 g5 tm g6 g7 = F_Model_compile (nI n) k 3 (nI (s + 1)) (nI 0) y0 (nI m) y12 y22 y23 h1 g1 g2 fm g4 g5 tm g6 g7 := by
          intro k
          rw [show k + 2 = k + 1 + 1 by omega, sm]
          show B_Model_compile_2 (F_Model_compile (nI n) k) (nI n) (nI (s + 1)) (nI 0) y0 (nI m) y12 y22 y23 h1 g1 g2 fm g4 g5 tm g6 g7 = _
          simp (disch := omega) only [B_Model_compile_2, i_lit, nI_ltI, nI_leI, nI_eq, nI_add, pk_mul, pk_sub, nI_clamp, if_pos, if_neg, if_true, if_false, Option.bind_some, true_or, or_true, false_or, or_false, or_self, not_true_eq_false, not_false_eq_true, i_m1lt, i_m1le, i_nlt1, i_nle1, i_ne1, i_1ne]
        rcases jt (y0 := y0) (y12 := y12) (y22 := y22) (y23 := y23) (h1 := h1) hc hm D (s + 1) 0 rows tg m fc tc fm tm (by omega) (by omega) (by omega) hT' r1 r2 r3' r4' with ⟨C1, C2, rows', tg', m', fc', tc', fm', tm', c1, c2, c3, c4, c5, c6, c7, c8, c9⟩ | ⟨C1, C2, z1, z2, z3, fm', tm', c1, c2, c3, c4⟩
        · exact Or.inl ⟨C1 + 2, C2 + 2, rows', tg', m', fc', tc', fm', tm', by omega, by omega, c3, c4, c5, c6, c7, fun k => by rw [show k + (C1 + 2) = k + C1 + 2 by omega, sc2]; exact c8 k, fun k => by rw [show k + (C2 + 2) = k + C2 + 2 by omega, sm2]; exact c9 k⟩
        · exact Or.inr ⟨C1 + 2, C2 + 2, z1, z2, z3, fm', tm', by omega, by omega, fun k => by rw [show k + (C1 + 2) = k + C1 + 2 by omega, sc2]; exact c3 k, fun k => by rw [show k + (C2 + 2) = k + C2 + 2 by omega, sm2]; exact c4 k⟩
    · have hx12 : x < 12 := by omega
      have ei : s * 12 + x = 12 * s + x := by omega
      have go : ∀ (v : Option Nat) m' fc' fm' rows' , (v = none ∨ ∃ k, v = some k ∧ k < 40) → S_States_enter (nI s) (nI x) (nI m) fc f3 f4 f5 f6 f7 = some (oI v, nI m', fc') → S_Model_led (nI s) (nI x) (nI n) (nI m) g1 g2 fm g4 g5 g6 g7 = some (oI v, nI m', fm') → s < m' → m' ≤ 40 → TB lf ln sy us b rows' (upT tg s x v) m' s (x + 1) → RS rows' m' fc' → RS rows' m' fm' → jtR n lf ln sy us b f3 f4 f5 f6 f7 g1 g2 g4 g5 g6 g7 h1 y0 y12 y22 y23 (2 * (D + 1) + 2) s x m fc tc fm tm := by
        intro v m' fc' fm' rows' hv e1 e2 hs' hm' t1 t2 t3
        have sc : ∀ k, F_States_makeTargets f3 f4 f5 f6 f7 (k + 1) 1 (nI s) (nI x) (nI m) fc tc = F_States_makeTargets f3 f4 f5 f6 f7 k 1 (nI s) (nI (x + 1)) (nI m') fc' (upd tc (12 * s + x) (oI v)) := by
          intro k
          show B_States_makeTargets_1 (F_States_makeTargets f3 f4 f5 f6 f7 k) f3 f4 f5 f6 f7 (nI s) (nI x) (nI m) fc tc = _
          have hne : ¬ oI v = nI 40 := by
            rcases hv with rfl | ⟨k, rfl, hk⟩
            · rw [oI_n]; exact i_1ne (by omega)
            · rw [oI_s]; rw [nI_eq (by omega) (by omega)]; omega
          simp (disch := omega) only [B_States_makeTargets_1, e1, hne, ei, i_lit, nI_ltI, nI_leI, nI_eq, nI_add, pk_mul, pk_sub, nI_clamp, if_pos, if_neg, if_true, if_false, Option.bind_some, true_or, or_true, false_or, or_false, or_self, not_true_eq_false, not_false_eq_true, i_m1lt, i_m1le, i_nlt1, i_nle1, i_ne1, i_1ne]
        have sm : ∀ k, F_Model_compile (nI n) (k + 1) 3 (nI s) (nI x) y0 (nI m) y12 y22 y23 h1 g1 g2 fm g4 g5 tm g6 g7 = F_Model_compile (nI n) k 3 (nI s) (nI (x + 1)) y0 (nI m') y12 y22 y23 h1 g1 g2 fm' g4 g5 (upd tm (12 * s + x) (oI v)) g6 g7 := by
          intro k
          show B_Model_compile_3 (F_Model_compile (nI n) k) (nI n) (nI s) (nI x) y0 (nI m) y12 y22 y23 h1 g1 g2 fm g4 g5 tm g6 g7 = _
          simp (disch := omega) only [B_Model_compile_3, e2, i_lit, nI_ltI, nI_leI, nI_eq, nI_add, pk_mul, pk_sub, nI_clamp, if_pos, if_neg, if_true, if_false, Option.bind_some, true_or, or_true, false_or, or_false, or_self, not_true_eq_false, not_false_eq_true, i_m1lt, i_m1le, i_nlt1, i_nle1, i_ne1, i_1ne]
        rcases jt (y0 := y0) (y12 := y12) (y22 := y22) (y23 := y23) (h1 := h1) hc hm D s (x + 1) rows' (upT tg s x v) m' fc' (upd tc (12 * s + x) (oI v)) fm' (upd tm (12 * s + x) (oI v)) (by omega) hs' (by omega) t1 t2 t3 (RT_up r3 v hx12) (RT_up r4 v hx12) with ⟨C1, C2, rows', tg', m', fc', tc', fm', tm', c1, c2, c3, c4, c5, c6, c7, c8, c9⟩ | ⟨C1, C2, z1, z2, z3, fm', tm', c1, c2, c3, c4⟩
        · exact Or.inl ⟨C1 + 1, C2 + 1, rows', tg', m', fc', tc', fm', tm', by omega, by omega, c3, c4, c5, c6, c7, fun k => by rw [show k + (C1 + 1) = k + C1 + 1 by omega, sc]; exact c8 k, fun k => by rw [show k + (C2 + 1) = k + C2 + 1 by omega, sm]; exact c9 k⟩
        · exact Or.inr ⟨C1 + 1, C2 + 1, z1, z2, z3, fm', tm', by omega, by omega, fun k => by rw [show k + (C1 + 1) = k + C1 + 1 by omega, sc]; exact c3 k, fun k => by rw [show k + (C2 + 1) = k + C2 + 1 by omega, sm]; exact c4 k⟩
      rcases ent hc hm hs hm40 hx12 hT.2.2.1 r1 r2 with ⟨e0, fc', fm', e1, e2, e3, e4⟩ | ⟨e0, k, fc', fm', ek, ek2, e1, e2, e3, e4⟩ | ⟨e0, e40, fc', fm', e1, e2, e3, e4⟩ | ⟨e40, fc', fm', e1, e2⟩
      · exact go none m fc' fm' rows (Or.inl rfl) e1 e2 hs hm40 (TB_up hT none (Or.inl ⟨rfl, e0⟩)) e3 e4
      · exact go (some k) m fc' fm' rows (Or.inr ⟨k, rfl, by omega⟩) e1 e2 hs hm40 (TB_up hT (some k) (Or.inr ⟨k, ek, rfl, e0, ek2⟩)) e3 e4
      · exact go (some m) (m + 1) fc' fm' _ (Or.inr ⟨m, rfl, e40⟩) e1 e2 (by omega) (by omega) (TB_new hc.2.1 hT hs hx12 e40 e0) e3 e4
      · subst e40
        refine Or.inr ⟨1, 3, nI 40, fc', tc, fm', upd tm (12 * s + x) (nI 40), by omega, by omega, fun k => ?_, fun k => ?_⟩
        · show B_States_makeTargets_1 (F_States_makeTargets f3 f4 f5 f6 f7 k) f3 f4 f5 f6 f7 (nI s) (nI x) (nI 40) fc tc = _
          simp (disch := omega) only [B_States_makeTargets_1, e1, i_lit, nI_ltI, nI_leI, nI_eq, nI_add, pk_mul, pk_sub, nI_clamp, if_pos, if_neg, if_true, if_false, Option.bind_some, true_or, or_true, false_or, or_false, or_self, not_true_eq_false, not_false_eq_true, i_m1lt, i_m1le, i_nlt1, i_nle1, i_ne1, i_1ne]
        · have sm : F_Model_compile (nI n) (k + 3) 3 (nI s) (nI x) y0 (nI 40) y12 y22 y23 h1 g1 g2 fm g4 g5 tm g6 g7 = F_Model_compile (nI n) (k + 2) 3 (nI s) (nI (x + 1)) y0 (nI 41) y12 y22 y23 h1 g1 g2 fm' g4 g5 (upd tm (12 * s + x) (nI 40)) g6 g7 := by
            show B_Model_compile_3 (F_Model_compile (nI n) (k + 2)) (nI n) (nI s) (nI x) y0 (nI 40) y12 y22 y23 h1 g1 g2 fm g4 g5 tm g6 g7 = _
            simp (disch := omega) only [B_Model_compile_3, e2, i_lit, nI_ltI, nI_leI, nI_eq, nI_add, pk_mul, pk_sub, nI_clamp, if_pos, if_neg, if_true, if_false, Option.bind_some, true_or, or_true, false_or, or_false, or_self, not_true_eq_false, not_false_eq_true, i_m1lt, i_m1le, i_nlt1, i_nle1, i_ne1, i_1ne]
          have sm2 : F_Model_compile (nI n) (k + 2) 3 (nI s) (nI (x + 1)) y0 (nI 41) y12 y22 y23 h1 g1 g2 fm' g4 g5 (upd tm (12 * s + x) (nI 40)) g6 g7 = F_Model_compile (nI n) (k + 1) 2 (nI (s + 1)) (nI 0) y0 (nI 41) y12 y22 y23 h1 g1 g2 fm' g4 g5 (upd tm (12 * s + x) (nI 40)) g6 g7 := by
            show B_Model_compile_3 (F_Model_compile (nI n) (k + 1)) (nI n) (nI s) (nI (x + 1)) y0 (nI 41) y12 y22 y23 h1 g1 g2 fm' g4 g5 (upd tm (12 * s + x) (nI 40)) g6 g7 = _
            by_cases e12 : 12 ≤ x + 1
            · simp (disch := omega) only [B_Model_compile_3, i_lit, nI_ltI, nI_leI, nI_eq, nI_add, pk_mul, pk_sub, nI_clamp, if_pos, if_neg, if_true, if_false, Option.bind_some, true_or, or_true, false_or, or_false, or_self, not_true_eq_false, not_false_eq_true, i_m1lt, i_m1le, i_nlt1, i_nle1, i_ne1, i_1ne]
            · simp (disch := omega) only [B_Model_compile_3, i_lit, nI_ltI, nI_leI, nI_eq, nI_add, pk_mul, pk_sub, nI_clamp, if_pos, if_neg, if_true, if_false, Option.bind_some, true_or, or_true, false_or, or_false, or_self, not_true_eq_false, not_false_eq_true, i_m1lt, i_m1le, i_nlt1, i_nle1, i_ne1, i_1ne]
          rw [sm, sm2]
          show B_Model_compile_2 (F_Model_compile (nI n) k) (nI n) (nI (s + 1)) (nI 0) y0 (nI 41) y12 y22 y23 h1 g1 g2 fm' g4 g5 (upd tm (12 * s + x) (nI 40)) g6 g7 = _
          simp (disch := omega) only [B_Model_compile_2, i_lit, nI_ltI, nI_leI, nI_eq, nI_add, pk_mul, pk_sub, nI_clamp, if_pos, if_neg, if_true, if_false, Option.bind_some, true_or, or_true, false_or, or_false, or_self, not_true_eq_false, not_false_eq_true, i_m1lt, i_m1le, i_nlt1, i_nle1, i_ne1, i_1ne]
end
