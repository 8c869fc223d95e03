/-! the class's stacks -/
def sr (C : Nat → Int32) (b : Nat) : List Nat → Prop
  | [] => True
  | q :: S => C (b + S.length) = nI q ∧ sr C b S
theorem sr_drop {C : Nat → Int32} {b : Nat} : ∀ (k : Nat) (S : List Nat), sr C b S → sr C b (S.drop k)
  | 0, S, h => h
  | k + 1, [], h => h
  | k + 1, q :: S, h => sr_drop k S h.2
theorem sr_up {C : Nat → Int32} {b j : Nat} {v : Int32} : ∀ (S : List Nat), b + S.length ≤ j → sr C b S → sr (upd C j v) b S
  | [], _, h => trivial
  | q :: S, hj, h => by
    simp only [List.length_cons] at hj
    exact ⟨by rw [pk_un (by omega)]; exact h.1, sr_up S (by omega) h.2⟩
theorem sr_cong {C C' : Nat → Int32} {b : Nat} : ∀ (S : List Nat), (∀ j, b ≤ j → j < b + S.length → C' j = C j) → sr C b S → sr C' b S
  | [], _, h => trivial
  | q :: S, hj, h => ⟨by rw [hj _ (by omega) (by simp only [List.length_cons]; omega)]; exact h.1, sr_cong S (fun j h1 h2 => hj j h1 (by simp only [List.length_cons]; omega)) h.2⟩
/-- stack d holds S -/
def SR (C H : Nat → Int32) (d : Nat) (S : List Nat) : Prop := H d = nI S.length ∧ S.length ≤ 400 ∧ sr C (d * 512) S
def fr (C H C' H' : Nat → Int32) (d : Nat) : Prop := (∀ j, ¬ (d * 512 ≤ j ∧ j < d * 512 + 512) → C' j = C j) ∧ ∀ j, j ≠ d → H' j = H j
theorem fr_refl (C H : Nat → Int32) (d : Nat) : fr C H C H d := ⟨fun _ _ => rfl, fun _ _ => rfl⟩
theorem fr_trans {C H C1 H1 C2 H2 : Nat → Int32} {d : Nat} (h1 : fr C H C1 H1 d) (h2 : fr C1 H1 C2 H2 d) : fr C H C2 H2 d := ⟨fun j hj => (h2.1 j hj).trans (h1.1 j hj), fun j hj => (h2.2 j hj).trans (h1.2 j hj)⟩
theorem SR_fr {C H C' H' : Nat → Int32} {d d' : Nat} {S : List Nat} (h : SR C H d S) (hf : fr C H C' H' d') (hd : d ≠ d') : SR C' H' d S := by
  refine ⟨by rw [hf.2 d hd]; exact h.1, h.2.1, sr_cong S (fun j h1 h2 => hf.1 j ?_) h.2.2⟩
  have := h.2.1
  rcases Nat.lt_or_gt_of_ne hd with h3 | h3 <;> omega
def TC (g : LRD) (X : Int32) (lef siz red tgt : Nat → Int32) : Prop := X = nI g.m ∧ g.m ≤ 40 ∧ (∀ q, q < g.m → ∀ t, t < 7 → red (q * 7 + t) = oI (g.rd q t)) ∧ (∀ q, q < g.m → ∀ X, X < 12 → tgt (q * 12 + X) = oI (g.tg q X)) ∧ ∀ r, g.us r → r < 10 → lef r = nI (6 + g.lf r) ∧ siz r = nI (g.ln r)
theorem oI_n : oI none = -nI 1 := rfl
theorem oI_s (k : Nat) : oI (some k) = nI k := rfl
theorem i_n01 : ¬ nI 0 ≤ -nI 1 := by decide
theorem c_top {C H : Nat → Int32} {d q : Nat} {S : List Nat} (hd : d < 8) (h : SR C H d (q :: S)) : S_Stacks_topOf (nI d) C H = some (nI q) := by
  obtain ⟨h1, h2, h3, -⟩ := h
  simp only [List.length_cons] at h1 h2
  have e : d * 512 + (S.length + 1) - 1 = d * 512 + S.length := by omega
  simp (disch := omega) only [S_Stacks_topOf, h1, e, h3, i_lit, nI_ltI, nI_leI, nI_eq, nI_add, pk_mul, pk_sub, nI_clamp, if_pos, if_neg, if_true, if_false, Option.bind_some, true_or, or_true, false_or, or_false, or_self, not_true_eq_false, not_false_eq_true, i_m1lt, i_m1le, i_nlt1, i_nle1, i_ne1, i_1ne]
theorem c_red {g : LRD} {X : Int32} {lef siz red tgt : Nat → Int32} (h : TC g X lef siz red tgt) {q t : Nat} (hq : q < g.m) (ht : t < 7) : S_States_reducedBy (nI q) (nI t) X red = some (oI (g.rd q t)) := by
  obtain ⟨rfl, h2, h3, h4, h5⟩ := h
  simp (disch := omega) only [S_States_reducedBy, h3 q hq t ht, i_lit, nI_ltI, nI_leI, nI_eq, nI_add, pk_mul, pk_sub, nI_clamp, if_pos, if_neg, if_true, if_false, Option.bind_some, true_or, or_true, false_or, or_false, or_self, not_true_eq_false, not_false_eq_true, i_m1lt, i_m1le, i_nlt1, i_nle1, i_ne1, i_1ne]
theorem c_tgt {g : LRD} {X : Int32} {lef siz red tgt : Nat → Int32} (h : TC g X lef siz red tgt) {q x : Nat} (hq : q < g.m) (hx : x < 12) : S_States_targetOf (nI q) (nI x) X tgt = some (oI (g.tg q x)) := by
  obtain ⟨rfl, h2, h3, h4, h5⟩ := h
  simp (disch := omega) only [S_States_targetOf, h4 q hq x hx, i_lit, nI_ltI, nI_leI, nI_eq, nI_add, pk_mul, pk_sub, nI_clamp, if_pos, if_neg, if_true, if_false, Option.bind_some, true_or, or_true, false_or, or_false, or_self, not_true_eq_false, not_false_eq_true, i_m1lt, i_m1le, i_nlt1, i_nle1, i_ne1, i_1ne]
theorem c_rep {g : LRD} (hg : g.ok) {X : Int32} {lef siz red tgt C H : Nat → Int32} (h : TC g X lef siz red tgt) {d k q0 q1 x n : Nat} {S S0 : List Nat} (hd : d < 8) (hS : SR C H d S) (hk : S.drop k = q0 :: S0) (hq : q0 < g.m) (hx : x < 12) (ht : g.tg q0 x = some q1) (hl : S0.length + 2 ≤ 400) (hq1 : q1 < n) (hn : n ≤ 40) :
    ∃ C' H', S_Stacks_replace (nI d) (nI k) (nI x) C H X tgt = some (nI 1, C', H') ∧ SR C' H' d (q1 :: q0 :: S0) ∧ fr C H C' H' d := by
  have hlen : S0.length + 1 = S.length - k := by rw [← List.length_drop, hk]; rfl
  obtain ⟨h1, h2, h3⟩ := hS
  have h4 := sr_drop k S h3
  rw [hk] at h4
  have e0 : S.length - k = S0.length + 1 := by omega
  have e1 : d * 512 + (S0.length + 1) - 1 = d * 512 + S0.length := by omega
  have e2 : S0.length + 1 + 1 = S0.length + 2 := by omega
  refine ⟨upd C (d * 512 + (S0.length + 1)) (nI q1), upd H d (nI (S0.length + 2)), ?_, ⟨by rw [pk_us]; simp only [List.length_cons], by simp only [List.length_cons]; omega, ?_⟩, ?_⟩
  · have h5 : sr C (d * 512) (q0 :: S0) := h4
    have h6 := h5.1
    have htg := c_tgt h hq hx
    rw [ht, oI_s] at htg
    simp (disch := omega) only [S_Stacks_replace, h1, e0, e1, h6, htg, e2, i_lit, nI_ltI, nI_leI, nI_eq, nI_add, pk_mul, pk_sub, nI_clamp, if_pos, if_neg, if_true, if_false, Option.bind_some, true_or, or_true, false_or, or_false, or_self, not_true_eq_false, not_false_eq_true, i_m1lt, i_m1le, i_nlt1, i_nle1, i_ne1, i_1ne]
  · exact ⟨pk_us, sr_up (q0 :: S0) (by simp only [List.length_cons]; omega) h4⟩
  · exact ⟨fun j hj => pk_un (by omega), fun j hj => pk_un hj⟩
theorem c_copy {C H : Nat → Int32} {d1 d2 : Nat} {S : List Nat} (h1 : d1 < 8) (h2 : d2 < 8) (hS : SR C H d1 S) : ∃ C' H', S_Stacks_copy (nI d1) (nI d2) C H = some (C', H') ∧ SR C' H' d2 S ∧ fr C H C' H' d2 := by
  obtain ⟨a1, a2, a3⟩ := hS
  by_cases e : d1 = d2
  · subst e
    exact ⟨C, H, by simp (disch := omega) only [S_Stacks_copy, i_lit, nI_ltI, nI_leI, nI_eq, nI_add, pk_mul, pk_sub, nI_clamp, if_pos, if_neg, if_true, if_false, Option.bind_some, true_or, or_true, false_or, or_false, or_self, not_true_eq_false, not_false_eq_true, i_m1lt, i_m1le, i_nlt1, i_nle1, i_ne1, i_1ne], ⟨a1, a2, a3⟩, fr_refl C H d1⟩
  · refine ⟨va_cpy C C (d1 * 512) (d2 * 512) S.length, upd H d2 (nI S.length), ?_, ⟨pk_us, a2, ?_⟩, ?_⟩
    · simp (disch := omega) only [S_Stacks_copy, a1, i_lit, nI_ltI, nI_leI, nI_eq, nI_add, pk_mul, pk_sub, nI_clamp, if_pos, if_neg, if_true, if_false, Option.bind_some, true_or, or_true, false_or, or_false, or_self, not_true_eq_false, not_false_eq_true, i_m1lt, i_m1le, i_nlt1, i_nle1, i_ne1, i_1ne]
    · have : ∀ (T : List Nat), T.length ≤ S.length → sr C (d1 * 512) T → sr (va_cpy C C (d1 * 512) (d2 * 512) S.length) (d2 * 512) T := by
        intro T
        induction T with
        | nil => intro _ _; trivial
        | cons q T ih =>
          intro hl hT
          simp only [List.length_cons] at hl
          refine ⟨?_, ih (by omega) hT.2⟩
          rw [pk_cpy_in (by omega) (by omega), show d1 * 512 + (d2 * 512 + T.length - d2 * 512) = d1 * 512 + T.length by omega]
          exact hT.1
      exact this S (Nat.le_refl _) a3
    · exact ⟨fun j hj => pk_cpy_out (by omega), fun j hj => pk_un hj⟩
/-- what one move is -/
theorem LRD.mv_inv {g : LRD} {B t q : Nat} {S S' : List Nat} (h : g.mv B t (q :: S) = some S') : ∃ r q0 S0 q1, g.rd q t = some r ∧ r ≠ 10 ∧ (q :: S).drop (g.ln r) = q0 :: S0 ∧ g.tg q0 (6 + g.lf r) = some q1 ∧ S0.length + 2 ≤ B ∧ S' = q1 :: q0 :: S0 := by
  simp only [LRD.mv] at h
  cases hr : g.rd q t with
  | none => rw [hr] at h; cases h
  | some r =>
    rw [hr] at h
    simp only at h
    by_cases h10 : r = 10
    · rw [if_pos h10] at h; cases h
    · rw [if_neg h10] at h
      cases hd : (q :: S).drop (g.ln r) with
      | nil => rw [hd] at h; cases h
      | cons q0 S0 =>
        rw [hd] at h
        simp only at h
        cases ht : g.tg q0 (6 + g.lf r) with
        | none => rw [ht] at h; cases h
        | some q1 =>
          rw [ht] at h
          simp only at h
          by_cases hb : B < S0.length + 2
          · rw [if_pos hb] at h; cases h
          · rw [if_neg hb] at h
            cases h
            exact ⟨r, q0, S0, q1, rfl, h10, hd, ht, by omega, rfl⟩
theorem LRD.vf_drop {g : LRD} : ∀ (j k : Nat) (S : List Nat) q0 T, g.vf k S → S.drop j = q0 :: T → ∃ k', g.vf k' (q0 :: T)
  | 0, k, S, q0, T, hv, e => ⟨k, by have : S = q0 :: T := e; rw [← this]; exact hv⟩
  | j + 1, k, [], q0, T, hv, e => hv.elim
  | j + 1, k, [q], q0, T, hv, e => by cases j <;> cases e
  | j + 1, k, q :: q' :: S, q0, T, hv, e => by
    obtain ⟨X, h1, h2, h3⟩ := hv
    obtain ⟨c, hc⟩ : ∃ c, g.vf c (q' :: S) := h3.elim (fun z => ⟨_, z.2⟩) (fun z => ⟨_, z.2.2⟩)
    exact vf_drop j c (q' :: S) q0 T hc e
theorem c_run {g : LRD} (hg : g.ok) {X : Int32} {lef siz red tgt : Nat → Int32} (h : TC g X lef siz red tgt) {d t k : Nat} (hd : d < 8) (ht : t < 6) (p1 l4 : Int32) : ∀ K (S E : List Nat) (C H : Nat → Int32) i n, g.vf k S → SR C H d S → g.rn 399 t K S = some E → i + K < 1000000 →
    ∃ C' H', SR C' H' d E ∧ fr C H C' H' d ∧ F_Stacks_feed X lef siz red tgt (n + K) 1 p1 (nI d) (nI t) l4 (nI i) C H = F_Stacks_feed X lef siz red tgt n 1 p1 (nI d) (nI t) l4 (nI (i + K)) C' H'
  | 0, S, E, C, H, i, n, hv, hS, hr, hi => by cases hr; exact ⟨C, H, hS, fr_refl _ _ _, rfl⟩
  | K + 1, S, E, C, H, i, n, hv, hS, hr, hi => by
    have hr' : (g.mv 399 t S).bind (g.rn 399 t K) = some E := hr
    cases S with
    | nil => exact hv.elim
    | cons q S =>
      cases hm : g.mv 399 t (q :: S) with
      | none => rw [hm] at hr'; cases hr'
      | some S1 =>
        rw [hm] at hr'
        obtain ⟨r, q0, S0, q1, b1, b2, b3, b4, b5, b6⟩ := LRD.mv_inv hm
        have hq := LRD.vf_m hg _ _ _ hv
        have hv1 : g.vf k S1 := LRD.rc_vf (B := 399) hg (show t ≤ 6 by omega) 1 _ _ hv (by show (g.mv 399 t (q :: S)).bind (g.rn 399 t 0) = _; rw [hm]; rfl)
        have hit := (hg.2.2.2.2.2.2.1 q t r hq (by omega)).mp b1
        have hu := hg.2.1 q r _ t hq hit
        have hr10 : r < 10 := by omega
        have hlr := (hg.1.1 r hu.1 hr10)
        have hlf := hlr.1
        obtain ⟨k0, hv0⟩ := LRD.vf_drop _ _ _ _ _ hv b3
        have hq0 := LRD.vf_m hg _ _ _ hv0
        have hq1 : q1 < g.m := by rw [b6] at hv1; exact LRD.vf_m hg _ _ _ hv1
        obtain ⟨C1, H1, c1, c2, c3⟩ := c_rep hg h (n := g.m) hd hS b3 hq0 (show 6 + g.lf r < 12 by omega) b4 (by omega) hq1 h.2.1
        obtain ⟨C2, H2, d1, d2, d3⟩ := c_run hg h hd ht p1 l4 K S1 E C1 H1 (i + 1) n hv1 (by rw [b6]; exact c2) hr' (by omega)
        refine ⟨C2, H2, d1, fr_trans c3 d2, ?_⟩
        have htop := c_top hd hS
        have hrd := c_red h hq (show t < 7 by omega)
        rw [b1, oI_s] at hrd
        have hsz : S_Grammar_sizeOf (nI r) siz = some (nI (g.ln r)) := by simp (disch := omega) only [S_Grammar_sizeOf, (h.2.2.2.2 r hu.1 hr10).2, i_lit, nI_ltI, nI_leI, nI_eq, nI_add, pk_mul, pk_sub, nI_clamp, if_pos, if_neg, if_true, if_false, Option.bind_some, true_or, or_true, false_or, or_false, or_self, not_true_eq_false, not_false_eq_true, i_m1lt, i_m1le, i_nlt1, i_nle1, i_ne1, i_1ne]
        have hnm : S_Grammar_nameOf (nI r) lef = some (nI (6 + g.lf r)) := by simp (disch := omega) only [S_Grammar_nameOf, (h.2.2.2.2 r hu.1 hr10).1, i_lit, nI_ltI, nI_leI, nI_eq, nI_add, pk_mul, pk_sub, nI_clamp, if_pos, if_neg, if_true, if_false, Option.bind_some, true_or, or_true, false_or, or_false, or_self, not_true_eq_false, not_false_eq_true, i_m1lt, i_m1le, i_nlt1, i_nle1, i_ne1, i_1ne]
        have step : F_Stacks_feed X lef siz red tgt (n + (K + 1)) 1 p1 (nI d) (nI t) l4 (nI i) C H = F_Stacks_feed X lef siz red tgt (n + K) 1 p1 (nI d) (nI t) l4 (nI (i + 1)) C1 H1 := by
          show B_Stacks_feed_1 (F_Stacks_feed X lef siz red tgt (n + K)) X lef siz red tgt p1 (nI d) (nI t) l4 (nI i) C H = _
          simp (disch := omega) only [B_Stacks_feed_1, htop, hrd, hsz, hnm, c1, i_lit, nI_ltI, nI_leI, nI_eq, nI_add, pk_mul, pk_sub, nI_clamp, if_pos, if_neg, if_true, if_false, Option.bind_some, true_or, or_true, false_or, or_false, or_self, not_true_eq_false, not_false_eq_true, i_m1lt, i_m1le, i_nlt1, i_nle1, i_ne1, i_1ne]
        rw [step, d3, show i + 1 + K = i + (K + 1) by omega]
theorem c_can {g : LRD} (hg : g.ok) {X : Int32} {lef siz red tgt C H : Nat → Int32} (h : TC g X lef siz red tgt) {d t k : Nat} {S : List Nat} (hd : d < 8) (ht : t < 7) (hv : g.vf k S) (hS : SR C H d S) :
    (g.cm t S → S_Stacks_canMove (nI d) (nI t) C H X red tgt = some (nI 1)) ∧ (¬ g.cm t S → S_Stacks_canMove (nI d) (nI t) C H X red tgt = some (nI 0)) := by
  cases S with
  | nil => exact hv.elim
  | cons q S =>
    have hq := LRD.vf_m hg _ _ _ hv
    have htop := c_top hd hS
    have hrd := c_red h hq ht
    have htg := c_tgt h hq (show t < 12 by omega)
    have hm := h.2.1
    cases hr : g.rd q t with
    | some r =>
      rw [hr, oI_s] at hrd
      have hr10 : r ≤ 10 := (hg.2.1 q r _ t hq ((hg.2.2.2.2.2.2.1 q t r hq (by omega)).mp hr)).2.1
      refine ⟨fun _ => ?_, fun hn => absurd (Or.inl ⟨r, hr⟩) hn⟩
      simp (disch := omega) only [S_Stacks_canMove, htop, hrd, i_lit, nI_ltI, nI_leI, nI_eq, nI_add, pk_mul, pk_sub, nI_clamp, if_pos, if_neg, if_true, if_false, Option.bind_some, true_or, or_true, false_or, or_false, or_self, not_true_eq_false, not_false_eq_true, i_m1lt, i_m1le, i_nlt1, i_nle1, i_ne1, i_1ne]
    | none =>
      rw [hr, oI_n] at hrd
      by_cases h6 : t = 6
      · refine ⟨fun hc => ?_, fun _ => ?_⟩
        · rcases hc with ⟨r, hc⟩ | ⟨hc, _⟩
          · rw [hr] at hc; cases hc
          · omega
        · simp (disch := omega) only [S_Stacks_canMove, htop, hrd, i_n01, i_lit, nI_ltI, nI_leI, nI_eq, nI_add, pk_mul, pk_sub, nI_clamp, if_pos, if_neg, if_true, if_false, Option.bind_some, true_or, or_true, false_or, or_false, or_self, not_true_eq_false, not_false_eq_true, i_m1lt, i_m1le, i_nlt1, i_nle1, i_ne1, i_1ne]
      · cases ht2 : g.tg q t with
        | some q2 =>
          rw [ht2, oI_s] at htg
          have hq2 : q2 < g.m := by
            rcases hg.2.2.2.2.1 q t hq (by omega) with ⟨h5, _⟩ | ⟨q3, h5, _, h6, _⟩
            · rw [h5] at ht2; cases ht2
            · rw [h5] at ht2; cases ht2; exact h6
          refine ⟨fun _ => ?_, fun hn => absurd (Or.inr ⟨by omega, q2, ht2⟩) hn⟩
          simp (disch := omega) only [S_Stacks_canMove, htop, hrd, i_n01, htg, i_lit, nI_ltI, nI_leI, nI_eq, nI_add, pk_mul, pk_sub, nI_clamp, if_pos, if_neg, if_true, if_false, Option.bind_some, true_or, or_true, false_or, or_false, or_self, not_true_eq_false, not_false_eq_true, i_m1lt, i_m1le, i_nlt1, i_nle1, i_ne1, i_1ne]
        | none =>
          rw [ht2, oI_n] at htg
          refine ⟨fun hc => ?_, fun _ => ?_⟩
          · rcases hc with ⟨r, hc⟩ | ⟨_, q2, hc⟩
            · rw [hr] at hc; cases hc
            · rw [ht2] at hc; cases hc
          · simp (disch := omega) only [S_Stacks_canMove, htop, hrd, i_n01, htg, i_m1neg, i_lit, nI_ltI, nI_leI, nI_eq, nI_add, pk_mul, pk_sub, nI_clamp, if_pos, if_neg, if_true, if_false, Option.bind_some, true_or, or_true, false_or, or_false, or_self, not_true_eq_false, not_false_eq_true, i_m1lt, i_m1le, i_nlt1, i_nle1, i_ne1, i_1ne]
/-- feed -/
theorem c_feed {g : LRD} (hg : g.ok) {X : Int32} {lef siz red tgt C H : Nat → Int32} (h : TC g X lef siz red tgt) {d1 d2 t n : Nat} {S : List Nat} (h1 : d1 < 8) (h2 : d2 < 8) (ht : t < 6) (hn : n ≤ 20) (hs : g.st n S) (hS : SR C H d1 S) :
    (∀ S', g.fd t S S' → ∃ C' H', S_Stacks_feed (nI d1) (nI d2) (nI t) C H X lef siz red tgt = some (nI 1, C', H') ∧ SR C' H' d2 S' ∧ fr C H C' H' d2) ∧
    (¬ g.cm t S → S_Stacks_feed (nI d1) (nI d2) (nI t) C H X lef siz red tgt = some (nI 0, C, H)) := by
  cases S with
  | nil => exact hs.elim
  | cons q S =>
    have hcan := c_can hg h h1 (show t < 7 by omega) hs.1 hS
    have hz : ¬ nI 1 = nI 0 := by decide
    constructor
    · intro S' hf
      have hc := hcan.1 (LRD.cm_fd ht hf)
      obtain ⟨K, q', E, q2, a0, a1, a2, rfl⟩ := hf
      obtain ⟨C1, H1, b1, b2, b3⟩ := c_copy h1 h2 hS
      obtain ⟨m, hm⟩ := fuelled (k := 1 + K) (by omega)
      obtain ⟨C2, H2, c1, c2, c3⟩ := c_run hg h (k := n) h2 ht (nI d1) (nI 1) K (q :: S) (q' :: E) C1 H1 0 (m + 1) hs.1 b2 a1 (by omega)
      rw [Nat.zero_add] at c3
      have hv := LRD.rc_vf hg (show t ≤ 6 by omega) K _ _ hs.1 a1
      have hq' := LRD.vf_m hg _ _ _ hv
      have hq2 : q2 < g.m := by
        rcases hg.2.2.2.2.1 q' t hq' (by omega) with ⟨h5, _⟩ | ⟨q3, h5, _, h6, _⟩
        · rw [h5] at a2; cases a2
        · rw [h5] at a2; cases a2; exact h6
      have hEl : E.length + 2 ≤ 400 := by have := LRD.hgt hg hv ht a2; omega
      obtain ⟨C3, H3, e1, e2, e3⟩ := c_rep hg h (n := g.m) (k := 0) h2 c1 rfl hq' (show t < 12 by omega) a2 hEl hq2 h.2.1
      have hrd : g.rd q' t = none := by
        cases hr : g.rd q' t with
        | none => rfl
        | some r =>
          have := hg.2.2.2.2.2.2.2 q' t r hq' ht ((hg.2.2.2.2.2.2.1 q' t r hq' (by omega)).mp hr)
          rw [this] at a2; cases a2
      have htop := c_top h2 c1
      have hred := c_red h hq' (show t < 7 by omega)
      rw [hrd, oI_n] at hred
      have hF : F_Stacks_feed X lef siz red tgt fuel_ 1 (nI d1) (nI d2) (nI t) (nI 1) (nI 0) C1 H1 = some (nI 1, C3, H3) := by
        rw [hm, show m + (1 + K) = m + 1 + K by omega, c3]
        show B_Stacks_feed_1 (F_Stacks_feed X lef siz red tgt m) X lef siz red tgt (nI d1) (nI d2) (nI t) (nI 1) (nI K) C2 H2 = _
        simp (disch := omega) only [B_Stacks_feed_1, htop, hred, i_n01, e1, i_lit, nI_ltI, nI_leI, nI_eq, nI_add, pk_mul, pk_sub, nI_clamp, if_pos, if_neg, if_true, if_false, Option.bind_some, true_or, or_true, false_or, or_false, or_self, not_true_eq_false, not_false_eq_true, i_m1lt, i_m1le, i_nlt1, i_nle1, i_ne1, i_1ne]
      refine ⟨C3, H3, ?_, e2, fr_trans b3 (fr_trans c2 e3)⟩
      simp (disch := omega) only [S_Stacks_feed, hc, b1, hF, i_lit, nI_ltI, nI_leI, nI_eq, nI_add, pk_mul, pk_sub, nI_clamp, if_pos, if_neg, if_true, if_false, Option.bind_some, true_or, or_true, false_or, or_false, or_self, not_true_eq_false, not_false_eq_true, i_m1lt, i_m1le, i_nlt1, i_nle1, i_ne1, i_1ne]
    · intro hno
      have hc := hcan.2 hno
      simp (disch := omega) only [S_Stacks_feed, hc, i_lit, nI_ltI, nI_leI, nI_eq, nI_add, pk_mul, pk_sub, nI_clamp, if_pos, if_neg, if_true, if_false, Option.bind_some, true_or, or_true, false_or, or_false, or_self, not_true_eq_false, not_false_eq_true, i_m1lt, i_m1le, i_nlt1, i_nle1, i_ne1, i_1ne]
