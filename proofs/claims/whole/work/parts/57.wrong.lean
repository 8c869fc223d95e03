/-! the reference's parse -/
def TM (g : LRD) (lef len fol nxt : Nat → Int32) : Prop := g.m ≤ 40 ∧ (∀ q, q < g.m → ∀ X, X < 12 → nxt (12 * q + X) = oI (g.tg q X)) ∧
  (∀ r, r ≤ 10 → g.ln r ≤ 4 ∧ len r = nI (g.ln r)) ∧ (∀ r, g.us r → r < 10 → lef r = nI (g.lf r)) ∧
  ∀ q, q < g.m → ∀ r, r ≤ 10 → ∀ p, p ≤ 4 → ∃ b : Nat, b < 128 ∧ fol (55 * q + 5 * r + p) = nI b ∧ ∀ t, t < 7 → (b.testBit t = true ↔ g.I q r p t)
theorem i_sh31 : ∀ t, t < 32 → ((nI t &&& 31).toBitVec.smod 32).toNat = t := by
  have h : (List.range 32).all (fun t => decide (((nI t &&& 31).toBitVec.smod 32).toNat = t)) = true := by decide +kernel
  intro t ht
  have := List.all_eq_true.mp h t (List.mem_range.mpr ht)
  simpa using this
theorem i_bit {b t : Nat} (hb : b < 128) (ht : t < 7) : (nI b >>> (nI t &&& nI 31)) &&& nI 1 = nI (if b.testBit t = true then 1 else 0) := by
  have h1 := pk_shrN (n := b) (by omega) (nI t &&& nI 31) t (i_sh31 t (by omega))
  rw [h1, pk_andN (n := b / 2 ^ t) (Nat.lt_of_le_of_lt (Nat.div_le_self _ _) (by omega)) 1 rfl]
  congr 1
  rw [Nat.testBit_eq_decide_div_mod_eq]
  by_cases h : b / 2 ^ t % 2 = 1
  · simp [h]
  · have : b / 2 ^ t % 2 = 0 := by omega
    simp [this]
theorem m_ended {g : LRD} (hg : g.ok) {lef len fol nxt : Nat → Int32} (h : TM g lef len fol nxt) {q t : Nat} (hq : q < g.m) (ht : t < 7) : S_Model_ended (nI q) (nI t) fol len = some (oI (g.rd q t)) := by
  obtain ⟨h1, h2, h3, h4, h5⟩ := h
  have bit : ∀ r, r ≤ 10 → ∃ b : Nat, fol (55 * q + 5 * r + g.ln r) = nI b ∧ b < 128 ∧ (b.testBit t = true ↔ g.rd q t = some r) := by
    intro r hr
    obtain ⟨b, b1, b2, b3⟩ := h5 q hq r hr (g.ln r) (h3 r hr).1
    exact ⟨b, b2, b1, (b3 t ht).trans (hg.2.2.2.2.2.2.1 q t r hq (by omega)).symm⟩
  have scan : ∀ k i m, i + k ≤ 11 → (∀ j, i ≤ j → j < i + k → g.rd q t ≠ some j) → F_Model_ended fol len (m + k) 0 (nI q) (nI t) (nI i) = F_Model_ended fol len m 0 (nI q) (nI t) (nI (i + k)) := by
    intro k
    induction k with
    | zero => intro i m _ _; rfl
    | succ k ih =>
      intro i m hi hj
      show B_Model_ended_0 (F_Model_ended fol len (m + k)) fol len (nI q) (nI t) (nI i) = _
      obtain ⟨b, b1, b2, b3⟩ := bit i (by omega)
      have hln := h3 i (by omega)
      have hl4 := hln.1
      have hno : ¬ b.testBit t = true := fun hh => hj i (by omega) (by omega) (b3.mp hh)
      have hib := i_bit b2 ht
      rw [if_neg hno] at hib
      simp (disch := omega) only [B_Model_ended_0, hln.2, b1, hib, i_lit, nI_ltI, nI_leI, nI_eq, nI_add, pk_mul, pk_sub, nI_clamp, if_pos, if_neg, if_true, if_false, Option.bind_some, true_or, or_true, false_or, or_false, or_self, not_true_eq_false, not_false_eq_true, i_m1lt, i_m1le, i_nlt1, i_nle1, i_ne1, i_1ne]
      rw [ih (i + 1) m (by omega) (fun j h1 h2 => hj j (by omega) (by omega)), show i + 1 + k = i + (k + 1) by omega]
  cases hr : g.rd q t with
  | none =>
    obtain ⟨m, hm⟩ := fuelled (k := 1 + 11) (by omega)
    have e := scan 11 0 (m + 1) (by omega) (fun j _ _ => by rw [hr]; simp)
    rw [S_Model_ended, hm, show m + (1 + 11) = m + 1 + 11 by omega]
    refine e.trans ?_
    show B_Model_ended_0 (F_Model_ended fol len m) fol len (nI q) (nI t) (nI 11) = _
    simp (disch := omega) only [B_Model_ended_0, oI, i_lit, nI_ltI, nI_leI, nI_eq, nI_add, pk_mul, pk_sub, nI_clamp, if_pos, if_neg, if_true, if_false, Option.bind_some, true_or, or_true, false_or, or_false, or_self, not_true_eq_false, not_false_eq_true, i_m1lt, i_m1le, i_nlt1, i_nle1, i_ne1, i_1ne]
  | some r =>
    have hr10 : r ≤ 10 := (hg.2.1 q r _ t hq ((hg.2.2.2.2.2.2.1 q t r hq (by omega)).mp hr)).2.1
    obtain ⟨m, hm⟩ := fuelled (k := 1 + r) (by omega)
    have e := scan r 0 (m + 1) (by omega) (fun j _ hj => by rw [hr]; intro hh; cases hh; omega)
    rw [Nat.zero_add] at e
    rw [S_Model_ended, hm, show m + (1 + r) = m + 1 + r by omega]
    refine e.trans ?_
    show B_Model_ended_0 (F_Model_ended fol len m) fol len (nI q) (nI t) (nI r) = _
    obtain ⟨b, b1, b2, b3⟩ := bit r hr10
    have hln := h3 r hr10
    have hl4 := hln.1
    have hib := i_bit b2 ht
    rw [if_pos (b3.mpr hr)] at hib
    simp (disch := omega) only [B_Model_ended_0, hln.2, b1, hib, oI, i_lit, nI_ltI, nI_leI, nI_eq, nI_add, pk_mul, pk_sub, nI_clamp, if_pos, if_neg, if_true, if_false, Option.bind_some, true_or, or_true, false_or, or_false, or_self, not_true_eq_false, not_false_eq_true, i_m1lt, i_m1le, i_nlt1, i_nle1, i_ne1, i_1ne]
section
variable {g : LRD} {lef len fol nxt fre : Nat → Int32} {w : Nat → Nat} {n : Nat}
/-- the three first heads: the letter that is looked at, and where it leads -/
theorem m_w3 (hg : g.ok) (h : TM g lef len fol nxt) (hn : n ≤ 20) (hw : ∀ j, j < n → w j < 6 ∧ fre j = nI (w j)) {q k c wh : Nat} {S : List Nat} {A : Nat → Int32} (hv : g.vf c (q :: S)) (hS : sr A 0 (q :: S)) (hl : S.length < 400) (hk : k ≤ n) (hwh : wh ≤ 1) (hgo : k < n ∨ wh = 1) {t : Nat} (ht : t = if k < n then w k else 6) (m : Nat) :
    F_Model_wrongAt fol fre lef len nxt (m + 4) 0 (nI n) (nI wh) (nI S.length) (nI k) (nI 0) (nI 0) (nI 0) (nI 0) A = F_Model_wrongAt fol fre lef len nxt m 4 (nI n) (nI wh) (nI S.length) (nI k) (nI t) (nI q) (if t < 6 then oI (g.tg q t) else -nI 1) (if t < 6 ∧ g.tg q t ≠ none then -nI 1 else oI (g.rd q t)) A := by
  have hq := LRD.vf_m hg _ _ _ hv
  have hA : A S.length = nI q := by have := hS.1; rwa [Nat.zero_add] at this
  have ht7 : t < 7 := by
    subst ht
    by_cases e : k < n
    · rw [if_pos e]; have := (hw k e).1; omega
    · rw [if_neg e]; omega
  have hm40 := h.1
  have hend := m_ended hg h hq ht7
  have s0 : F_Model_wrongAt fol fre lef len nxt (m + 4) 0 (nI n) (nI wh) (nI S.length) (nI k) (nI 0) (nI 0) (nI 0) (nI 0) A = F_Model_wrongAt fol fre lef len nxt (m + 3) 1 (nI n) (nI wh) (nI S.length) (nI k) (nI 0) (nI 0) (nI 0) (nI 0) A := by
    show B_Model_wrongAt_0 (F_Model_wrongAt fol fre lef len nxt (m + 3)) fol fre lef len nxt (nI n) (nI wh) (nI S.length) (nI k) (nI 0) (nI 0) (nI 0) (nI 0) A = _
    by_cases e : k < n
    · simp (disch := omega) only [B_Model_wrongAt_0, i_lit, nI_ltI, nI_leI, nI_eq, nI_add, pk_mul, pk_sub, nI_clamp, if_pos, if_neg, if_true, if_false, Option.bind_some, true_or, or_true, false_or, or_false, or_self, not_true_eq_false, not_false_eq_true, i_m1lt, i_m1le, i_nlt1, i_nle1, i_ne1, i_1ne]
    · have hw1 : wh = 1 := hgo.resolve_left e
      subst hw1
      simp (disch := omega) only [B_Model_wrongAt_0, i_lit, nI_ltI, nI_leI, nI_eq, nI_add, pk_mul, pk_sub, nI_clamp, if_pos, if_neg, if_true, if_false, Option.bind_some, true_or, or_true, false_or, or_false, or_self, not_true_eq_false, not_false_eq_true, i_m1lt, i_m1le, i_nlt1, i_nle1, i_ne1, i_1ne]
  have s1 : F_Model_wrongAt fol fre lef len nxt (m + 3) 1 (nI n) (nI wh) (nI S.length) (nI k) (nI 0) (nI 0) (nI 0) (nI 0) A = F_Model_wrongAt fol fre lef len nxt (m + 2) 2 (nI n) (nI wh) (nI S.length) (nI k) (nI 0) (nI 0) (nI 0) (nI t) A := by
    show B_Model_wrongAt_1 (F_Model_wrongAt fol fre lef len nxt (m + 2)) fol fre lef len nxt (nI n) (nI wh) (nI S.length) (nI k) (nI 0) (nI 0) (nI 0) (nI 0) A = _
    subst ht
    by_cases e : k < n
    · simp (disch := omega) only [B_Model_wrongAt_1, (hw k e).2, i_lit, nI_ltI, nI_leI, nI_eq, nI_add, pk_mul, pk_sub, nI_clamp, if_pos, if_neg, if_true, if_false, Option.bind_some, true_or, or_true, false_or, or_false, or_self, not_true_eq_false, not_false_eq_true, i_m1lt, i_m1le, i_nlt1, i_nle1, i_ne1, i_1ne]
    · simp (disch := omega) only [B_Model_wrongAt_1, i_lit, nI_ltI, nI_leI, nI_eq, nI_add, pk_mul, pk_sub, nI_clamp, if_pos, if_neg, if_true, if_false, Option.bind_some, true_or, or_true, false_or, or_false, or_self, not_true_eq_false, not_false_eq_true, i_m1lt, i_m1le, i_nlt1, i_nle1, i_ne1, i_1ne]
  have s2 : F_Model_wrongAt fol fre lef len nxt (m + 2) 2 (nI n) (nI wh) (nI S.length) (nI k) (nI 0) (nI 0) (nI 0) (nI t) A = F_Model_wrongAt fol fre lef len nxt (m + 1) 3 (nI n) (nI wh) (nI S.length) (nI k) (nI t) (nI q) (nI 0) (if t < 6 then oI (g.tg q t) else -nI 1) A := by
    show B_Model_wrongAt_2 (F_Model_wrongAt fol fre lef len nxt (m + 1)) fol fre lef len nxt (nI n) (nI wh) (nI S.length) (nI k) (nI 0) (nI 0) (nI 0) (nI t) A = _
    by_cases e : t < 6
    · simp (disch := omega) only [B_Model_wrongAt_2, hA, h.2.1 q hq t (by omega), i_lit, nI_ltI, nI_leI, nI_eq, nI_add, pk_mul, pk_sub, nI_clamp, if_pos, if_neg, if_true, if_false, Option.bind_some, true_or, or_true, false_or, or_false, or_self, not_true_eq_false, not_false_eq_true, i_m1lt, i_m1le, i_nlt1, i_nle1, i_ne1, i_1ne]
    · simp (disch := omega) only [B_Model_wrongAt_2, hA, i_lit, nI_ltI, nI_leI, nI_eq, nI_add, pk_mul, pk_sub, nI_clamp, if_pos, if_neg, if_true, if_false, Option.bind_some, true_or, or_true, false_or, or_false, or_self, not_true_eq_false, not_false_eq_true, i_m1lt, i_m1le, i_nlt1, i_nle1, i_ne1, i_1ne]
  rw [s0, s1, s2]
  show B_Model_wrongAt_3 (F_Model_wrongAt fol fre lef len nxt m) fol fre lef len nxt (nI n) (nI wh) (nI S.length) (nI k) (nI t) (nI q) (nI 0) _ A = _
  by_cases e : t < 6
  · cases htg : g.tg q t with
    | none =>
      have hneg := i_m1neg
      simp only [htg, e, if_true, true_and, ne_eq, not_true_eq_false, if_false, oI_n]
      simp (disch := omega) only [B_Model_wrongAt_3, hneg, hend, i_lit, nI_ltI, nI_leI, nI_eq, nI_add, pk_mul, pk_sub, nI_clamp, if_pos, if_neg, if_true, if_false, Option.bind_some, true_or, or_true, false_or, or_false, or_self, not_true_eq_false, not_false_eq_true, i_m1lt, i_m1le, i_nlt1, i_nle1, i_ne1, i_1ne]
    | some q2 =>
      have hq2 : q2 < g.m := by
        rcases hg.2.2.2.2.1 q t hq (by omega) with ⟨h5, _⟩ | ⟨q3, h5, _, h6, _⟩
        · rw [h5] at htg; cases htg
        · rw [h5] at htg; cases htg; exact h6
      have hp : ¬ nI q2 < nI 0 := nI_pos (by omega)
      have hns : ¬ (some q2 = (none : Option Nat)) := by simp
      simp only [htg, e, if_true, true_and, ne_eq, hns, not_false_eq_true, oI_s]
      simp (disch := omega) only [B_Model_wrongAt_3, hp, i_lit, nI_ltI, nI_leI, nI_eq, nI_add, pk_mul, pk_sub, nI_clamp, if_pos, if_neg, if_true, if_false, Option.bind_some, true_or, or_true, false_or, or_false, or_self, not_true_eq_false, not_false_eq_true, i_m1lt, i_m1le, i_nlt1, i_nle1, i_ne1, i_1ne]
  · have hneg := i_m1neg
    simp only [e, if_false, false_and]
    simp (disch := omega) only [B_Model_wrongAt_3, hneg, hend, i_lit, nI_ltI, nI_leI, nI_eq, nI_add, pk_mul, pk_sub, nI_clamp, if_pos, if_neg, if_true, if_false, Option.bind_some, true_or, or_true, false_or, or_false, or_self, not_true_eq_false, not_false_eq_true, i_m1lt, i_m1le, i_nlt1, i_nle1, i_ne1, i_1ne]
theorem m_wshift (hg : g.ok) (h : TM g lef len fol nxt) (hn : n ≤ 20) (hw : ∀ j, j < n → w j < 6 ∧ fre j = nI (w j)) {q k c wh q2 : Nat} {S : List Nat} {A : Nat → Int32} (hv : g.vf c (q :: S)) (hS : sr A 0 (q :: S)) (hl : S.length + 1 < 400) (hk : k < n) (hwh : wh ≤ 1) (htg : g.tg q (w k) = some q2) :
    ∃ A', sr A' 0 (q2 :: q :: S) ∧ ∀ m, F_Model_wrongAt fol fre lef len nxt (m + 5) 0 (nI n) (nI wh) (nI S.length) (nI k) (nI 0) (nI 0) (nI 0) (nI 0) A = F_Model_wrongAt fol fre lef len nxt m 0 (nI n) (nI wh) (nI (S.length + 1)) (nI (k + 1)) (nI 0) (nI 0) (nI 0) (nI 0) A' := by
  have hq := LRD.vf_m hg _ _ _ hv
  have hw6 := (hw k hk).1
  have hm40 := h.1
  have hq2 : q2 < g.m := by
    rcases hg.2.2.2.2.1 q (w k) hq (by omega) with ⟨h5, _⟩ | ⟨q3, h5, _, h6, _⟩
    · rw [h5] at htg; cases htg
    · rw [h5] at htg; cases htg; exact h6
  refine ⟨upd A (S.length + 1) (nI q2), ⟨by rw [Nat.zero_add, List.length_cons, pk_us], sr_up (q :: S) (by simp) hS⟩, fun m => ?_⟩
  rw [show m + 5 = m + 1 + 4 by omega, m_w3 hg h hn hw hv hS (by omega) (by omega) hwh (Or.inl hk) (t := w k) (by rw [if_pos hk]) (m + 1)]
  have hns : ¬ (some q2 = (none : Option Nat)) := by simp
  simp only [htg, hw6, if_true, true_and, ne_eq, hns, not_false_eq_true, oI_s]
  show B_Model_wrongAt_4 (F_Model_wrongAt fol fre lef len nxt m) fol fre lef len nxt (nI n) (nI wh) (nI S.length) (nI k) (nI (w k)) (nI q) (nI q2) (-nI 1) A = _
  simp (disch := omega) only [B_Model_wrongAt_4, i_lit, nI_ltI, nI_leI, nI_eq, nI_add, pk_mul, pk_sub, nI_clamp, if_pos, if_neg, if_true, if_false, Option.bind_some, true_or, or_true, false_or, or_false, or_self, not_true_eq_false, not_false_eq_true, i_m1lt, i_m1le, i_nlt1, i_nle1, i_ne1, i_1ne]
theorem m_wmv (hg : g.ok) (h : TM g lef len fol nxt) (hn : n ≤ 20) (hw : ∀ j, j < n → w j < 6 ∧ fre j = nI (w j)) {q k c wh : Nat} {S S' : List Nat} {A : Nat → Int32} (hv : g.vf c (q :: S)) (hS : sr A 0 (q :: S)) (hl : S.length < 400) (hk : k ≤ n) (hwh : wh ≤ 1) (hgo : k < n ∨ wh = 1) {t : Nat} (ht : t = if k < n then w k else 6) (hmv : g.mv 399 t (q :: S) = some S') :
    ∃ A', sr A' 0 S' ∧ ∀ m, F_Model_wrongAt fol fre lef len nxt (m + 5) 0 (nI n) (nI wh) (nI S.length) (nI k) (nI 0) (nI 0) (nI 0) (nI 0) A = F_Model_wrongAt fol fre lef len nxt m 0 (nI n) (nI wh) (nI (S'.length - 1)) (nI k) (nI 0) (nI 0) (nI 0) (nI 0) A' := by
  have hq := LRD.vf_m hg _ _ _ hv
  have hm40 := h.1
  obtain ⟨r, q0, S0, q1, b1, b2, b3, b4, b5, rfl⟩ := LRD.mv_inv hmv
  have ht6 : t ≤ 6 := by
    subst ht
    by_cases e : k < n
    · rw [if_pos e]; have := (hw k e).1; omega
    · rw [if_neg e]; omega
  have hit := (hg.2.2.2.2.2.2.1 q t r hq ht6).mp b1
  have hu := hg.2.1 q r _ t hq hit
  have hr10 : r < 10 := by omega
  have hlf := (hg.1.1 r hu.1 hr10).1
  have hlen := h.2.2.1 r (by omega)
  have hl4 := hlen.1
  have hd : S0.length + 1 = S.length + 1 - g.ln r := by
    have := congrArg List.length b3
    rw [List.length_drop] at this
    simpa using this.symm
  have hln : g.ln r ≤ S.length := by omega
  have e0 : S.length - g.ln r = S0.length := by omega
  obtain ⟨k0, hv0⟩ := LRD.vf_drop _ _ _ _ _ hv b3
  have hq0 := LRD.vf_m hg _ _ _ hv0
  have hS0 := sr_drop (g.ln r) _ hS
  rw [b3] at hS0
  have hA0 : A S0.length = nI q0 := by have := hS0.1; rwa [Nat.zero_add] at this
  have hq1 : q1 < g.m := by
    rcases hg.2.2.2.2.1 q0 (6 + g.lf r) hq0 (by omega) with ⟨h5, _⟩ | ⟨q3, h5, _, h6, _⟩
    · rw [h5] at b4; cases b4
    · rw [h5] at b4; cases b4; exact h6
  have hnx : nxt (12 * q0 + 6 + g.lf r) = nI q1 := by
    rw [show 12 * q0 + 6 + g.lf r = 12 * q0 + (6 + g.lf r) by omega, h.2.1 q0 hq0 (6 + g.lf r) (by omega), b4, oI_s]
  refine ⟨upd A (S0.length + 1) (nI q1), ⟨by rw [Nat.zero_add, List.length_cons, pk_us], sr_up (q0 :: S0) (by simp) hS0⟩, fun m => ?_⟩
  rw [show m + 5 = m + 1 + 4 by omega, m_w3 hg h hn hw hv hS hl hk hwh hgo ht (m + 1)]
  have htn : (if t < 6 then oI (g.tg q t) else -nI 1) = -nI 1 := by
    by_cases e : t < 6
    · rw [if_pos e, hg.2.2.2.2.2.2.2 q t r hq e hit, oI_n]
    · rw [if_neg e]
  have htn2 : (if t < 6 ∧ g.tg q t ≠ none then -nI 1 else oI (g.rd q t)) = nI r := by
    rw [if_neg, b1, oI_s]
    rintro ⟨e1, e2⟩
    exact e2 (hg.2.2.2.2.2.2.2 q t r hq e1 hit)
  rw [htn, htn2]
  show B_Model_wrongAt_4 (F_Model_wrongAt fol fre lef len nxt m) fol fre lef len nxt (nI n) (nI wh) (nI S.length) (nI k) (nI t) (nI q) (-nI 1) (nI r) A = _
  have hneg := i_m1neg
  have e1 : S0.length + 1 - 1 = S0.length := by omega
  simp only [List.length_cons]
  have e2 : S0.length + 1 + 1 - 1 = S0.length + 1 := by omega
  simp (disch := omega) only [B_Model_wrongAt_4, hneg, hlen.2, e0, e1, hA0, (h.2.2.2.1 r hu.1 hr10), hnx, e2, i_lit, nI_ltI, nI_leI, nI_eq, nI_add, pk_mul, pk_sub, nI_clamp, if_pos, if_neg, if_true, if_false, Option.bind_some, true_or, or_true, false_or, or_false, or_self, not_true_eq_false, not_false_eq_true, i_m1lt, i_m1le, i_nlt1, i_nle1, i_ne1, i_1ne]
theorem m_wrun (hg : g.ok) (h : TM g lef len fol nxt) (hn : n ≤ 20) (hw : ∀ j, j < n → w j < 6 ∧ fre j = nI (w j)) {k c wh : Nat} (hk : k ≤ n) (hwh : wh ≤ 1) (hgo : k < n ∨ wh = 1) {t : Nat} (ht : t = if k < n then w k else 6) (ht6 : t ≤ 6) : ∀ K (q : Nat) (S E : List Nat) (A : Nat → Int32), g.vf c (q :: S) → sr A 0 (q :: S) → S.length < 400 → g.rn 399 t K (q :: S) = some E →
    ∃ A', sr A' 0 E ∧ ∀ m, F_Model_wrongAt fol fre lef len nxt (m + 5 * K) 0 (nI n) (nI wh) (nI S.length) (nI k) (nI 0) (nI 0) (nI 0) (nI 0) A = F_Model_wrongAt fol fre lef len nxt m 0 (nI n) (nI wh) (nI (E.length - 1)) (nI k) (nI 0) (nI 0) (nI 0) (nI 0) A'
  | 0, q, S, E, A, hv, hS, hl, hr => by cases hr; exact ⟨A, hS, fun m => rfl⟩
  | K + 1, q, S, E, A, hv, hS, hl, hr => by
    have hr' : (g.mv 399 t (q :: S)).bind (g.rn 399 t K) = some E := hr
    cases hm : g.mv 399 t (q :: S) with
    | none => rw [hm] at hr'; cases hr'
    | some S1 =>
      rw [hm] at hr'
      obtain ⟨A1, a1, a2⟩ := m_wmv hg h hn hw hv hS hl hk hwh hgo ht hm
      have hv1 : g.vf c S1 := LRD.rc_vf (B := 399) hg ht6 1 _ _ hv (by show (g.mv 399 t (q :: S)).bind (g.rn 399 t 0) = _; rw [hm]; rfl)
      obtain ⟨r, q0, S0, q1, b1, b2, b3, b4, b5, rfl⟩ := LRD.mv_inv hm
      obtain ⟨A2, c1, c2⟩ := m_wrun hg h hn hw hk hwh hgo ht ht6 K q1 (q0 :: S0) E A1 hv1 a1 (by simp only [List.length_cons]; omega) hr'
      refine ⟨A2, c1, fun m => ?_⟩
      rw [show m + 5 * (K + 1) = m + 5 * K + 5 by omega, a2]
      exact c2 m
theorem m_wfail (hg : g.ok) (h : TM g lef len fol nxt) (hn : n ≤ 20) (hw : ∀ j, j < n → w j < 6 ∧ fre j = nI (w j)) {q k c wh : Nat} {S : List Nat} {A : Nat → Int32} (hv : g.vf c (q :: S)) (hS : sr A 0 (q :: S)) (hl : S.length < 400) (hk : k ≤ n) (hwh : wh ≤ 1) (hgo : k < n ∨ wh = 1) {t : Nat} (ht : t = if k < n then w k else 6) (hc : ¬ g.cm t (q :: S)) (m : Nat) :
    F_Model_wrongAt fol fre lef len nxt (m + 5) 0 (nI n) (nI wh) (nI S.length) (nI k) (nI 0) (nI 0) (nI 0) (nI 0) A = some (nI k, A) := by
  rw [show m + 5 = m + 1 + 4 by omega, m_w3 hg h hn hw hv hS hl hk hwh hgo ht (m + 1)]
  have hr : g.rd q t = none := by
    cases hr : g.rd q t with
    | none => rfl
    | some r => exact absurd (Or.inl ⟨r, hr⟩) hc
  have htn : (if t < 6 then oI (g.tg q t) else -nI 1) = -nI 1 := by
    by_cases e : t < 6
    · rw [if_pos e]
      cases hq : g.tg q t with
      | none => rfl
      | some q2 => exact absurd (Or.inr ⟨e, q2, hq⟩) hc
    · rw [if_neg e]
  have htn2 : (if t < 6 ∧ g.tg q t ≠ none then -nI 1 else oI (g.rd q t)) = -nI 1 := by
    rw [hr, oI_n]; split <;> rfl
  rw [htn, htn2]
  show B_Model_wrongAt_4 (F_Model_wrongAt fol fre lef len nxt m) fol fre lef len nxt (nI n) (nI wh) (nI S.length) (nI k) (nI t) (nI q) (-nI 1) (-nI 1) A = _
  simp (disch := omega) only [B_Model_wrongAt_4, i_m1neg, i_n01, i_lit, nI_ltI, nI_leI, nI_eq, nI_add, pk_mul, pk_sub, nI_clamp, if_pos, if_neg, if_true, if_false, Option.bind_some, true_or, or_true, false_or, or_false, or_self, not_true_eq_false, not_false_eq_true, i_m1lt, i_m1le, i_nlt1, i_nle1, i_ne1, i_1ne]
theorem m_wacc (hg : g.ok) (h : TM g lef len fol nxt) (hn : n ≤ 20) (hw : ∀ j, j < n → w j < 6 ∧ fre j = nI (w j)) {q c : Nat} {S : List Nat} {A : Nat → Int32} (hv : g.vf c (q :: S)) (hS : sr A 0 (q :: S)) (hl : S.length < 400) (hr : g.rd q 6 = some 10) (m : Nat) :
    F_Model_wrongAt fol fre lef len nxt (m + 5) 0 (nI n) (nI 1) (nI S.length) (nI n) (nI 0) (nI 0) (nI 0) (nI 0) A = some (-nI 1, A) := by
  rw [show m + 5 = m + 1 + 4 by omega, m_w3 hg h hn hw hv hS hl (Nat.le_refl _) (Nat.le_refl _) (Or.inr rfl) (t := 6) (by rw [if_neg (by omega)]) (m + 1)]
  simp only [hr, oI_s, Nat.lt_irrefl, if_false, false_and]
  show B_Model_wrongAt_4 (F_Model_wrongAt fol fre lef len nxt m) fol fre lef len nxt (nI n) (nI 1) (nI S.length) (nI n) (nI 6) (nI q) (-nI 1) (nI 10) A = _
  simp (disch := omega) only [B_Model_wrongAt_4, i_m1neg, i_lit, nI_ltI, nI_leI, nI_eq, nI_add, pk_mul, pk_sub, nI_clamp, if_pos, if_neg, if_true, if_false, Option.bind_some, true_or, or_true, false_or, or_false, or_self, not_true_eq_false, not_false_eq_true, i_m1lt, i_m1le, i_nlt1, i_nle1, i_ne1, i_1ne]
end
