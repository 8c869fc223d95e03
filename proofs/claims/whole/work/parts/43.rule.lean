/-! the call rule -/
def IR (n : Nat) (lf ln : Nat → Nat) (sy : Nat → Nat → Nat) (a : Int32) (f1 f2 f3 : Nat → Int32) (b : Int32) (g1 g2 g3 : Nat → Int32) : Prop :=
  n ≤ 10 ∧ a = nI n ∧ b = nI n ∧ (∀ r, r < n → lf r < 6 ∧ ln r ≤ 4 ∧ f1 r = nI (6 + lf r) ∧ g1 r = nI (lf r) ∧ f3 r = nI (ln r) ∧ g2 r = nI (ln r) ∧ ∀ k, k < ln r → sy r k < 12 ∧ f2 (r * 4 + k) = nI (sy r k) ∧ g3 (4 * r + k) = nI (sy r k)) ∧
    ∀ r, n ≤ r → r < 10 → f3 r = nI 0
theorem ir_0 : IR 0 (fun _ => 0) (fun _ => 0) (fun _ _ => 0) 0 (fun _ => 0) (fun _ => 0) (fun _ => 0) 0 (fun _ => 0) (fun _ => 0) (fun _ => 0) :=
  ⟨by omega, rfl, rfl, fun r h => absurd h (by omega), fun r _ _ => rfl⟩
/-- a letter or a name -/
def gd (c : Nat) : Prop := (97 ≤ c ∧ c ≤ 102) ∨ (65 ≤ c ∧ c ≤ 70)
def sv (c : Nat) : Nat := if 97 ≤ c ∧ c ≤ 102 then c - 97 else 6 + (c - 65)
theorem sv_lt {c : Nat} (h : gd c) : sv c < 12 := by
  unfold sv; unfold gd at h
  by_cases h1 : 97 ≤ c ∧ c ≤ 102
  · rw [if_pos h1]; omega
  · rw [if_neg h1]; omega
theorem sgn_g {c : Nat} (h : gd c) : sgn c = nI (sv c) := by
  unfold sv sgn; unfold gd at h
  by_cases h1 : 97 ≤ c ∧ c ≤ 102
  · rw [if_pos h1, if_pos h1]
  · rw [if_neg h1, if_neg h1, if_pos (by omega)]
theorem sgn_b {c : Nat} (h : ¬ gd c) : sgn c = -nI 1 := by
  unfold sgn; unfold gd at h
  rw [if_neg (by omega), if_neg (by omega)]; rfl
theorem m_isL {c : Nat} (hc : c < 127) : S_Model_isLetter (nI c) = some (if 97 ≤ c ∧ c ≤ 102 then nI 1 else nI 0) := by
  by_cases h1 : c < 97
  · simp (disch := omega) only [S_Model_isLetter, i_lit, nI_ltI, nI_leI, nI_eq, nI_add, pk_mul, pk_sub, nI_clamp, if_pos, if_neg, if_true, if_false, Option.bind_some, true_or, or_true, false_or, or_false, or_self, not_true_eq_false, not_false_eq_true, i_m1lt, i_m1le, i_nlt1, i_nle1, i_ne1, i_1ne]
  · by_cases h2 : 102 < c
    · simp (disch := omega) only [S_Model_isLetter, i_lit, nI_ltI, nI_leI, nI_eq, nI_add, pk_mul, pk_sub, nI_clamp, if_pos, if_neg, if_true, if_false, Option.bind_some, true_or, or_true, false_or, or_false, or_self, not_true_eq_false, not_false_eq_true, i_m1lt, i_m1le, i_nlt1, i_nle1, i_ne1, i_1ne]
    · simp (disch := omega) only [S_Model_isLetter, i_lit, nI_ltI, nI_leI, nI_eq, nI_add, pk_mul, pk_sub, nI_clamp, if_pos, if_neg, if_true, if_false, Option.bind_some, true_or, or_true, false_or, or_false, or_self, not_true_eq_false, not_false_eq_true, i_m1lt, i_m1le, i_nlt1, i_nle1, i_ne1, i_1ne]
theorem m_isN {c : Nat} (hc : c < 127) : S_Model_isName (nI c) = some (if 65 ≤ c ∧ c ≤ 70 then nI 1 else nI 0) := by
  by_cases h1 : c < 65
  · simp (disch := omega) only [S_Model_isName, i_lit, nI_ltI, nI_leI, nI_eq, nI_add, pk_mul, pk_sub, nI_clamp, if_pos, if_neg, if_true, if_false, Option.bind_some, true_or, or_true, false_or, or_false, or_self, not_true_eq_false, not_false_eq_true, i_m1lt, i_m1le, i_nlt1, i_nle1, i_ne1, i_1ne]
  · by_cases h2 : 70 < c
    · simp (disch := omega) only [S_Model_isName, i_lit, nI_ltI, nI_leI, nI_eq, nI_add, pk_mul, pk_sub, nI_clamp, if_pos, if_neg, if_true, if_false, Option.bind_some, true_or, or_true, false_or, or_false, or_self, not_true_eq_false, not_false_eq_true, i_m1lt, i_m1le, i_nlt1, i_nle1, i_ne1, i_1ne]
    · simp (disch := omega) only [S_Model_isName, i_lit, nI_ltI, nI_leI, nI_eq, nI_add, pk_mul, pk_sub, nI_clamp, if_pos, if_neg, if_true, if_false, Option.bind_some, true_or, or_true, false_or, or_false, or_self, not_true_eq_false, not_false_eq_true, i_m1lt, i_m1le, i_nlt1, i_nle1, i_ne1, i_1ne]
/-- the class reads the right side -/
theorem r_rd {l : Nat} {c : Nat → Nat} {f : Nat → Int32} (hl : l ≤ 4) (hf : ∀ j, j < l + 2 → c j < 127 ∧ f j = nI (c j)) (x : Int32) (f1 f2 f3 : Nat → Int32) :
    ∀ k i n : Nat, i + k ≤ l → (∀ j, i ≤ j → j < i + k → gd (c (j + 2))) → F_Grammar_readDraft (nI (l + 2)) f (n + k) 0 (nI l) x (nI i) f1 (fl f2 (fun j => nI (sv (c (j - 42)))) 44 i) f3 = F_Grammar_readDraft (nI (l + 2)) f n 0 (nI l) x (nI (i + k)) f1 (fl f2 (fun j => nI (sv (c (j - 42)))) 44 (i + k)) f3 := by
  intro k
  induction k with
  | zero => intro i n h hg; rfl
  | succ k ih =>
    intro i n h hg
    show B_Grammar_readDraft_0 (F_Grammar_readDraft (nI (l + 2)) f (n + k)) (nI (l + 2)) f (nI l) x (nI i) f1 _ f3 = _
    have hgi := hg i (by omega) (by omega)
    have hi := hf (i + 2) (by omega)
    have hsv := sv_lt hgi
    have hu := fl_up f2 (fun j => nI (sv (c (j - 42)))) 44 i
    have e1 : 44 + i - 42 = i + 2 := by omega
    simp only [e1] at hu
    simp (disch := omega) only [B_Grammar_readDraft_0, s_symbolAt (show l + 2 ≤ 10 by omega) (show i + 2 < l + 2 by omega) hi.1 hi.2, sgn_g hgi, hu, i_lit, nI_ltI, nI_leI, nI_eq, nI_add, pk_mul, pk_sub, nI_clamp, if_pos, if_neg, if_true, if_false, Option.bind_some, true_or, or_true, false_or, or_false, or_self, not_true_eq_false, not_false_eq_true, i_m1lt, i_m1le, i_nlt1, i_nle1, i_ne1, i_1ne]
    rw [ih (i + 1) n (by omega) (fun j h1 h2 => hg j (by omega) (by omega)), show i + 1 + k = i + (k + 1) by omega]
/-- is rule r the draft -/
def smr (lf ln : Nat → Nat) (sy : Nat → Nat → Nat) (x l : Nat) (s : Nat → Nat) (r : Nat) : Prop := lf r = x ∧ ln r = l ∧ ∀ k, k < l → sy r k = s k
theorem r_like0 {f1 f2 f3 : Nat → Int32} {r l : Nat} {sr s : Nat → Nat} (hr : r < 10) (hl : l ≤ 4) (hs : ∀ k, k < l → sr k < 12 ∧ s k < 12 ∧ f2 (r * 4 + k) = nI (sr k) ∧ f2 (44 + k) = nI (s k)) (hz : f3 r = nI l) :
    ∀ k i n : Nat, i + k ≤ l → (∀ j, i ≤ j → j < i + k → sr j = s j) → F_Grammar_isLikeDraft f1 f2 f3 (n + k) 0 (nI r) (nI i) = F_Grammar_isLikeDraft f1 f2 f3 n 0 (nI r) (nI (i + k)) := by
  intro k
  induction k with
  | zero => intro i n h hg; rfl
  | succ k ih =>
    intro i n h hg
    show B_Grammar_isLikeDraft_0 (F_Grammar_isLikeDraft f1 f2 f3 (n + k)) f1 f2 f3 (nI r) (nI i) = _
    have hi := hs i (by omega)
    have he := hg i (by omega) (by omega)
    simp (disch := omega) only [B_Grammar_isLikeDraft_0, hz, hi.2.2.1, hi.2.2.2, he, i_lit, nI_ltI, nI_leI, nI_eq, nI_add, pk_mul, pk_sub, nI_clamp, if_pos, if_neg, if_true, if_false, Option.bind_some, true_or, or_true, false_or, or_false, or_self, not_true_eq_false, not_false_eq_true, i_m1lt, i_m1le, i_nlt1, i_nle1, i_ne1, i_1ne]
    rw [ih (i + 1) n (by omega) (fun j h1 h2 => hg j (by omega) (by omega)), show i + 1 + k = i + (k + 1) by omega]
theorem r_like {f1 f2 f3 : Nat → Int32} {r l x lr xr : Nat} {sr s : Nat → Nat} (hr : r < 10) (hl : l ≤ 4) (hlr : lr ≤ 4) (hx : x < 6) (hxr : xr < 6)
    (hf1 : f1 r = nI (6 + xr)) (hf3 : f3 r = nI lr) (hd1 : f1 11 = nI (6 + x)) (hd3 : f3 11 = nI l) (hs : ∀ k, k < lr → sr k < 12 ∧ f2 (r * 4 + k) = nI (sr k)) (hd2 : ∀ k, k < l → s k < 12 ∧ f2 (44 + k) = nI (s k)) :
    ((xr = x ∧ lr = l ∧ ∀ k, k < l → sr k = s k) → S_Grammar_isLikeDraft (nI r) f1 f2 f3 = some (nI 1)) ∧ (¬ (xr = x ∧ lr = l ∧ ∀ k, k < l → sr k = s k) → S_Grammar_isLikeDraft (nI r) f1 f2 f3 = some (nI 0)) := by
  by_cases h1 : xr = x
  · by_cases h2 : lr = l
    · subst h1 h2
      have hh : ∀ k, k < lr → sr k < 12 ∧ s k < 12 ∧ f2 (r * 4 + k) = nI (sr k) ∧ f2 (44 + k) = nI (s k) := fun k hk => ⟨(hs k hk).1, (hd2 k hk).1, (hs k hk).2, (hd2 k hk).2⟩
      have hS : S_Grammar_isLikeDraft (nI r) f1 f2 f3 = F_Grammar_isLikeDraft f1 f2 f3 fuel_ 0 (nI r) (nI 0) := by
        simp (disch := omega) only [S_Grammar_isLikeDraft, hf1, hf3, hd1, hd3, i_lit, nI_ltI, nI_leI, nI_eq, nI_add, pk_mul, pk_sub, nI_clamp, if_pos, if_neg, if_true, if_false, Option.bind_some, true_or, or_true, false_or, or_false, or_self, not_true_eq_false, not_false_eq_true, i_m1lt, i_m1le, i_nlt1, i_nle1, i_ne1, i_1ne]
      refine ⟨fun hp => ?_, fun hn => ?_⟩
      · obtain ⟨n, hn⟩ := fuelled (k := 1 + lr) (by omega)
        rw [hS, hn, show n + (1 + lr) = n + 1 + lr by omega, r_like0 hr hl hh hf3 lr 0 (n + 1) (by omega) (fun j _ h => hp.2.2 j (by omega)), Nat.zero_add]
        show B_Grammar_isLikeDraft_0 _ f1 f2 f3 (nI r) (nI lr) = _
        simp (disch := omega) only [B_Grammar_isLikeDraft_0, hf3, i_lit, nI_ltI, nI_leI, nI_eq, nI_add, pk_mul, pk_sub, nI_clamp, if_pos, if_neg, if_true, if_false, Option.bind_some, true_or, or_true, false_or, or_false, or_self, not_true_eq_false, not_false_eq_true, i_m1lt, i_m1le, i_nlt1, i_nle1, i_ne1, i_1ne]
      · obtain ⟨j0, hj0⟩ : ∃ j, j < lr ∧ ¬ sr j = s j := by
          apply Classical.byContradiction
          intro hno
          exact hn ⟨rfl, rfl, fun j h => Classical.byContradiction fun h2 => hno ⟨j, h, h2⟩⟩
        obtain ⟨j, ⟨hjw, hb⟩, hmin⟩ := pk_least (fun j => j < lr ∧ ¬ sr j = s j) ⟨j0, hj0⟩
        obtain ⟨n, hn⟩ := fuelled (k := 1 + j) (by omega)
        rw [hS, hn, show n + (1 + j) = n + 1 + j by omega, r_like0 hr hl hh hf3 j 0 (n + 1) (by omega) (fun i _ hi => Classical.byContradiction fun h2 => hmin i (by omega) ⟨by omega, h2⟩), Nat.zero_add]
        show B_Grammar_isLikeDraft_0 _ f1 f2 f3 (nI r) (nI j) = _
        have hj := hh j hjw
        simp (disch := omega) only [B_Grammar_isLikeDraft_0, hf3, hj.2.2.1, hj.2.2.2, i_lit, nI_ltI, nI_leI, nI_eq, nI_add, pk_mul, pk_sub, nI_clamp, if_pos, if_neg, if_true, if_false, Option.bind_some, true_or, or_true, false_or, or_false, or_self, not_true_eq_false, not_false_eq_true, i_m1lt, i_m1le, i_nlt1, i_nle1, i_ne1, i_1ne]
    · refine ⟨fun hp => absurd hp.2.1 h2, fun _ => ?_⟩
      subst h1
      simp (disch := omega) only [S_Grammar_isLikeDraft, hf1, hf3, hd1, hd3, i_lit, nI_ltI, nI_leI, nI_eq, nI_add, pk_mul, pk_sub, nI_clamp, if_pos, if_neg, if_true, if_false, Option.bind_some, true_or, or_true, false_or, or_false, or_self, not_true_eq_false, not_false_eq_true, i_m1lt, i_m1le, i_nlt1, i_nle1, i_ne1, i_1ne]
  · refine ⟨fun hp => absurd hp.1 h1, fun _ => ?_⟩
    simp (disch := omega) only [S_Grammar_isLikeDraft, hf1, hd1, i_lit, nI_ltI, nI_leI, nI_eq, nI_add, pk_mul, pk_sub, nI_clamp, if_pos, if_neg, if_true, if_false, Option.bind_some, true_or, or_true, false_or, or_false, or_self, not_true_eq_false, not_false_eq_true, i_m1lt, i_m1le, i_nlt1, i_nle1, i_ne1, i_1ne]
/-- the class looks for the draft among the rules -/
theorem r_knows {n x l : Nat} {lf ln : Nat → Nat} {sy : Nat → Nat → Nat} {s : Nat → Nat} {f1 f2 f3 : Nat → Int32} (hn : n ≤ 10) (hl : l ≤ 4) (hx : x < 6)
    (hr : ∀ r, r < n → lf r < 6 ∧ ln r ≤ 4 ∧ f1 r = nI (6 + lf r) ∧ f3 r = nI (ln r) ∧ ∀ k, k < ln r → sy r k < 12 ∧ f2 (r * 4 + k) = nI (sy r k))
    (hd1 : f1 11 = nI (6 + x)) (hd3 : f3 11 = nI l) (hd2 : ∀ k, k < l → s k < 12 ∧ f2 (44 + k) = nI (s k)) :
    ((∃ r, r < n ∧ smr lf ln sy x l s r) → S_Grammar_knowsDraft (nI n) f1 f2 f3 = some (nI 1)) ∧ ((¬ ∃ r, r < n ∧ smr lf ln sy x l s r) → S_Grammar_knowsDraft (nI n) f1 f2 f3 = some (nI 0)) := by
  have like := fun r (h : r < n) => r_like (r := r) (l := l) (x := x) (s := s) (sr := sy r) (by omega) hl (hr r h).2.1 hx (hr r h).1 (hr r h).2.2.1 (hr r h).2.2.2.1 hd1 hd3 (hr r h).2.2.2.2 hd2
  have scan : ∀ k i m : Nat, i + k ≤ n → (∀ j, i ≤ j → j < i + k → ¬ smr lf ln sy x l s j) → F_Grammar_knowsDraft (nI n) f1 f2 f3 (m + k) 0 (nI i) = F_Grammar_knowsDraft (nI n) f1 f2 f3 m 0 (nI (i + k)) := by
    intro k
    induction k with
    | zero => intro i n h hg; rfl
    | succ k ih =>
      intro i m h hg
      show B_Grammar_knowsDraft_0 (F_Grammar_knowsDraft (nI n) f1 f2 f3 (m + k)) (nI n) f1 f2 f3 (nI i) = _
      simp (disch := omega) only [B_Grammar_knowsDraft_0, (like i (by omega)).2 (hg i (by omega) (by omega)), i_lit, nI_ltI, nI_leI, nI_eq, nI_add, pk_mul, pk_sub, nI_clamp, if_pos, if_neg, if_true, if_false, Option.bind_some, true_or, or_true, false_or, or_false, or_self, not_true_eq_false, not_false_eq_true, i_m1lt, i_m1le, i_nlt1, i_nle1, i_ne1, i_1ne]
      rw [ih (i + 1) m (by omega) (fun j h1 h2 => hg j (by omega) (by omega)), show i + 1 + k = i + (k + 1) by omega]
  refine ⟨fun he => ?_, fun hno => ?_⟩
  · obtain ⟨j, ⟨hjn, hj⟩, hmin⟩ := pk_least (fun r => r < n ∧ smr lf ln sy x l s r) he
    obtain ⟨m, hm⟩ := fuelled (k := 1 + j) (by omega)
    rw [S_Grammar_knowsDraft, hm, show m + (1 + j) = m + 1 + j by omega]
    have := scan j 0 (m + 1) (by omega) (fun i _ hi h2 => hmin i (by omega) ⟨by omega, h2⟩)
    rw [Nat.zero_add] at this
    refine this.trans ?_
    show B_Grammar_knowsDraft_0 _ (nI n) f1 f2 f3 (nI j) = _
    simp (disch := omega) only [B_Grammar_knowsDraft_0, (like j hjn).1 hj, i_lit, nI_ltI, nI_leI, nI_eq, nI_add, pk_mul, pk_sub, nI_clamp, if_pos, if_neg, if_true, if_false, Option.bind_some, true_or, or_true, false_or, or_false, or_self, not_true_eq_false, not_false_eq_true, i_m1lt, i_m1le, i_nlt1, i_nle1, i_ne1, i_1ne]
  · obtain ⟨m, hm⟩ := fuelled (k := 1 + n) (by omega)
    rw [S_Grammar_knowsDraft, hm, show m + (1 + n) = m + 1 + n by omega]
    have := scan n 0 (m + 1) (by omega) (fun i _ hi h2 => hno ⟨i, by omega, h2⟩)
    rw [Nat.zero_add] at this
    refine this.trans ?_
    show B_Grammar_knowsDraft_0 _ (nI n) f1 f2 f3 (nI n) = _
    simp (disch := omega) only [B_Grammar_knowsDraft_0, i_lit, nI_ltI, nI_leI, nI_eq, nI_add, pk_mul, pk_sub, nI_clamp, if_pos, if_neg, if_true, if_false, Option.bind_some, true_or, or_true, false_or, or_false, or_self, not_true_eq_false, not_false_eq_true, i_m1lt, i_m1le, i_nlt1, i_nle1, i_ne1, i_1ne]
theorem r_add0 {n : Nat} (hn : n < 10) (f1 f2 f3 : Nat → Int32) :
    ∀ k i m : Nat, i + k ≤ 4 → F_Grammar_addDraft (m + k) 0 (nI i) (nI n) f1 (fl f2 (fun j => f2 (44 + (j - n * 4))) (n * 4) i) f3 = F_Grammar_addDraft m 0 (nI (i + k)) (nI n) f1 (fl f2 (fun j => f2 (44 + (j - n * 4))) (n * 4) (i + k)) f3 := by
  intro k
  induction k with
  | zero => intro i n h; rfl
  | succ k ih =>
    intro i m h
    show B_Grammar_addDraft_0 (F_Grammar_addDraft (m + k)) (nI i) (nI n) f1 _ f3 = _
    have hu := fl_up f2 (fun j => f2 (44 + (j - n * 4))) (n * 4) i
    have e1 : n * 4 + i - n * 4 = i := by omega
    simp only [e1] at hu
    have ho : fl f2 (fun j => f2 (44 + (j - n * 4))) (n * 4) i (44 + i) = f2 (44 + i) := fl_out (by omega)
    simp (disch := omega) only [B_Grammar_addDraft_0, ho, hu, i_lit, nI_ltI, nI_leI, nI_eq, nI_add, pk_mul, pk_sub, nI_clamp, if_pos, if_neg, if_true, if_false, Option.bind_some, true_or, or_true, false_or, or_false, or_self, not_true_eq_false, not_false_eq_true, i_m1lt, i_m1le, i_nlt1, i_nle1, i_ne1, i_1ne]
    rw [ih (i + 1) m (by omega), show i + 1 + k = i + (k + 1) by omega]
theorem r_addD {n : Nat} (hn : n < 10) (f1 f2 f3 : Nat → Int32) : S_Grammar_addDraft (nI n) f1 f2 f3 = some (nI n, nI (n + 1), upd f1 n (f1 11), fl f2 (fun j => f2 (44 + (j - n * 4))) (n * 4) 4, upd f3 n (f3 11)) := by
  obtain ⟨m, hm⟩ := fuelled (k := 1 + 4) (by omega)
  have e := r_add0 hn (upd f1 n (f1 11)) f2 (upd f3 n (f3 11)) 4 0 (m + 1) (by omega)
  rw [Nat.zero_add, fl_0] at e
  have e3 : F_Grammar_addDraft (m + 1) 0 (nI 4) (nI n) (upd f1 n (f1 11)) (fl f2 (fun j => f2 (44 + (j - n * 4))) (n * 4) 4) (upd f3 n (f3 11)) = some (nI n, nI (n + 1), upd f1 n (f1 11), fl f2 (fun j => f2 (44 + (j - n * 4))) (n * 4) 4, upd f3 n (f3 11)) := by
    show B_Grammar_addDraft_0 _ (nI 4) (nI n) _ _ _ = _
    simp (disch := omega) only [B_Grammar_addDraft_0, Nat.add_sub_cancel, i_lit, nI_ltI, nI_leI, nI_eq, nI_add, pk_mul, pk_sub, nI_clamp, if_pos, if_neg, if_true, if_false, Option.bind_some, true_or, or_true, false_or, or_false, or_self, not_true_eq_false, not_false_eq_true, i_m1lt, i_m1le, i_nlt1, i_nle1, i_ne1, i_1ne]
  have hF : F_Grammar_addDraft fuel_ 0 (nI 0) (nI n) (upd f1 n (f1 11)) f2 (upd f3 n (f3 11)) = some (nI n, nI (n + 1), upd f1 n (f1 11), fl f2 (fun j => f2 (44 + (j - n * 4))) (n * 4) 4, upd f3 n (f3 11)) := by
    rw [hm, show m + (1 + 4) = m + 1 + 4 by omega, e, e3]
  simp (disch := omega) only [S_Grammar_addDraft, hF, i_lit, nI_ltI, nI_leI, nI_eq, nI_add, pk_mul, pk_sub, nI_clamp, if_pos, if_neg, if_true, if_false, Option.bind_some, true_or, or_true, false_or, or_false, or_self, not_true_eq_false, not_false_eq_true, i_m1lt, i_m1le, i_nlt1, i_nle1, i_ne1, i_1ne]
