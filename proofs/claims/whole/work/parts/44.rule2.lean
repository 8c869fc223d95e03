/-! the call rule: the reference, and both together -/
def gln (w : Nat) (c : Nat → Nat) : Prop := 2 ≤ w ∧ w ≤ 6 ∧ (65 ≤ c 0 ∧ c 0 ≤ 70) ∧ c 1 = 61 ∧ ∀ k, 2 ≤ k → k < w → gd (c k)
theorem first_bad {P : Nat → Prop} {a b : Nat} (h : ¬ ∀ j, a ≤ j → j < b → P j) : ∃ j, a ≤ j ∧ j < b ∧ ¬ P j ∧ ∀ i, a ≤ i → i < j → P i := by
  obtain ⟨j0, hj0⟩ : ∃ j, a ≤ j ∧ j < b ∧ ¬ P j := by
    apply Classical.byContradiction
    intro hno
    exact h (fun j h1 h2 => Classical.byContradiction fun h3 => hno ⟨j, h1, h2, h3⟩)
  obtain ⟨j, ⟨h1, h2, h3⟩, hmin⟩ := pk_least (fun j => a ≤ j ∧ j < b ∧ ¬ P j) ⟨j0, hj0⟩
  exact ⟨j, h1, h2, h3, fun i hi hij => Classical.byContradiction fun h4 => hmin i hij ⟨hi, by omega, h4⟩⟩
theorem r_read {w : Nat} {c : Nat → Nat} {f : Nat → Int32} (hw : w ≤ 10) (hf : ∀ j, j < w → c j < 127 ∧ f j = nI (c j)) (f1 f2 f3 : Nat → Int32) :
    (gln w c → S_Grammar_readDraft f1 f2 f3 (nI w) f = some (nI 1, upd f1 11 (nI (6 + (c 0 - 65))), fl f2 (fun j => nI (sv (c (j - 42)))) 44 (w - 2), upd f3 11 (nI (w - 2)))) ∧
    (¬ gln w c → ∃ f2', S_Grammar_readDraft f1 f2 f3 (nI w) f = some (nI 0, f1, f2', f3) ∧ ∀ j, j < 44 → f2' j = f2 j) := by
  by_cases h2 : w < 2
  · refine ⟨fun h => absurd h.1 (by omega), fun _ => ⟨f2, ?_, fun _ _ => rfl⟩⟩
    have hs : nI w - nI 2 < nI 0 := pk_sneg (by omega) h2
    have hz : ∃ v, S_Line_symbolAt (nI 0) (nI w) f = some v := by
      by_cases h0 : w = 0
      · subst h0; exact ⟨_, s_symbolAt0 (by omega)⟩
      · exact ⟨_, s_symbolAt hw (show 0 < w by omega) (hf 0 (by omega)).1 (hf 0 (by omega)).2⟩
    obtain ⟨v, hv⟩ := hz
    simp (disch := omega) only [S_Grammar_readDraft, S_Line_size, hv, hs, i_lit, nI_ltI, nI_leI, nI_eq, nI_add, pk_mul, pk_sub, nI_clamp, if_pos, if_neg, if_true, if_false, Option.bind_some, true_or, or_true, false_or, or_false, or_self, not_true_eq_false, not_false_eq_true, i_m1lt, i_m1le, i_nlt1, i_nle1, i_ne1, i_1ne]
  · have h0 := hf 0 (by omega)
    have h1 := hf 1 (by omega)
    have hv := s_symbolAt hw (show 0 < w by omega) h0.1 h0.2
    obtain ⟨l, rfl⟩ : ∃ l, w = l + 2 := ⟨w - 2, by omega⟩
    by_cases h6 : 4 < l
    · refine ⟨fun h => absurd h.2.1 (by omega), fun _ => ⟨f2, ?_, fun _ _ => rfl⟩⟩
      simp (disch := omega) only [S_Grammar_readDraft, S_Line_size, hv, Nat.add_sub_cancel, i_lit, nI_ltI, nI_leI, nI_eq, nI_add, pk_mul, pk_sub, nI_clamp, if_pos, if_neg, if_true, if_false, Option.bind_some, true_or, or_true, false_or, or_false, or_self, not_true_eq_false, not_false_eq_true, i_m1lt, i_m1le, i_nlt1, i_nle1, i_ne1, i_1ne]
    · by_cases hn : 65 ≤ c 0 ∧ c 0 ≤ 70
      · have hg0 : sgn (c 0) = nI (6 + (c 0 - 65)) := by
          unfold sgn; rw [if_neg (by omega), if_pos hn]
        by_cases he : c 1 = 61
        · have hE : S_Line_isEqualsSign (nI 1) (nI (l + 2)) f = some (nI 1) := by
            simp (disch := omega) only [S_Line_isEqualsSign, h1.2, i_lit, nI_ltI, nI_leI, nI_eq, nI_add, pk_mul, pk_sub, nI_clamp, if_pos, if_neg, if_true, if_false, Option.bind_some, true_or, or_true, false_or, or_false, or_self, not_true_eq_false, not_false_eq_true, i_m1lt, i_m1le, i_nlt1, i_nle1, i_ne1, i_1ne]
          have hS : S_Grammar_readDraft f1 f2 f3 (nI (l + 2)) f = F_Grammar_readDraft (nI (l + 2)) f fuel_ 0 (nI l) (nI (6 + (c 0 - 65))) (nI 0) f1 f2 f3 := by
            simp (disch := omega) only [S_Grammar_readDraft, S_Line_size, hv, Nat.add_sub_cancel, hg0, hE, i_lit, nI_ltI, nI_leI, nI_eq, nI_add, pk_mul, pk_sub, nI_clamp, if_pos, if_neg, if_true, if_false, Option.bind_some, true_or, or_true, false_or, or_false, or_self, not_true_eq_false, not_false_eq_true, i_m1lt, i_m1le, i_nlt1, i_nle1, i_ne1, i_1ne]
          refine ⟨fun h => ?_, fun h => ?_⟩
          · obtain ⟨m, hm⟩ := fuelled (k := 1 + l) (by omega)
            have e := r_rd (show l ≤ 4 by omega) hf (nI (6 + (c 0 - 65))) f1 f2 f3 l 0 (m + 1) (by omega) (fun j _ hj => h.2.2.2.2 (j + 2) (by omega) (by omega))
            rw [Nat.zero_add, fl_0] at e
            rw [hS, hm, show m + (1 + l) = m + 1 + l by omega, e]
            show B_Grammar_readDraft_0 _ (nI (l + 2)) f (nI l) _ (nI l) f1 _ f3 = _
            simp (disch := omega) only [B_Grammar_readDraft_0, Nat.add_sub_cancel, i_lit, nI_ltI, nI_leI, nI_eq, nI_add, pk_mul, pk_sub, nI_clamp, if_pos, if_neg, if_true, if_false, Option.bind_some, true_or, or_true, false_or, or_false, or_self, not_true_eq_false, not_false_eq_true, i_m1lt, i_m1le, i_nlt1, i_nle1, i_ne1, i_1ne]
          · have hb : ¬ ∀ j, 0 ≤ j → j < l → gd (c (j + 2)) := fun hall => h ⟨by omega, by omega, hn, he, fun k h2 h3 => by
              have := hall (k - 2) (by omega) (by omega)
              rwa [show k - 2 + 2 = k by omega] at this⟩
            obtain ⟨j, -, hjl, hbad, hgood⟩ := first_bad hb
            obtain ⟨m, hm⟩ := fuelled (k := 1 + j) (by omega)
            have e := r_rd (show l ≤ 4 by omega) hf (nI (6 + (c 0 - 65))) f1 f2 f3 j 0 (m + 1) (by omega) (fun i _ hi => hgood i (by omega) (by omega))
            rw [Nat.zero_add, fl_0] at e
            have hj := hf (j + 2) (by omega)
            have hneg : ¬ nI 0 ≤ -nI 1 := by decide
            refine ⟨fl f2 (fun j => nI (sv (c (j - 42)))) 44 j, ?_, fun i hi => fl_out (Or.inl hi)⟩
            rw [hS, hm, show m + (1 + j) = m + 1 + j by omega, e]
            show B_Grammar_readDraft_0 _ (nI (l + 2)) f (nI l) _ (nI j) f1 _ f3 = _
            simp (disch := omega) only [B_Grammar_readDraft_0, s_symbolAt hw (show j + 2 < l + 2 by omega) hj.1 hj.2, sgn_b hbad, hneg, i_lit, nI_ltI, nI_leI, nI_eq, nI_add, pk_mul, pk_sub, nI_clamp, if_pos, if_neg, if_true, if_false, Option.bind_some, true_or, or_true, false_or, or_false, or_self, not_true_eq_false, not_false_eq_true, i_m1lt, i_m1le, i_nlt1, i_nle1, i_ne1, i_1ne]
        · refine ⟨fun h => absurd h.2.2.2.1 he, fun _ => ⟨f2, ?_, fun _ _ => rfl⟩⟩
          have hE : S_Line_isEqualsSign (nI 1) (nI (l + 2)) f = some (nI 0) := by
            simp (disch := omega) only [S_Line_isEqualsSign, h1.2, i_lit, nI_ltI, nI_leI, nI_eq, nI_add, pk_mul, pk_sub, nI_clamp, if_pos, if_neg, if_true, if_false, Option.bind_some, true_or, or_true, false_or, or_false, or_self, not_true_eq_false, not_false_eq_true, i_m1lt, i_m1le, i_nlt1, i_nle1, i_ne1, i_1ne]
          simp (disch := omega) only [S_Grammar_readDraft, S_Line_size, hv, Nat.add_sub_cancel, hg0, hE, i_lit, nI_ltI, nI_leI, nI_eq, nI_add, pk_mul, pk_sub, nI_clamp, if_pos, if_neg, if_true, if_false, Option.bind_some, true_or, or_true, false_or, or_false, or_self, not_true_eq_false, not_false_eq_true, i_m1lt, i_m1le, i_nlt1, i_nle1, i_ne1, i_1ne]
      · refine ⟨fun h => absurd h.2.2.1 hn, fun _ => ⟨f2, ?_, fun _ _ => rfl⟩⟩
        have hlt : sgn (c 0) < nI 6 := by
          by_cases hl : 97 ≤ c 0 ∧ c 0 ≤ 102
          · rw [sgn_l hl]; exact nI_lt (by omega) (by omega)
          · rcases sgn_n hl with hs | ⟨k, _, h5, h6, _, _⟩
            · rw [hs]; decide
            · exact absurd ⟨h5, h6⟩ hn
        simp (disch := omega) only [S_Grammar_readDraft, S_Line_size, hv, Nat.add_sub_cancel, hlt, i_lit, nI_ltI, nI_leI, nI_eq, nI_add, pk_mul, pk_sub, nI_clamp, if_pos, if_neg, if_true, if_false, Option.bind_some, true_or, or_true, false_or, or_false, or_self, not_true_eq_false, not_false_eq_true, i_m1lt, i_m1le, i_nlt1, i_nle1, i_ne1, i_1ne]
/-- the reference tests the signs -/
theorem m_r0 {w : Nat} {c : Nat → Nat} {f : Nat → Int32} (hw : w ≤ 10) (hf : ∀ j, j < w → c j < 127 ∧ f j = nI (c j)) (x0 x2 x3 x12 x22 x23 : Int32) (f1 f2 f3 f4 : Nat → Int32) :
    ∀ k i n : Nat, i + k ≤ w → (∀ j, i ≤ j → j < i + k → gd (c j)) → F_Model_rule f (n + k) 0 (nI w) (nI 1) (nI i) (nI 0) (nI 0) x0 x2 x3 x12 x22 x23 f1 f2 f3 f4 = F_Model_rule f n 0 (nI w) (nI 1) (nI (i + k)) (nI 0) (nI 0) x0 x2 x3 x12 x22 x23 f1 f2 f3 f4 := by
  intro k
  induction k with
  | zero => intro i n h hg; rfl
  | succ k ih =>
    intro i n h hg
    show B_Model_rule_0 (F_Model_rule f (n + k)) f (nI w) (nI 1) (nI i) (nI 0) (nI 0) x0 x2 x3 x12 x22 x23 f1 f2 f3 f4 = _
    have hgi := hg i (by omega) (by omega)
    have hi := hf i (by omega)
    have step : B_Model_rule_0 (F_Model_rule f (n + k)) f (nI w) (nI 1) (nI i) (nI 0) (nI 0) x0 x2 x3 x12 x22 x23 f1 f2 f3 f4 = F_Model_rule f (n + k) 0 (nI w) (nI 1) (nI (i + 1)) (nI 0) (nI 0) x0 x2 x3 x12 x22 x23 f1 f2 f3 f4 := by
      unfold gd at hgi
      by_cases hL : 97 ≤ c i ∧ c i ≤ 102
      · simp (disch := omega) only [B_Model_rule_0, hi.2, m_isL hi.1, i_lit, nI_ltI, nI_leI, nI_eq, nI_add, pk_mul, pk_sub, nI_clamp, if_pos, if_neg, if_true, if_false, Option.bind_some, true_or, or_true, false_or, or_false, or_self, not_true_eq_false, not_false_eq_true, i_m1lt, i_m1le, i_nlt1, i_nle1, i_ne1, i_1ne]
      · simp (disch := omega) only [B_Model_rule_0, hi.2, m_isL hi.1, m_isN hi.1, i_lit, nI_ltI, nI_leI, nI_eq, nI_add, pk_mul, pk_sub, nI_clamp, if_pos, if_neg, if_true, if_false, Option.bind_some, true_or, or_true, false_or, or_false, or_self, not_true_eq_false, not_false_eq_true, i_m1lt, i_m1le, i_nlt1, i_nle1, i_ne1, i_1ne]
    rw [step, ih (i + 1) n (by omega) (fun j h1 h2 => hg j (by omega) (by omega)), show i + 1 + k = i + (k + 1) by omega]
theorem m_r1 {w : Nat} {c : Nat → Nat} {f : Nat → Int32} (hw : w ≤ 6) (hf : ∀ j, j < w → c j < 127 ∧ f j = nI (c j)) (hg : ∀ j, 2 ≤ j → j < w → gd (c j)) (l2 x0 x2 x3 x12 x22 x23 : Int32) (f1 f2 f3 f4 : Nat → Int32) :
    ∀ k i n : Nat, i + 2 + k ≤ w → F_Model_rule f (n + k) 1 (nI w) l2 (nI (i + 2)) (nI 0) (nI 0) x0 x2 x3 x12 x22 x23 (fl f1 (fun j => nI (sv (c (j + 2)))) 0 i) f2 f3 f4 = F_Model_rule f n 1 (nI w) l2 (nI (i + k + 2)) (nI 0) (nI 0) x0 x2 x3 x12 x22 x23 (fl f1 (fun j => nI (sv (c (j + 2)))) 0 (i + k)) f2 f3 f4 := by
  intro k
  induction k with
  | zero => intro i n h; rfl
  | succ k ih =>
    intro i n h
    show B_Model_rule_1 (F_Model_rule f (n + k)) f (nI w) l2 (nI (i + 2)) (nI 0) (nI 0) x0 x2 x3 x12 x22 x23 _ f2 f3 f4 = _
    have hgi := hg (i + 2) (by omega) (by omega)
    have hi := hf (i + 2) (by omega)
    have hu := fl_up f1 (fun j => nI (sv (c (j + 2)))) 0 i
    simp only [Nat.zero_add] at hu
    have step : B_Model_rule_1 (F_Model_rule f (n + k)) f (nI w) l2 (nI (i + 2)) (nI 0) (nI 0) x0 x2 x3 x12 x22 x23 (fl f1 (fun j => nI (sv (c (j + 2)))) 0 i) f2 f3 f4 = F_Model_rule f (n + k) 1 (nI w) l2 (nI (i + 1 + 2)) (nI 0) (nI 0) x0 x2 x3 x12 x22 x23 (fl f1 (fun j => nI (sv (c (j + 2)))) 0 (i + 1)) f2 f3 f4 := by
      unfold gd at hgi
      rw [← hu, show i + 1 + 2 = i + 2 + 1 by omega]
      by_cases hL : 97 ≤ c (i + 2) ∧ c (i + 2) ≤ 102
      · have e : sv (c (i + 2)) = c (i + 2) - 97 := by unfold sv; rw [if_pos hL]
        simp (disch := omega) only [B_Model_rule_1, hi.2, m_isL hi.1, e, Nat.add_sub_cancel, i_lit, nI_ltI, nI_leI, nI_eq, nI_add, pk_mul, pk_sub, nI_clamp, if_pos, if_neg, if_true, if_false, Option.bind_some, true_or, or_true, false_or, or_false, or_self, not_true_eq_false, not_false_eq_true, i_m1lt, i_m1le, i_nlt1, i_nle1, i_ne1, i_1ne]
      · have e : sv (c (i + 2)) = 6 + c (i + 2) - 65 := by unfold sv; rw [if_neg hL]; omega
        simp (disch := omega) only [B_Model_rule_1, hi.2, m_isL hi.1, e, Nat.add_sub_cancel, i_lit, nI_ltI, nI_leI, nI_eq, nI_add, pk_mul, pk_sub, nI_clamp, if_pos, if_neg, if_true, if_false, Option.bind_some, true_or, or_true, false_or, or_false, or_self, not_true_eq_false, not_false_eq_true, i_m1lt, i_m1le, i_nlt1, i_nle1, i_ne1, i_1ne]
    rw [step, ih (i + 1) n (by omega), show i + 1 + k = i + (k + 1) by omega]
/-- the reference compares with one rule -/
theorem m_r3 {w r l : Nat} {f : Nat → Int32} {sr s : Nat → Nat} {f1 f4 : Nat → Int32} (hr : r < 10) (hl : l ≤ 4) (hw : w = l + 2) (hs : ∀ k, k < l → sr k < 12 ∧ s k < 12 ∧ f4 (4 * r + k) = nI (sr k) ∧ f1 k = nI (s k)) (l2 x0 x2 x3 x12 x22 x23 : Int32) (f2 f3 : Nat → Int32) :
    ∀ k i n : Nat, i + k ≤ l → (∀ j, i ≤ j → j < i + k → sr j = s j) → F_Model_rule f (n + k) 3 (nI w) l2 (nI r) (nI 1) (nI i) x0 x2 x3 x12 x22 x23 f1 f2 f3 f4 = F_Model_rule f n 3 (nI w) l2 (nI r) (nI 1) (nI (i + k)) x0 x2 x3 x12 x22 x23 f1 f2 f3 f4 := by
  intro k
  induction k with
  | zero => intro i n h hg; rfl
  | succ k ih =>
    intro i n h hg
    show B_Model_rule_3 (F_Model_rule f (n + k)) f (nI w) l2 (nI r) (nI 1) (nI i) x0 x2 x3 x12 x22 x23 f1 f2 f3 f4 = _
    have hi := hs i (by omega)
    have he := hg i (by omega) (by omega)
    simp (disch := omega) only [B_Model_rule_3, hi.2.2.1, hi.2.2.2, he, hw, Nat.add_sub_cancel, i_lit, nI_ltI, nI_leI, nI_eq, nI_add, pk_mul, pk_sub, nI_clamp, if_pos, if_neg, if_true, if_false, Option.bind_some, true_or, or_true, false_or, or_false, or_self, not_true_eq_false, not_false_eq_true, i_m1lt, i_m1le, i_nlt1, i_nle1, i_ne1, i_1ne]
    rw [← hw, ih (i + 1) n (by omega) (fun j h1 h2 => hg j (by omega) (by omega)), show i + 1 + k = i + (k + 1) by omega]
theorem m_r2 {w r l x lr xr n : Nat} {f : Nat → Int32} {sr s : Nat → Nat} {f1 f2 f3 f4 : Nat → Int32} {c0 : Nat} (hn : n ≤ 10) (hr : r < n) (hl : l ≤ 4) (hlr : lr ≤ 4) (hxr : xr < 6) (hw : w = l + 2) (hc0 : f 0 = nI c0) (hc : 65 ≤ c0 ∧ c0 ≤ 70) (hx : x = c0 - 65)
    (hf2 : f2 r = nI xr) (hf3 : f3 r = nI lr) (hs : ∀ k, k < lr → sr k < 12 ∧ f4 (4 * r + k) = nI (sr k)) (hd : ∀ k, k < l → s k < 12 ∧ f1 k = nI (s k)) (l2 x0 x2 x12 x22 x23 : Int32) :
    ((xr = x ∧ lr = l ∧ ∀ k, k < l → sr k = s k) → ∃ d, d ≤ 10 ∧ ∀ m, F_Model_rule f (m + d) 2 (nI w) l2 (nI r) (nI 0) (nI 0) x0 x2 (nI n) x12 x22 x23 f1 f2 f3 f4 = some (nI 0, nI 1, x2, nI n, x12, x22, x23, f1, f2, f3, f4)) ∧
    (¬ (xr = x ∧ lr = l ∧ ∀ k, k < l → sr k = s k) → ∃ d, d ≤ 10 ∧ ∀ m, F_Model_rule f (m + d) 2 (nI w) l2 (nI r) (nI 0) (nI 0) x0 x2 (nI n) x12 x22 x23 f1 f2 f3 f4 = F_Model_rule f m 2 (nI w) l2 (nI (r + 1)) (nI 0) (nI 0) x0 x2 (nI n) x12 x22 x23 f1 f2 f3 f4) := by
  by_cases h1 : xr = x ∧ lr = l
  · obtain ⟨h1, h2⟩ := h1
    subst h2
    have hh : ∀ k, k < lr → sr k < 12 ∧ s k < 12 ∧ f4 (4 * r + k) = nI (sr k) ∧ f1 k = nI (s k) := fun k hk => ⟨(hs k hk).1, (hd k hk).1, (hs k hk).2, (hd k hk).2⟩
    have e2 : ∀ m, F_Model_rule f (m + 1) 2 (nI w) l2 (nI r) (nI 0) (nI 0) x0 x2 (nI n) x12 x22 x23 f1 f2 f3 f4 = F_Model_rule f m 3 (nI w) l2 (nI r) (nI 1) (nI 0) x0 x2 (nI n) x12 x22 x23 f1 f2 f3 f4 := by
      intro m
      show B_Model_rule_2 (F_Model_rule f m) f (nI w) l2 (nI r) (nI 0) (nI 0) x0 x2 (nI n) x12 x22 x23 f1 f2 f3 f4 = _
      have : xr = c0 - 65 := by omega
      simp (disch := omega) only [B_Model_rule_2, hf2, hf3, hc0, this, hw, Nat.add_sub_cancel, i_lit, nI_ltI, nI_leI, nI_eq, nI_add, pk_mul, pk_sub, nI_clamp, if_pos, if_neg, if_true, if_false, Option.bind_some, true_or, or_true, false_or, or_false, or_self, not_true_eq_false, not_false_eq_true, i_m1lt, i_m1le, i_nlt1, i_nle1, i_ne1, i_1ne]
    refine ⟨fun hp => ⟨1 + lr + 1, by omega, fun m => ?_⟩, fun hno => ?_⟩
    · rw [show m + (1 + lr + 1) = m + 1 + lr + 1 by omega, e2, m_r3 (by omega) hl hw hh l2 x0 x2 (nI n) x12 x22 x23 f2 f3 lr 0 (m + 1) (by omega) (fun j _ h => hp.2.2 j (by omega)), Nat.zero_add]
      show B_Model_rule_3 (F_Model_rule f m) f (nI w) l2 (nI r) (nI 1) (nI lr) x0 x2 (nI n) x12 x22 x23 f1 f2 f3 f4 = _
      simp (disch := omega) only [B_Model_rule_3, hw, Nat.add_sub_cancel, S_Model_fails, i_lit, nI_ltI, nI_leI, nI_eq, nI_add, pk_mul, pk_sub, nI_clamp, if_pos, if_neg, if_true, if_false, Option.bind_some, true_or, or_true, false_or, or_false, or_self, not_true_eq_false, not_false_eq_true, i_m1lt, i_m1le, i_nlt1, i_nle1, i_ne1, i_1ne]
    · have hb : ¬ ∀ j, 0 ≤ j → j < lr → sr j = s j := fun hall => hno ⟨h1, rfl, fun k hk => hall k (by omega) hk⟩
      obtain ⟨j, -, hjl, hbad, hgood⟩ := first_bad hb
      refine ⟨1 + 1 + j + 1, by omega, fun m => ?_⟩
      rw [show m + (1 + 1 + j + 1) = m + 1 + 1 + j + 1 by omega, e2, m_r3 (by omega) hl hw hh l2 x0 x2 (nI n) x12 x22 x23 f2 f3 j 0 (m + 1 + 1) (by omega) (fun i _ h => hgood i (by omega) (by omega)), Nat.zero_add]
      have hj := hh j hjl
      have e3 : F_Model_rule f (m + 1 + 1) 3 (nI w) l2 (nI r) (nI 1) (nI j) x0 x2 (nI n) x12 x22 x23 f1 f2 f3 f4 = F_Model_rule f (m + 1) 3 (nI w) l2 (nI r) (nI 0) (nI (j + 1)) x0 x2 (nI n) x12 x22 x23 f1 f2 f3 f4 := by
        show B_Model_rule_3 (F_Model_rule f (m + 1)) f (nI w) l2 (nI r) (nI 1) (nI j) x0 x2 (nI n) x12 x22 x23 f1 f2 f3 f4 = _
        simp (disch := omega) only [B_Model_rule_3, hw, Nat.add_sub_cancel, hj.2.2.1, hj.2.2.2, i_lit, nI_ltI, nI_leI, nI_eq, nI_add, pk_mul, pk_sub, nI_clamp, if_pos, if_neg, if_true, if_false, Option.bind_some, true_or, or_true, false_or, or_false, or_self, not_true_eq_false, not_false_eq_true, i_m1lt, i_m1le, i_nlt1, i_nle1, i_ne1, i_1ne]
      rw [e3]
      show B_Model_rule_3 (F_Model_rule f m) f (nI w) l2 (nI r) (nI 0) (nI (j + 1)) x0 x2 (nI n) x12 x22 x23 f1 f2 f3 f4 = _
      by_cases hjj : lr ≤ j + 1
      · simp (disch := omega) only [B_Model_rule_3, hw, Nat.add_sub_cancel, i_lit, nI_ltI, nI_leI, nI_eq, nI_add, pk_mul, pk_sub, nI_clamp, if_pos, if_neg, if_true, if_false, Option.bind_some, true_or, or_true, false_or, or_false, or_self, not_true_eq_false, not_false_eq_true, i_m1lt, i_m1le, i_nlt1, i_nle1, i_ne1, i_1ne]
      · simp (disch := omega) only [B_Model_rule_3, hw, Nat.add_sub_cancel, i_lit, nI_ltI, nI_leI, nI_eq, nI_add, pk_mul, pk_sub, nI_clamp, if_pos, if_neg, if_true, if_false, Option.bind_some, true_or, or_true, false_or, or_false, or_self, not_true_eq_false, not_false_eq_true, i_m1lt, i_m1le, i_nlt1, i_nle1, i_ne1, i_1ne]
  · refine ⟨fun hp => absurd ⟨hp.1, hp.2.1⟩ h1, fun _ => ⟨2, by omega, fun m => ?_⟩⟩
    have e2 : F_Model_rule f (m + 2) 2 (nI w) l2 (nI r) (nI 0) (nI 0) x0 x2 (nI n) x12 x22 x23 f1 f2 f3 f4 = F_Model_rule f (m + 1) 3 (nI w) l2 (nI r) (nI 0) (nI 0) x0 x2 (nI n) x12 x22 x23 f1 f2 f3 f4 := by
      show B_Model_rule_2 (F_Model_rule f (m + 1)) f (nI w) l2 (nI r) (nI 0) (nI 0) x0 x2 (nI n) x12 x22 x23 f1 f2 f3 f4 = _
      by_cases h3 : xr = x
      · have h4 : lr ≠ l := fun h => h1 ⟨h3, h⟩
        have : xr = c0 - 65 := by omega
        simp (disch := omega) only [B_Model_rule_2, hf2, hf3, hc0, this, hw, Nat.add_sub_cancel, i_lit, nI_ltI, nI_leI, nI_eq, nI_add, pk_mul, pk_sub, nI_clamp, if_pos, if_neg, if_true, if_false, Option.bind_some, true_or, or_true, false_or, or_false, or_self, not_true_eq_false, not_false_eq_true, i_m1lt, i_m1le, i_nlt1, i_nle1, i_ne1, i_1ne]
      · simp (disch := omega) only [B_Model_rule_2, hf2, hf3, hc0, hw, Nat.add_sub_cancel, i_lit, nI_ltI, nI_leI, nI_eq, nI_add, pk_mul, pk_sub, nI_clamp, if_pos, if_neg, if_true, if_false, Option.bind_some, true_or, or_true, false_or, or_false, or_self, not_true_eq_false, not_false_eq_true, i_m1lt, i_m1le, i_nlt1, i_nle1, i_ne1, i_1ne]
    rw [e2]
    show B_Model_rule_3 (F_Model_rule f m) f (nI w) l2 (nI r) (nI 0) (nI 0) x0 x2 (nI n) x12 x22 x23 f1 f2 f3 f4 = _
    by_cases hjj : l ≤ 0
    · simp (disch := omega) only [B_Model_rule_3, hw, Nat.add_sub_cancel, i_lit, nI_ltI, nI_leI, nI_eq, nI_add, pk_mul, pk_sub, nI_clamp, if_pos, if_neg, if_true, if_false, Option.bind_some, true_or, or_true, false_or, or_false, or_self, not_true_eq_false, not_false_eq_true, i_m1lt, i_m1le, i_nlt1, i_nle1, i_ne1, i_1ne]
    · simp (disch := omega) only [B_Model_rule_3, hw, Nat.add_sub_cancel, i_lit, nI_ltI, nI_leI, nI_eq, nI_add, pk_mul, pk_sub, nI_clamp, if_pos, if_neg, if_true, if_false, Option.bind_some, true_or, or_true, false_or, or_false, or_self, not_true_eq_false, not_false_eq_true, i_m1lt, i_m1le, i_nlt1, i_nle1, i_ne1, i_1ne]
theorem m_r4 {w n l : Nat} {f : Nat → Int32} (hn : n < 10) (hl : l ≤ 4) (hw : w = l + 2) (l2 x0 x2 x12 x22 x23 : Int32) (f1 f2 f3 f4 : Nat → Int32) :
    ∀ k i m : Nat, i + k ≤ l → F_Model_rule f (m + k) 4 (nI w) l2 (nI i) (nI 0) (nI 0) x0 x2 (nI n) x12 x22 x23 f1 f2 f3 (fl f4 (fun j => f1 (j - 4 * n)) (4 * n) i) = F_Model_rule f m 4 (nI w) l2 (nI (i + k)) (nI 0) (nI 0) x0 x2 (nI n) x12 x22 x23 f1 f2 f3 (fl f4 (fun j => f1 (j - 4 * n)) (4 * n) (i + k)) := by
  intro k
  induction k with
  | zero => intro i n h; rfl
  | succ k ih =>
    intro i m h
    show B_Model_rule_4 (F_Model_rule f (m + k)) f (nI w) l2 (nI i) (nI 0) (nI 0) x0 x2 (nI n) x12 x22 x23 f1 f2 f3 _ = _
    have hu := fl_up f4 (fun j => f1 (j - 4 * n)) (4 * n) i
    have e1 : 4 * n + i - 4 * n = i := by omega
    simp only [e1] at hu
    simp (disch := omega) only [B_Model_rule_4, hu, hw, Nat.add_sub_cancel, i_lit, nI_ltI, nI_leI, nI_eq, nI_add, pk_mul, pk_sub, nI_clamp, if_pos, if_neg, if_true, if_false, Option.bind_some, true_or, or_true, false_or, or_false, or_self, not_true_eq_false, not_false_eq_true, i_m1lt, i_m1le, i_nlt1, i_nle1, i_ne1, i_1ne]
    rw [← hw, ih (i + 1) m (by omega), show i + 1 + k = i + (k + 1) by omega]

theorem m_r2s {w l x n : Nat} {f : Nat → Int32} {lf ln : Nat → Nat} {sy : Nat → Nat → Nat} {s : Nat → Nat} {f1 f2 f3 f4 : Nat → Int32} {c0 : Nat} (hn : n ≤ 10) (hl : l ≤ 4) (hw : w = l + 2) (hc0 : f 0 = nI c0) (hc : 65 ≤ c0 ∧ c0 ≤ 70) (hx : x = c0 - 65)
    (hr : ∀ r, r < n → lf r < 6 ∧ ln r ≤ 4 ∧ f2 r = nI (lf r) ∧ f3 r = nI (ln r) ∧ ∀ k, k < ln r → sy r k < 12 ∧ f4 (4 * r + k) = nI (sy r k)) (hd : ∀ k, k < l → s k < 12 ∧ f1 k = nI (s k)) (l2 x0 x2 x12 x22 x23 : Int32) :
    ∀ k i, i + k ≤ n → (∀ j, i ≤ j → j < i + k → ¬ smr lf ln sy x l s j) → ∃ d, d ≤ 10 * k ∧ ∀ m, F_Model_rule f (m + d) 2 (nI w) l2 (nI i) (nI 0) (nI 0) x0 x2 (nI n) x12 x22 x23 f1 f2 f3 f4 = F_Model_rule f m 2 (nI w) l2 (nI (i + k)) (nI 0) (nI 0) x0 x2 (nI n) x12 x22 x23 f1 f2 f3 f4 := by
  intro k
  induction k with
  | zero => intro i h hg; exact ⟨0, by omega, fun m => rfl⟩
  | succ k ih =>
    intro i h hg
    have hi := hr i (by omega)
    obtain ⟨d1, hd1, e1⟩ := (m_r2 (r := i) (w := w) (l := l) (x := x) (sr := sy i) (s := s) hn (by omega) hl hi.2.1 hi.1 hw hc0 hc hx hi.2.2.1 hi.2.2.2.1 hi.2.2.2.2 hd l2 x0 x2 x12 x22 x23).2 (hg i (by omega) (by omega))
    obtain ⟨d2, hd2, e2⟩ := ih (i + 1) (by omega) (fun j h1 h2 => hg j (by omega) (by omega))
    refine ⟨d2 + d1, by omega, fun m => ?_⟩
    rw [show m + (d2 + d1) = m + d2 + d1 by omega, e1, e2, show i + 1 + k = i + (k + 1) by omega]
theorem p_rule {w n : Nat} {a b an bn x3 x4 x5 x43 x44 y0 y12 y22 y23 : Int32} {f g f5 f6 f7 h1 h2 h3 h4 : Nat → Int32} {lf ln : Nat → Nat} {sy : Nat → Nat → Nat} (hL : IL w a f b g) (hR : IR n lf ln sy an f5 f6 f7 bn h2 h3 h4) :
    (∃ (q5 q6 q7 r1 : Nat → Int32), S_Desk_rule x3 x4 x5 an a x43 x44 f5 f6 f7 f = some (1, 0, x3, x4, x5, an, 0, x43, x44, q5, q6, q7) ∧ S_Model_rule y0 b bn y12 y22 y23 h1 h2 h3 h4 g = some (0, 1, 0, bn, y12, y22, y23, r1, h2, h3, h4) ∧ IR n lf ln sy an q5 q6 q7 bn h2 h3 h4 ∧ (∀ j, j < 10 → q5 j = f5 j ∧ q7 j = f7 j) ∧ q7 10 = f7 10) ∨
    (∃ (q5 q6 q7 r1 : Nat → Int32), S_Desk_rule x3 x4 x5 an a x43 x44 f5 f6 f7 f = some (2, 0, x3, x4, x5, an, 0, x43, x44, q5, q6, q7) ∧ S_Model_rule y0 b bn y12 y22 y23 h1 h2 h3 h4 g = some (0, 2, 0, bn, y12, y22, y23, r1, h2, h3, h4) ∧ IR n lf ln sy an q5 q6 q7 bn h2 h3 h4 ∧ (∀ j, j < 10 → q5 j = f5 j ∧ q7 j = f7 j) ∧ q7 10 = f7 10) ∨
    (∃ (lf' ln' : Nat → Nat) (sy' : Nat → Nat → Nat) (q5 q6 q7 r1 r2 r3 r4 : Nat → Int32), S_Desk_rule x3 x4 x5 an a x43 x44 f5 f6 f7 f = some (0, an, 0, 0, 0, nI (n + 1), 0, 0, 0, q5, q6, q7) ∧ S_Model_rule y0 b bn y12 y22 y23 h1 h2 h3 h4 g = some (an, 0, 0, nI (n + 1), 0, 0, 0, r1, r2, r3, r4) ∧ IR (n + 1) lf' ln' sy' (nI (n + 1)) q5 q6 q7 (nI (n + 1)) r2 r3 r4) := by
  obtain ⟨hw, rfl, rfl, hj⟩ := hL
  obtain ⟨hn, rfl, rfl, hr, hz⟩ := hR
  obtain ⟨c, hc⟩ : ∃ c : Nat → Nat, ∀ j, j < w → c j < 127 ∧ f j = nI (c j) ∧ g j = nI (c j) := by
    refine ⟨fun j => (f j).toNatClampNeg, fun j h => ?_⟩
    obtain ⟨e, c, h1, h2, h3⟩ := hj j h
    have h4 : (f j).toNatClampNeg = c := by rw [h3, nI_clamp (by omega)]
    exact ⟨by show (f j).toNatClampNeg < 127; omega, by show f j = nI (f j).toNatClampNeg; rw [h4, h3], by show g j = nI (f j).toNatClampNeg; rw [h4, ← e, h3]⟩
  have hf : ∀ j, j < w → c j < 127 ∧ f j = nI (c j) := fun j h => ⟨(hc j h).1, (hc j h).2.1⟩
  have hg : ∀ j, j < w → c j < 127 ∧ g j = nI (c j) := fun j h => ⟨(hc j h).1, (hc j h).2.2⟩
  have hkeep : ∀ q5 q6 q7 : Nat → Int32, (∀ j, j < 10 → q5 j = f5 j ∧ q7 j = f7 j) → (∀ j, j < 44 → q6 j = f6 j) → IR n lf ln sy (nI n) q5 q6 q7 (nI n) h2 h3 h4 := by
    intro q5 q6 q7 e1 e2
    refine ⟨hn, rfl, rfl, fun r h => ?_, fun r h1 h2 => by rw [(e1 r h2).2]; exact hz r h1 h2⟩
    obtain ⟨a1, a2, a3, a4, a5, a6, a7⟩ := hr r h
    refine ⟨a1, a2, by rw [(e1 r (by omega)).1]; exact a3, a4, by rw [(e1 r (by omega)).2]; exact a5, a6, fun k hk => ⟨(a7 k hk).1, by rw [e2 _ (by omega)]; exact (a7 k hk).2.1, (a7 k hk).2.2⟩⟩
  have hrd := r_read hw hf f5 f6 f7
  by_cases hgl : gln w c
  · obtain ⟨g1, g2, g3, g4, g5⟩ := id hgl
    obtain ⟨l, rfl⟩ : ∃ l, w = l + 2 := ⟨w - 2, by omega⟩
    have hl : l ≤ 4 := by omega
    have hrd := hrd.1 hgl
    rw [Nat.add_sub_cancel] at hrd
    obtain ⟨x, hx⟩ : ∃ x, x = c 0 - 65 := ⟨_, rfl⟩
    rw [← hx] at hrd
    have hx6 : x < 6 := by omega
    obtain ⟨s, hs⟩ : ∃ s : Nat → Nat, s = fun k => sv (c (k + 2)) := ⟨_, rfl⟩
    have hsk : ∀ k, k < l → s k < 12 := fun k hk => by rw [hs]; exact sv_lt (g5 (k + 2) (by omega) (by omega))
    obtain ⟨q5, hq5⟩ : ∃ q, q = upd f5 11 (nI (6 + x)) := ⟨_, rfl⟩
    obtain ⟨q6, hq6⟩ : ∃ q, q = fl f6 (fun j => nI (sv (c (j - 42)))) 44 l := ⟨_, rfl⟩
    obtain ⟨q7, hq7⟩ : ∃ q, q = upd f7 11 (nI l) := ⟨_, rfl⟩
    rw [← hq5, ← hq6, ← hq7] at hrd
    have k1 : ∀ j, j < 10 → q5 j = f5 j ∧ q7 j = f7 j := fun j h => ⟨by rw [hq5, pk_un (by omega)], by rw [hq7, pk_un (by omega)]⟩
    have k1' : q7 10 = f7 10 := by rw [hq7, pk_un (by omega)]
    have k2 : ∀ j, j < 44 → q6 j = f6 j := fun j h => by rw [hq6, fl_out (Or.inl h)]
    have d1 : q5 11 = nI (6 + x) := by rw [hq5, pk_us]
    have d3 : q7 11 = nI l := by rw [hq7, pk_us]
    have d2 : ∀ k, k < l → s k < 12 ∧ q6 (44 + k) = nI (s k) := fun k hk => ⟨hsk k hk, by rw [hq6, fl_in (by omega) (by omega), hs, show 44 + k - 42 = k + 2 by omega]⟩
    have hIR := hkeep q5 q6 q7 k1 k2
    have hrows : ∀ r, r < n → lf r < 6 ∧ ln r ≤ 4 ∧ q5 r = nI (6 + lf r) ∧ q7 r = nI (ln r) ∧ ∀ k, k < ln r → sy r k < 12 ∧ q6 (r * 4 + k) = nI (sy r k) := fun r h => by
      obtain ⟨a1, a2, a3, a4, a5, a6, a7⟩ := hIR.2.2.2.1 r h
      exact ⟨a1, a2, a3, a5, fun k hk => ⟨(a7 k hk).1, (a7 k hk).2.1⟩⟩
    have hkn := r_knows (n := n) (x := x) (l := l) (lf := lf) (ln := ln) (sy := sy) (s := s) hn hl hx6 hrows d1 d3 d2
    obtain ⟨p1, hp1⟩ : ∃ q, q = fl h1 (fun j => nI (sv (c (j + 2)))) 0 l := ⟨_, rfl⟩
    have m2 : ∀ k, k < l → s k < 12 ∧ p1 k = nI (s k) := fun k hk => ⟨hsk k hk, by rw [hp1, fl_in (by omega) (by omega), hs]⟩
    have hmrows : ∀ r, r < n → lf r < 6 ∧ ln r ≤ 4 ∧ h2 r = nI (lf r) ∧ h3 r = nI (ln r) ∧ ∀ k, k < ln r → sy r k < 12 ∧ h4 (4 * r + k) = nI (sy r k) := fun r h => by
      obtain ⟨a1, a2, a3, a4, a5, a6, a7⟩ := hr r h
      exact ⟨a1, a2, a4, a6, fun k hk => ⟨(a7 k hk).1, (a7 k hk).2.2⟩⟩
    have hg0 := hg 0 (by omega)
    have hg1 := hg 1 (by omega)
    -- the reference comes to its head 2
    have hM0 : ∀ M, M + (1 + l + 1 + l) = fuel_ → S_Model_rule y0 (nI (l + 2)) (nI n) y12 y22 y23 h1 h2 h3 h4 g = F_Model_rule g M 2 (nI (l + 2)) (nI 1) (nI 0) (nI 0) (nI 0) (nI 0) (nI 0) (nI n) y12 y22 y23 p1 h2 h3 h4 := by
      intro M hM
      have e0 := m_r0 hw hg (nI 0) (nI 0) (nI n) y12 y22 y23 h1 h2 h3 h4 l 2 (M + 1 + l + 1) (by omega) (fun j h5 h6 => g5 j (by omega) (by omega))
      have e1 := m_r1 (show l + 2 ≤ 6 by omega) hg g5 (nI 1) (nI 0) (nI 0) (nI n) y12 y22 y23 h1 h2 h3 h4 l 0 (M + 1) (by omega)
      rw [Nat.zero_add, fl_0, Nat.zero_add] at e1
      rw [show 2 + l = l + 2 by omega] at e0
      have s0 : F_Model_rule g (M + 1 + l + 1) 0 (nI (l + 2)) (nI 1) (nI (l + 2)) (nI 0) (nI 0) (nI 0) (nI 0) (nI n) y12 y22 y23 h1 h2 h3 h4 = F_Model_rule g (M + 1 + l) 1 (nI (l + 2)) (nI 1) (nI 2) (nI 0) (nI 0) (nI 0) (nI 0) (nI n) y12 y22 y23 h1 h2 h3 h4 := by
        show B_Model_rule_0 _ g (nI (l + 2)) (nI 1) (nI (l + 2)) (nI 0) (nI 0) (nI 0) (nI 0) (nI n) y12 y22 y23 h1 h2 h3 h4 = _
        simp (disch := omega) only [B_Model_rule_0, i_lit, nI_ltI, nI_leI, nI_eq, nI_add, pk_mul, pk_sub, nI_clamp, if_pos, if_neg, if_true, if_false, Option.bind_some, true_or, or_true, false_or, or_false, or_self, not_true_eq_false, not_false_eq_true, i_m1lt, i_m1le, i_nlt1, i_nle1, i_ne1, i_1ne]
      have s1 : F_Model_rule g (M + 1) 1 (nI (l + 2)) (nI 1) (nI (l + 2)) (nI 0) (nI 0) (nI 0) (nI 0) (nI n) y12 y22 y23 p1 h2 h3 h4 = F_Model_rule g M 2 (nI (l + 2)) (nI 1) (nI 0) (nI 0) (nI 0) (nI 0) (nI 0) (nI n) y12 y22 y23 p1 h2 h3 h4 := by
        show B_Model_rule_1 _ g (nI (l + 2)) (nI 1) (nI (l + 2)) (nI 0) (nI 0) (nI 0) (nI 0) (nI n) y12 y22 y23 p1 h2 h3 h4 = _
        simp (disch := omega) only [B_Model_rule_1, i_lit, nI_ltI, nI_leI, nI_eq, nI_add, pk_mul, pk_sub, nI_clamp, if_pos, if_neg, if_true, if_false, Option.bind_some, true_or, or_true, false_or, or_false, or_self, not_true_eq_false, not_false_eq_true, i_m1lt, i_m1le, i_nlt1, i_nle1, i_ne1, i_1ne]
      have hF : F_Model_rule g fuel_ 0 (nI (l + 2)) (nI 1) (nI 2) (nI 0) (nI 0) (nI 0) (nI 0) (nI n) y12 y22 y23 h1 h2 h3 h4 = F_Model_rule g M 2 (nI (l + 2)) (nI 1) (nI 0) (nI 0) (nI 0) (nI 0) (nI 0) (nI n) y12 y22 y23 p1 h2 h3 h4 := by
        rw [← hM, show M + (1 + l + 1 + l) = M + 1 + l + 1 + l by omega, e0, s0, e1, ← hp1, s1]
      simp (disch := omega) only [S_Model_rule, hg0.2, m_isN hg0.1, hg1.2, hF, i_lit, nI_ltI, nI_leI, nI_eq, nI_add, pk_mul, pk_sub, nI_clamp, if_pos, if_neg, if_true, if_false, Option.bind_some, true_or, or_true, false_or, or_false, or_self, not_true_eq_false, not_false_eq_true, i_m1lt, i_m1le, i_nlt1, i_nle1, i_ne1, i_1ne]
    by_cases hex : ∃ r, r < n ∧ smr lf ln sy x l s r
    · refine Or.inl ⟨q5, q6, q7, p1, ?_, ?_, hIR, k1, k1'⟩
      · simp (disch := omega) only [S_Desk_rule, S_Line_clear, hrd, hkn.1 hex, i_lit, nI_ltI, nI_leI, nI_eq, nI_add, pk_mul, pk_sub, nI_clamp, if_pos, if_neg, if_true, if_false, Option.bind_some, true_or, or_true, false_or, or_false, or_self, not_true_eq_false, not_false_eq_true, i_m1lt, i_m1le, i_nlt1, i_nle1, i_ne1, i_1ne]
      · obtain ⟨j, ⟨hjn, hsm⟩, hmin⟩ := pk_least (fun r => r < n ∧ smr lf ln sy x l s r) hex
        obtain ⟨d1, hd1, e1⟩ := m_r2s (w := l + 2) (lf := lf) (ln := ln) (sy := sy) (s := s) hn hl rfl hg0.2 g3 hx hmrows m2 (nI 1) (nI 0) (nI 0) y12 y22 y23 j 0 (by omega) (fun i _ hi h => hmin i (by omega) ⟨by omega, h⟩)
        have hi := hmrows j hjn
        obtain ⟨d2, hd2, e2⟩ := (m_r2 (r := j) (w := l + 2) (l := l) (x := x) (sr := sy j) (s := s) hn hjn hl hi.2.1 hi.1 rfl hg0.2 g3 hx hi.2.2.1 hi.2.2.2.1 hi.2.2.2.2 m2 (nI 1) (nI 0) (nI 0) y12 y22 y23).1 hsm
        obtain ⟨m, hm⟩ := fuelled (k := d2 + d1 + (1 + l + 1 + l)) (by omega)
        rw [hM0 (m + d2 + d1) (by omega), e1, Nat.zero_add, e2]
        rfl
    · obtain ⟨dd, hdd, e1⟩ := m_r2s (w := l + 2) (lf := lf) (ln := ln) (sy := sy) (s := s) hn hl rfl hg0.2 g3 hx hmrows m2 (nI 1) (nI 0) (nI 0) y12 y22 y23 n 0 (by omega) (fun i _ hi h => hex ⟨i, by omega, h⟩)
      rw [Nat.zero_add] at e1
      by_cases h10 : n < 10
      · right; right
        have hadd := r_addD h10 q5 q6 q7
        have hp : ¬ nI n < nI 0 := nI_pos (by omega)
        refine ⟨fun r => if r = n then x else lf r, fun r => if r = n then l else ln r, fun r k => if r = n then s k else sy r k, upd q5 n (q5 11), fl q6 (fun j => q6 (44 + (j - n * 4))) (n * 4) 4, upd q7 n (q7 11), p1, upd h2 n (nI x), upd h3 n (nI l), fl h4 (fun j => p1 (j - 4 * n)) (4 * n) l, ?_, ?_, ?_⟩
        · simp (disch := omega) only [S_Desk_rule, S_Line_clear, hrd, hkn.2 hex, hadd, S_States_forget, S_Finds_forget, i_lit, nI_ltI, nI_leI, nI_eq, nI_add, pk_mul, pk_sub, nI_clamp, if_pos, if_neg, if_true, if_false, Option.bind_some, true_or, or_true, false_or, or_false, or_self, not_true_eq_false, not_false_eq_true, i_m1lt, i_m1le, i_nlt1, i_nle1, i_ne1, i_1ne]
        · obtain ⟨m, hm⟩ := fuelled (k := 1 + l + 1 + dd + (1 + l + 1 + l)) (by omega)
          rw [hM0 (m + 1 + l + 1 + dd) (by omega), e1]
          have s2 : F_Model_rule g (m + 1 + l + 1) 2 (nI (l + 2)) (nI 1) (nI n) (nI 0) (nI 0) (nI 0) (nI 0) (nI n) y12 y22 y23 p1 h2 h3 h4 = F_Model_rule g (m + 1 + l) 4 (nI (l + 2)) (nI 1) (nI 0) (nI 0) (nI 0) (nI 0) (nI 0) (nI n) y12 y22 y23 p1 (upd h2 n (nI x)) (upd h3 n (nI l)) h4 := by
            show B_Model_rule_2 _ g (nI (l + 2)) (nI 1) (nI n) (nI 0) (nI 0) (nI 0) (nI 0) (nI n) y12 y22 y23 p1 h2 h3 h4 = _
            simp (disch := omega) only [B_Model_rule_2, hg0.2, hx, Nat.add_sub_cancel, i_lit, nI_ltI, nI_leI, nI_eq, nI_add, pk_mul, pk_sub, nI_clamp, if_pos, if_neg, if_true, if_false, Option.bind_some, true_or, or_true, false_or, or_false, or_self, not_true_eq_false, not_false_eq_true, i_m1lt, i_m1le, i_nlt1, i_nle1, i_ne1, i_1ne]
          have e4 := m_r4 (w := l + 2) (f := g) h10 hl rfl (nI 1) (nI 0) (nI 0) y12 y22 y23 p1 (upd h2 n (nI x)) (upd h3 n (nI l)) h4 l 0 (m + 1) (by omega)
          rw [Nat.zero_add, fl_0] at e4
          rw [s2, e4]
          show B_Model_rule_4 _ g (nI (l + 2)) (nI 1) (nI l) (nI 0) (nI 0) (nI 0) (nI 0) (nI n) y12 y22 y23 p1 _ _ _ = _
          simp (disch := omega) only [B_Model_rule_4, Nat.add_sub_cancel, S_Model_forget, i_lit, nI_ltI, nI_leI, nI_eq, nI_add, pk_mul, pk_sub, nI_clamp, if_pos, if_neg, if_true, if_false, Option.bind_some, true_or, or_true, false_or, or_false, or_self, not_true_eq_false, not_false_eq_true, i_m1lt, i_m1le, i_nlt1, i_nle1, i_ne1, i_1ne]
        · refine ⟨by omega, rfl, rfl, fun r hr' => ?_, fun r h5 h6 => ?_⟩
          · by_cases e : r = n
            · subst e
              simp only [if_true]
              refine ⟨hx6, hl, by rw [pk_us, d1], pk_us, by rw [pk_us, d3], pk_us, fun k hk => ⟨hsk k hk, ?_, ?_⟩⟩
              · rw [fl_in (by omega) (by omega), show r * 4 + k - r * 4 = k by omega, (d2 k hk).2]
              · rw [fl_in (by omega) (by omega), show 4 * r + k - 4 * r = k by omega, (m2 k hk).2]
            · simp only [if_neg e]
              obtain ⟨a1, a2, a3, a4, a5, a6, a7⟩ := hIR.2.2.2.1 r (by omega)
              refine ⟨a1, a2, by rw [pk_un e]; exact a3, by rw [pk_un e]; exact a4, by rw [pk_un e]; exact a5, by rw [pk_un e]; exact a6, fun k hk => ⟨(a7 k hk).1, ?_, ?_⟩⟩
              · rw [fl_out (by omega)]; exact (a7 k hk).2.1
              · rw [fl_out (by omega)]; exact (a7 k hk).2.2
          · rw [pk_un (by omega)]; exact hIR.2.2.2.2 r (by omega) h6
      · have h10' : n = 10 := by omega
        right; left
        refine ⟨q5, q6, q7, p1, ?_, ?_, hIR, k1, k1'⟩
        · have hadd : S_Grammar_addDraft (nI n) q5 q6 q7 = some (-nI 1, nI n, q5, q6, q7) := by simp (disch := omega) only [S_Grammar_addDraft, i_lit, nI_ltI, nI_leI, nI_eq, nI_add, pk_mul, pk_sub, nI_clamp, if_pos, if_neg, if_true, if_false, Option.bind_some, true_or, or_true, false_or, or_false, or_self, not_true_eq_false, not_false_eq_true, i_m1lt, i_m1le, i_nlt1, i_nle1, i_ne1, i_1ne]
          have hneg : ¬ nI 0 ≤ -nI 1 := by decide
          simp (disch := omega) only [S_Desk_rule, S_Line_clear, hrd, hkn.2 hex, hadd, hneg, i_lit, nI_ltI, nI_leI, nI_eq, nI_add, pk_mul, pk_sub, nI_clamp, if_pos, if_neg, if_true, if_false, Option.bind_some, true_or, or_true, false_or, or_false, or_self, not_true_eq_false, not_false_eq_true, i_m1lt, i_m1le, i_nlt1, i_nle1, i_ne1, i_1ne]
        · obtain ⟨m, hm⟩ := fuelled (k := 1 + dd + (1 + l + 1 + l)) (by omega)
          rw [hM0 (m + 1 + dd) (by omega), e1]
          show B_Model_rule_2 _ g (nI (l + 2)) (nI 1) (nI n) (nI 0) (nI 0) (nI 0) (nI 0) (nI n) y12 y22 y23 p1 h2 h3 h4 = _
          simp (disch := omega) only [B_Model_rule_2, S_Model_fails, i_lit, nI_ltI, nI_leI, nI_eq, nI_add, pk_mul, pk_sub, nI_clamp, if_pos, if_neg, if_true, if_false, Option.bind_some, true_or, or_true, false_or, or_false, or_self, not_true_eq_false, not_false_eq_true, i_m1lt, i_m1le, i_nlt1, i_nle1, i_ne1, i_1ne]
  · obtain ⟨q6, hq6, hk6⟩ := hrd.2 hgl
    refine Or.inl ⟨f5, q6, f7, h1, ?_, ?_, hkeep f5 q6 f7 (fun _ _ => ⟨rfl, rfl⟩) hk6, fun _ _ => ⟨rfl, rfl⟩, rfl⟩
    · simp (disch := omega) only [S_Desk_rule, S_Line_clear, hq6, i_lit, nI_ltI, nI_leI, nI_eq, nI_add, pk_mul, pk_sub, nI_clamp, if_pos, if_neg, if_true, if_false, Option.bind_some, true_or, or_true, false_or, or_false, or_self, not_true_eq_false, not_false_eq_true, i_m1lt, i_m1le, i_nlt1, i_nle1, i_ne1, i_1ne]
    · -- flag 0
      have hz0 : ∀ m i, i < 2 ^ 31 → F_Model_rule g (m + 1) 0 (nI w) (nI 0) (nI i) (nI 0) (nI 0) (nI 0) (nI 0) (nI n) y12 y22 y23 h1 h2 h3 h4 = some (nI 0, nI 1, nI 0, nI n, y12, y22, y23, h1, h2, h3, h4) := by
        intro m i hi
        show B_Model_rule_0 _ g (nI w) (nI 0) (nI i) (nI 0) (nI 0) (nI 0) (nI 0) (nI n) y12 y22 y23 h1 h2 h3 h4 = _
        by_cases h5 : w ≤ i
        · simp (disch := omega) only [B_Model_rule_0, S_Model_fails, i_lit, nI_ltI, nI_leI, nI_eq, nI_add, pk_mul, pk_sub, nI_clamp, if_pos, if_neg, if_true, if_false, Option.bind_some, true_or, or_true, false_or, or_false, or_self, not_true_eq_false, not_false_eq_true, i_m1lt, i_m1le, i_nlt1, i_nle1, i_ne1, i_1ne]
        · simp (disch := omega) only [B_Model_rule_0, S_Model_fails, i_lit, nI_ltI, nI_leI, nI_eq, nI_add, pk_mul, pk_sub, nI_clamp, if_pos, if_neg, if_true, if_false, Option.bind_some, true_or, or_true, false_or, or_false, or_self, not_true_eq_false, not_false_eq_true, i_m1lt, i_m1le, i_nlt1, i_nle1, i_ne1, i_1ne]
      obtain ⟨m, hm⟩ := fuelled (k := 1) (by omega)
      have hz1 := hz0 m 2 (by omega)
      rw [← hm] at hz1
      by_cases h2w : w < 2
      · simp (disch := omega) only [S_Model_rule, hz1, i_lit, nI_ltI, nI_leI, nI_eq, nI_add, pk_mul, pk_sub, nI_clamp, if_pos, if_neg, if_true, if_false, Option.bind_some, true_or, or_true, false_or, or_false, or_self, not_true_eq_false, not_false_eq_true, i_m1lt, i_m1le, i_nlt1, i_nle1, i_ne1, i_1ne]
      · by_cases h6w : 6 < w
        · simp (disch := omega) only [S_Model_rule, hz1, i_lit, nI_ltI, nI_leI, nI_eq, nI_add, pk_mul, pk_sub, nI_clamp, if_pos, if_neg, if_true, if_false, Option.bind_some, true_or, or_true, false_or, or_false, or_self, not_true_eq_false, not_false_eq_true, i_m1lt, i_m1le, i_nlt1, i_nle1, i_ne1, i_1ne]
        · have hg0 := hg 0 (by omega)
          have hg1 := hg 1 (by omega)
          by_cases hN : 65 ≤ c 0 ∧ c 0 ≤ 70
          · by_cases hE : c 1 = 61
            · have hb : ¬ ∀ j, 2 ≤ j → j < w → gd (c j) := fun h => hgl ⟨by omega, by omega, hN, hE, h⟩
              obtain ⟨j, hj2, hjw, hbad, hgood⟩ := first_bad hb
              have hF : F_Model_rule g fuel_ 0 (nI w) (nI 1) (nI 2) (nI 0) (nI 0) (nI 0) (nI 0) (nI n) y12 y22 y23 h1 h2 h3 h4 = some (nI 0, nI 1, nI 0, nI n, y12, y22, y23, h1, h2, h3, h4) := by
                obtain ⟨m, hm⟩ := fuelled (k := 1 + 1 + (j - 2)) (by omega)
                have e0 := m_r0 hw hg (nI 0) (nI 0) (nI n) y12 y22 y23 h1 h2 h3 h4 (j - 2) 2 (m + 1 + 1) (by omega) (fun i h5 h6 => hgood i (by omega) (by omega))
                rw [show 2 + (j - 2) = j by omega] at e0
                rw [hm, show m + (1 + 1 + (j - 2)) = m + 1 + 1 + (j - 2) by omega, e0]
                refine Eq.trans ?_ (hz0 m (j + 1) (by omega))
                show B_Model_rule_0 _ g (nI w) (nI 1) (nI j) (nI 0) (nI 0) (nI 0) (nI 0) (nI n) y12 y22 y23 h1 h2 h3 h4 = _
                have hgj := hg j hjw
                unfold gd at hbad
                simp (disch := omega) only [B_Model_rule_0, hgj.2, m_isL hgj.1, m_isN hgj.1, i_lit, nI_ltI, nI_leI, nI_eq, nI_add, pk_mul, pk_sub, nI_clamp, if_pos, if_neg, if_true, if_false, Option.bind_some, true_or, or_true, false_or, or_false, or_self, not_true_eq_false, not_false_eq_true, i_m1lt, i_m1le, i_nlt1, i_nle1, i_ne1, i_1ne]
              simp (disch := omega) only [S_Model_rule, hg0.2, m_isN hg0.1, hg1.2, hF, i_lit, nI_ltI, nI_leI, nI_eq, nI_add, pk_mul, pk_sub, nI_clamp, if_pos, if_neg, if_true, if_false, Option.bind_some, true_or, or_true, false_or, or_false, or_self, not_true_eq_false, not_false_eq_true, i_m1lt, i_m1le, i_nlt1, i_nle1, i_ne1, i_1ne]
            · simp (disch := omega) only [S_Model_rule, hg0.2, m_isN hg0.1, hg1.2, hz1, i_lit, nI_ltI, nI_leI, nI_eq, nI_add, pk_mul, pk_sub, nI_clamp, if_pos, if_neg, if_true, if_false, Option.bind_some, true_or, or_true, false_or, or_false, or_self, not_true_eq_false, not_false_eq_true, i_m1lt, i_m1le, i_nlt1, i_nle1, i_ne1, i_1ne]
          · simp (disch := omega) only [S_Model_rule, hg0.2, m_isN hg0.1, hz1, i_lit, nI_ltI, nI_leI, nI_eq, nI_add, pk_mul, pk_sub, nI_clamp, if_pos, if_neg, if_true, if_false, Option.bind_some, true_or, or_true, false_or, or_false, or_self, not_true_eq_false, not_false_eq_true, i_m1lt, i_m1le, i_nlt1, i_nle1, i_ne1, i_1ne]
