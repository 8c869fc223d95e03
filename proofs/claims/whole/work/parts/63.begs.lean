/-! with what rows begin: bits of letters, and bit 6 for the empty row -/
def beg (sy : Nat → Nat → Nat) (b : Nat → Nat) (r : Nat) : Nat → Nat → Nat
  | 0, _ => 64
  | d + 1, p => if sy r p < 6 then 2 ^ (sy r p) else if (b (sy r p - 6)).testBit 6 = true then b (sy r p - 6) % 64 ||| beg sy b r d (p + 1) else b (sy r p - 6)
def wfb (b : Nat → Nat) : Prop := ∀ x, b x < 128
theorem beg_lt {sy : Nat → Nat → Nat} {b : Nat → Nat} (hb : wfb b) {r : Nat} : ∀ d p, beg sy b r d p < 128
  | 0, p => by simp only [beg]; omega
  | d + 1, p => by
    simp only [beg]
    by_cases h : sy r p < 6
    · rw [if_pos h]
      exact Nat.pow_lt_pow_right (a := 2) (n := 7) (by omega) (by omega)
    · rw [if_neg h]
      by_cases h2 : (b (sy r p - 6)).testBit 6 = true
      · rw [if_pos h2]; exact or_lt (by omega) (beg_lt hb d (p + 1))
      · rw [if_neg h2]; exact hb _
theorem beg_6 {sy : Nat → Nat → Nat} {b : Nat → Nat} {r : Nat} : ∀ d p, (beg sy b r d p).testBit 6 = true ↔ ∀ i, p ≤ i → i < p + d → 6 ≤ sy r i ∧ (b (sy r i - 6)).testBit 6 = true
  | 0, p => by
    simp only [beg]
    exact ⟨fun _ i h1 h2 => absurd h2 (by omega), fun _ => by decide⟩
  | d + 1, p => by
    simp only [beg]
    by_cases h : sy r p < 6
    · rw [if_pos h, bit_pow]
      exact ⟨fun h1 => absurd h1 (by omega), fun h1 => absurd (h1 p (by omega) (by omega)).1 (by omega)⟩
    · rw [if_neg h]
      by_cases h2 : (b (sy r p - 6)).testBit 6 = true
      · rw [if_pos h2, bit_or, bit_m64, beg_6 d (p + 1)]
        constructor
        · rintro (⟨h3, -⟩ | h3) i h4 h5
          · omega
          · by_cases e : i = p
            · rw [e]; exact ⟨by omega, h2⟩
            · exact h3 i (by omega) (by omega)
        · exact fun h3 => Or.inr (fun i h4 h5 => h3 i (by omega) (by omega))
      · rw [if_neg h2]
        exact ⟨fun h3 => absurd h3 h2, fun h3 => absurd (h3 p (by omega) (by omega)).2 h2⟩
theorem beg_t {sy : Nat → Nat → Nat} {b : Nat → Nat} {r t : Nat} (ht : t < 6) : ∀ d p, (beg sy b r d p).testBit t = true ↔ ∃ k, p ≤ k ∧ k < p + d ∧ (∀ i, p ≤ i → i < k → 6 ≤ sy r i ∧ (b (sy r i - 6)).testBit 6 = true) ∧ ((sy r k = t ∧ sy r k < 6) ∨ (6 ≤ sy r k ∧ (b (sy r k - 6)).testBit t = true))
  | 0, p => by
    simp only [beg]
    constructor
    · intro h
      exfalso
      rw [show (64 : Nat) = 2 ^ 6 by rfl, bit_pow] at h
      omega
    · rintro ⟨k, h1, h2, _⟩; omega
  | d + 1, p => by
    simp only [beg]
    by_cases h : sy r p < 6
    · rw [if_pos h, bit_pow]
      constructor
      · exact fun h1 => ⟨p, by omega, by omega, fun i h2 h3 => absurd h3 (by omega), Or.inl ⟨h1, h⟩⟩
      · rintro ⟨k, h1, h2, h3, h4⟩
        have e : k = p := by
          apply Classical.byContradiction
          intro e
          have := (h3 p (by omega) (by omega)).1
          omega
        subst e
        rcases h4 with h4 | h4 <;> omega
    · rw [if_neg h]
      by_cases h2 : (b (sy r p - 6)).testBit 6 = true
      · rw [if_pos h2, bit_or, bit_m64, beg_t ht d (p + 1)]
        constructor
        · rintro (⟨h3, h4⟩ | ⟨k, k1, k2, k3, k4⟩)
          · exact ⟨p, by omega, by omega, fun i h5 h6 => absurd h6 (by omega), Or.inr ⟨by omega, h4⟩⟩
          · refine ⟨k, by omega, by omega, fun i h5 h6 => ?_, k4⟩
            by_cases e : i = p
            · rw [e]; exact ⟨by omega, h2⟩
            · exact k3 i (by omega) h6
        · rintro ⟨k, k1, k2, k3, k4⟩
          by_cases e : k = p
          · subst e
            rcases k4 with k4 | k4
            · omega
            · exact Or.inl ⟨ht, k4.2⟩
          · exact Or.inr ⟨k, by omega, by omega, fun i h5 h6 => k3 i (by omega) h6, k4⟩
      · rw [if_neg h2]
        constructor
        · exact fun h1 => ⟨p, by omega, by omega, fun i h5 h6 => absurd h6 (by omega), Or.inr ⟨by omega, h1⟩⟩
        · rintro ⟨k, k1, k2, k3, k4⟩
          by_cases e : k = p
          · subst e
            rcases k4 with k4 | k4
            · omega
            · exact k4.2
          · exact absurd (k3 p (by omega) (by omega)).2 h2
theorem bit6_split {v : Nat} (h : v < 128) : v = v % 64 + (if v.testBit 6 = true then 64 else 0) := by
  have h1 : (List.range 128).all (fun v => decide (v = v % 64 + (if v.testBit 6 = true then 64 else 0))) = true := by decide +kernel
  have := List.all_eq_true.mp h1 v (List.mem_range.mpr h)
  exact of_decide_eq_true this
theorem or_64 {v : Nat} (h : v < 64) : v ||| 64 = v + 64 := by
  have h1 : (List.range 64).all (fun v => decide (v ||| 64 = v + 64)) = true := by decide +kernel
  have := List.all_eq_true.mp h1 v (List.mem_range.mpr h)
  exact of_decide_eq_true this
theorem bit6_add {v : Nat} (h : v < 64) : (v + 64).testBit 6 = true := by
  have h1 : (List.range 64).all (fun v => (v + 64).testBit 6) = true := by decide +kernel
  exact List.all_eq_true.mp h1 v (List.mem_range.mpr h)
theorem bit6_lt {v : Nat} (h : v < 128) : v.testBit 6 = false ↔ v < 64 := by
  have h1 : (List.range 128).all (fun v => decide (v.testBit 6 = false ↔ v < 64)) = true := by decide +kernel
  have := List.all_eq_true.mp h1 v (List.mem_range.mpr h)
  exact of_decide_eq_true this
section
variable {n : Nat} {ln : Nat → Nat} {sy : Nat → Nat → Nat} {b : Nat → Nat}
theorem c_beg (hn : n ≤ 12) {f1 f2 f3 : Nat → Int32} (hs : GS n ln sy f2 f3) (hb : wfb b) (hf : ∀ x, x < 6 → f1 x = nI (b x)) {r p : Nat} (hr : r < n) (hp : p ≤ ln r) : S_Grammar_beginnings (nI r) (nI p) f1 f2 f3 = some (nI (beg sy b r (ln r - p) p)) := by
  obtain ⟨h1, h2, h3⟩ := hs r hr
  have hsz : S_Grammar_sizeOf (nI r) f3 = some (nI (ln r)) := by simp (disch := omega) only [S_Grammar_sizeOf, h2, i_lit, nI_ltI, nI_leI, nI_eq, nI_add, pk_mul, pk_sub, nI_clamp, if_pos, if_neg, if_true, if_false, Option.bind_some, true_or, or_true, false_or, or_false, or_self, not_true_eq_false, not_false_eq_true, i_m1lt, i_m1le, i_nlt1, i_nle1, i_ne1, i_1ne]
  have key : ∀ d i acc m, i + d = ln r → acc < 64 → F_Grammar_beginnings f1 f2 f3 (m + (d + 1)) 0 (nI r) (nI p) (nI (acc + 64)) (nI i) = some (nI (acc ||| beg sy b r d i)) := by
    intro d
    induction d with
    | zero =>
      intro i acc m hi ha
      show B_Grammar_beginnings_0 (F_Grammar_beginnings f1 f2 f3 m) f1 f2 f3 (nI r) (nI p) (nI (acc + 64)) (nI i) = _
      simp (disch := omega) only [B_Grammar_beginnings_0, hsz, beg, or_64 ha, i_lit, nI_ltI, nI_leI, nI_eq, nI_add, pk_mul, pk_sub, nI_clamp, if_pos, if_neg, if_true, if_false, Option.bind_some, true_or, or_true, false_or, or_false, or_self, not_true_eq_false, not_false_eq_true, i_m1lt, i_m1le, i_nlt1, i_nle1, i_ne1, i_1ne]
    | succ d ih =>
      intro i acc m hi ha
      show B_Grammar_beginnings_0 (F_Grammar_beginnings f1 f2 f3 (m + (d + 1))) f1 f2 f3 (nI r) (nI p) (nI (acc + 64)) (nI i) = _
      obtain ⟨h4, h5⟩ := h3 i (by omega)
      have hsy : S_Grammar_symbolAt (nI r) (nI i) f2 f3 = some (nI (sy r i)) := by simp (disch := omega) only [S_Grammar_symbolAt, hsz, h5, i_lit, nI_ltI, nI_leI, nI_eq, nI_add, pk_mul, pk_sub, nI_clamp, if_pos, if_neg, if_true, if_false, Option.bind_some, true_or, or_true, false_or, or_false, or_self, not_true_eq_false, not_false_eq_true, i_m1lt, i_m1le, i_nlt1, i_nle1, i_ne1, i_1ne]
      have h64 : ¬ (nI (acc + 64) &&& nI 64 = nI 0) := by
        rw [i_and64 (by omega), bit6_add ha]; simp
      have h65 : nI (acc + 64) &&& -nI 65 = nI acc := by
        rw [i_m65 (by omega)]; congr 1; omega
      have fin : ∀ v, v < 64 → F_Grammar_beginnings f1 f2 f3 (m + (d + 1)) 0 (nI r) (nI p) (nI (acc ||| v)) (nI (i + 1)) = some (nI (acc ||| v)) := by
        intro v hv
        have hav := or_lt6 ha hv
        have h0 : nI (acc ||| v) &&& nI 64 = nI 0 := by
          rw [i_and64 (by omega), bit6_lt (by omega)]; exact hav
        show B_Grammar_beginnings_0 (F_Grammar_beginnings f1 f2 f3 (m + d)) f1 f2 f3 (nI r) (nI p) (nI (acc ||| v)) (nI (i + 1)) = _
        by_cases e : ln r ≤ i + 1
        · simp (disch := omega) only [B_Grammar_beginnings_0, hsz, i_lit, nI_ltI, nI_leI, nI_eq, nI_add, pk_mul, pk_sub, nI_clamp, if_pos, if_neg, if_true, if_false, Option.bind_some, true_or, or_true, false_or, or_false, or_self, not_true_eq_false, not_false_eq_true, i_m1lt, i_m1le, i_nlt1, i_nle1, i_ne1, i_1ne]
        · simp (disch := omega) only [B_Grammar_beginnings_0, hsz, h0, i_lit, nI_ltI, nI_leI, nI_eq, nI_add, pk_mul, pk_sub, nI_clamp, if_pos, if_neg, if_true, if_false, Option.bind_some, true_or, or_true, false_or, or_false, or_self, not_true_eq_false, not_false_eq_true, i_m1lt, i_m1le, i_nlt1, i_nle1, i_ne1, i_1ne]
      by_cases h6 : sy r i < 6
      · have h8 : 2 ^ sy r i < 64 := Nat.pow_lt_pow_right (a := 2) (n := 6) (by omega) (by omega)
        simp (disch := omega) only [B_Grammar_beginnings_0, hsz, hsy, h64, h65, i_shl (show sy r i < 7 by omega), i_or, beg, i_lit, nI_ltI, nI_leI, nI_eq, nI_add, pk_mul, pk_sub, nI_clamp, if_pos, if_neg, if_true, if_false, Option.bind_some, true_or, or_true, false_or, or_false, or_self, not_true_eq_false, not_false_eq_true, i_m1lt, i_m1le, i_nlt1, i_nle1, i_ne1, i_1ne]
        exact fin _ h8
      · have h7 := hf (sy r i - 6) (by omega)
        have hb7 := hb (sy r i - 6)
        by_cases h8 : (b (sy r i - 6)).testBit 6 = true
        · have ha' := or_lt6 ha (show b (sy r i - 6) % 64 < 64 by omega)
          have e1 : acc ||| b (sy r i - 6) = (acc ||| b (sy r i - 6) % 64) + 64 := by
            have := bit6_split hb7
            rw [if_pos h8] at this
            have e2 : b (sy r i - 6) = b (sy r i - 6) % 64 ||| 64 := by rw [or_64 (by omega)]; exact this
            rw [← or_64 ha', Nat.or_assoc, ← e2]
          have := ih (i + 1) (acc ||| b (sy r i - 6) % 64) m (by omega) ha'
          rw [← e1] at this
          simp (disch := omega) only [B_Grammar_beginnings_0, hsz, hsy, h64, h65, h7, i_or, beg, h8, i_lit, nI_ltI, nI_leI, nI_eq, nI_add, pk_mul, pk_sub, nI_clamp, if_pos, if_neg, if_true, if_false, Option.bind_some, true_or, or_true, false_or, or_false, or_self, not_true_eq_false, not_false_eq_true, i_m1lt, i_m1le, i_nlt1, i_nle1, i_ne1, i_1ne]
          rw [this, Nat.or_assoc]
        · have h9 : b (sy r i - 6) < 64 := (bit6_lt hb7).mp (by simpa using h8)
          simp (disch := omega) only [B_Grammar_beginnings_0, hsz, hsy, h64, h65, h7, i_or, beg, h8, i_lit, nI_ltI, nI_leI, nI_eq, nI_add, pk_mul, pk_sub, nI_clamp, if_pos, if_neg, if_true, if_false, Option.bind_some, true_or, or_true, false_or, or_false, or_self, not_true_eq_false, not_false_eq_true, i_m1lt, i_m1le, i_nlt1, i_nle1, i_ne1, i_1ne]
          exact fin _ h9
  obtain ⟨m, hm⟩ := fuelled (k := ln r - p + 1) (by omega)
  rw [S_Grammar_beginnings, hm]
  have := key (ln r - p) p 0 m (by omega) (by omega)
  rw [Nat.zero_or] at this
  exact this
/-- what may follow, when v may follow the whole -/
def bgn (sy : Nat → Nat → Nat) (b : Nat → Nat) (r d p v : Nat) : Nat := if (beg sy b r d p).testBit 6 = true then beg sy b r d p % 64 ||| v else beg sy b r d p
theorem bgn_lt (hb : wfb b) {r d p v : Nat} (hv : v < 128) : bgn sy b r d p v < 128 := by
  simp only [bgn]
  have := beg_lt (sy := sy) hb (r := r) d p
  by_cases h : (beg sy b r d p).testBit 6 = true
  · rw [if_pos h]; exact or_lt (by omega) hv
  · rw [if_neg h]; exact this
def RF (b : Nat → Nat) (f1 f2 : Nat → Int32) : Prop := ∀ x, x < 6 → f1 x = bI ((b x).testBit 6) ∧ f2 x = nI (b x % 64)
theorem or_sw (a c d : Nat) : (a ||| c) ||| d = a ||| (c ||| d) := Nat.or_assoc a c d
theorem m_beg (hn : n ≤ 11) {f1 f2 f3 f4 : Nat → Int32} (hs : GSm n ln sy f4 f3) (hb : wfb b) (hf : RF b f1 f2) {r p v : Nat} (hr : r < n) (hp : p ≤ ln r) (hv : v < 128) : S_Model_begins (nI r) (nI p) (nI v) f1 f2 f3 f4 = some (nI (bgn sy b r (ln r - p) p v)) := by
  obtain ⟨h1, h2, h3⟩ := hs r hr
  have key : ∀ d i acc m, i + d = ln r → F_Model_begins f1 f2 f3 f4 (m + (d + 1)) 0 (nI r) (nI p) (nI v) (nI acc) (nI (4 * r + i)) = some (nI (acc ||| bgn sy b r d i v)) := by
    intro d
    induction d with
    | zero =>
      intro i acc m hi
      show B_Model_begins_0 (F_Model_begins f1 f2 f3 f4 m) f1 f2 f3 f4 (nI r) (nI p) (nI v) (nI acc) (nI (4 * r + i)) = _
      have e : bgn sy b r 0 i v = v := by
        have h64 : (beg sy b r 0 i).testBit 6 = true := by simp only [beg]; decide
        simp only [bgn]
        rw [if_pos h64]
        simp only [beg]
        rw [Nat.mod_self, Nat.zero_or]
      simp (disch := omega) only [B_Model_begins_0, h2, i_or, e, i_lit, nI_ltI, nI_leI, nI_eq, nI_add, pk_mul, pk_sub, nI_clamp, if_pos, if_neg, if_true, if_false, Option.bind_some, true_or, or_true, false_or, or_false, or_self, not_true_eq_false, not_false_eq_true, i_m1lt, i_m1le, i_nlt1, i_nle1, i_ne1, i_1ne]
    | succ d ih =>
      intro i acc m hi
      show B_Model_begins_0 (F_Model_begins f1 f2 f3 f4 (m + (d + 1))) f1 f2 f3 f4 (nI r) (nI p) (nI v) (nI acc) (nI (4 * r + i)) = _
      obtain ⟨h4, h5⟩ := h3 i (by omega)
      by_cases h6 : sy r i < 6
      · have h8 : 2 ^ sy r i < 64 := Nat.pow_lt_pow_right (a := 2) (n := 6) (by omega) (by omega)
        have e : bgn sy b r (d + 1) i v = 2 ^ sy r i := by
          simp only [bgn, beg, if_pos h6]
          rw [if_neg (by rw [(bit6_lt (by omega)).mpr h8]; simp)]
        simp (disch := omega) only [B_Model_begins_0, h2, h5, i_shl (show sy r i < 7 by omega), i_or, e, i_lit, nI_ltI, nI_leI, nI_eq, nI_add, pk_mul, pk_sub, nI_clamp, if_pos, if_neg, if_true, if_false, Option.bind_some, true_or, or_true, false_or, or_false, or_self, not_true_eq_false, not_false_eq_true, i_m1lt, i_m1le, i_nlt1, i_nle1, i_ne1, i_1ne]
      · obtain ⟨h7, h7'⟩ := hf (sy r i - 6) (by omega)
        have hb7 := hb (sy r i - 6)
        by_cases h8 : (b (sy r i - 6)).testBit 6 = true
        · rw [h8, bI_t] at h7
          have e : bgn sy b r (d + 1) i v = b (sy r i - 6) % 64 ||| bgn sy b r d (i + 1) v := by
            simp only [bgn, beg, if_neg h6, if_pos h8]
            have hl := beg_lt (sy := sy) hb (r := r) d (i + 1)
            have e2 : (b (sy r i - 6) % 64 ||| beg sy b r d (i + 1)).testBit 6 = true ↔ (beg sy b r d (i + 1)).testBit 6 = true := by
              rw [bit_or, bit_m64]; simp
            by_cases h9 : (beg sy b r d (i + 1)).testBit 6 = true
            · rw [if_pos (e2.mpr h9), if_pos h9, show (64 : Nat) = 2 ^ 6 by rfl, Nat.or_mod_two_pow, Nat.mod_mod, Nat.or_assoc]
            · rw [if_neg (fun h => h9 (e2.mp h)), if_neg h9]
          have := ih (i + 1) (acc ||| b (sy r i - 6) % 64) m (by omega)
          rw [Nat.or_assoc, ← e] at this
          rw [← this]
          have e3 : 4 * r + i + 1 = 4 * r + (i + 1) := by omega
          simp (disch := omega) only [B_Model_begins_0, h2, h5, h7, h7', i_or, i_10, e3, i_lit, nI_ltI, nI_leI, nI_eq, nI_add, pk_mul, pk_sub, nI_clamp, if_pos, if_neg, if_true, if_false, Option.bind_some, true_or, or_true, false_or, or_false, or_self, not_true_eq_false, not_false_eq_true, i_m1lt, i_m1le, i_nlt1, i_nle1, i_ne1, i_1ne]
        · have h8' : (b (sy r i - 6)).testBit 6 = false := by simpa using h8
          rw [h8', bI_f] at h7
          have e : bgn sy b r (d + 1) i v = b (sy r i - 6) % 64 := by
            simp only [bgn, beg, if_neg h6, if_neg h8]
            have := (bit6_lt hb7).mp h8'
            omega
          simp (disch := omega) only [B_Model_begins_0, h2, h5, h7, h7', i_or, i_10, e, i_lit, nI_ltI, nI_leI, nI_eq, nI_add, pk_mul, pk_sub, nI_clamp, if_pos, if_neg, if_true, if_false, Option.bind_some, true_or, or_true, false_or, or_false, or_self, not_true_eq_false, not_false_eq_true, i_m1lt, i_m1le, i_nlt1, i_nle1, i_ne1, i_1ne]
  obtain ⟨m, hm⟩ := fuelled (k := ln r - p + 1) (by omega)
  have e0 : nI 4 * nI r + nI p = nI (4 * r + p) := by simp (disch := omega) only [i_lit, nI_ltI, nI_leI, nI_eq, nI_add, pk_mul, pk_sub, nI_clamp, if_pos, if_neg, if_true, if_false, Option.bind_some, true_or, or_true, false_or, or_false, or_self, not_true_eq_false, not_false_eq_true, i_m1lt, i_m1le, i_nlt1, i_nle1, i_ne1, i_1ne]
  show F_Model_begins f1 f2 f3 f4 fuel_ 0 (nI r) (nI p) (nI v) (nI 0) (nI 4 * nI r + nI p) = _
  rw [e0, hm]
  have := key (ln r - p) p 0 m (by omega)
  rw [Nat.zero_or] at this
  exact this
theorem m_emp (hn : n ≤ 11) {f1 f2 f3 f4 : Nat → Int32} (hs : GSm n ln sy f4 f3) (hf : RF b f1 f2) {r p : Nat} (hr : r < n) (hp : p ≤ ln r) : S_Model_isEmpty (nI r) (nI p) f1 f3 f4 = some (bI ((beg sy b r (ln r - p) p).testBit 6)) := by
  obtain ⟨h1, h2, h3⟩ := hs r hr
  have z : ∀ d i m, i + d = ln r → F_Model_isEmpty f1 f3 f4 (m + (d + 1)) 0 (nI r) (nI p) (nI 0) (nI (4 * r + i)) = some (nI 0) := by
    intro d
    induction d with
    | zero =>
      intro i m hi
      show B_Model_isEmpty_0 (F_Model_isEmpty f1 f3 f4 m) f1 f3 f4 (nI r) (nI p) (nI 0) (nI (4 * r + i)) = _
      simp (disch := omega) only [B_Model_isEmpty_0, h2, i_lit, nI_ltI, nI_leI, nI_eq, nI_add, pk_mul, pk_sub, nI_clamp, if_pos, if_neg, if_true, if_false, Option.bind_some, true_or, or_true, false_or, or_false, or_self, not_true_eq_false, not_false_eq_true, i_m1lt, i_m1le, i_nlt1, i_nle1, i_ne1, i_1ne]
    | succ d ih =>
      intro i m hi
      show B_Model_isEmpty_0 (F_Model_isEmpty f1 f3 f4 (m + (d + 1))) f1 f3 f4 (nI r) (nI p) (nI 0) (nI (4 * r + i)) = _
      have e3 : 4 * r + i + 1 = 4 * r + (i + 1) := by omega
      simp (disch := omega) only [B_Model_isEmpty_0, h2, e3, i_lit, nI_ltI, nI_leI, nI_eq, nI_add, pk_mul, pk_sub, nI_clamp, if_pos, if_neg, if_true, if_false, Option.bind_some, true_or, or_true, false_or, or_false, or_self, not_true_eq_false, not_false_eq_true, i_m1lt, i_m1le, i_nlt1, i_nle1, i_ne1, i_1ne]
      exact ih (i + 1) m (by omega)
  have key : ∀ d i m, i + d = ln r → F_Model_isEmpty f1 f3 f4 (m + (d + 1)) 0 (nI r) (nI p) (nI 1) (nI (4 * r + i)) = some (bI ((beg sy b r d i).testBit 6)) := by
    intro d
    induction d with
    | zero =>
      intro i m hi
      show B_Model_isEmpty_0 (F_Model_isEmpty f1 f3 f4 m) f1 f3 f4 (nI r) (nI p) (nI 1) (nI (4 * r + i)) = _
      have e : (beg sy b r 0 i).testBit 6 = true := by simp only [beg]; decide
      simp (disch := omega) only [B_Model_isEmpty_0, h2, e, bI_t, i_lit, nI_ltI, nI_leI, nI_eq, nI_add, pk_mul, pk_sub, nI_clamp, if_pos, if_neg, if_true, if_false, Option.bind_some, true_or, or_true, false_or, or_false, or_self, not_true_eq_false, not_false_eq_true, i_m1lt, i_m1le, i_nlt1, i_nle1, i_ne1, i_1ne]
    | succ d ih =>
      intro i m hi
      show B_Model_isEmpty_0 (F_Model_isEmpty f1 f3 f4 (m + (d + 1))) f1 f3 f4 (nI r) (nI p) (nI 1) (nI (4 * r + i)) = _
      obtain ⟨h4, h5⟩ := h3 i (by omega)
      have e3 : 4 * r + i + 1 = 4 * r + (i + 1) := by omega
      by_cases h6 : sy r i < 6
      · have h8 : 2 ^ sy r i < 64 := Nat.pow_lt_pow_right (a := 2) (n := 6) (by omega) (by omega)
        have e : (beg sy b r (d + 1) i).testBit 6 = false := by
          simp only [beg, if_pos h6]
          exact (bit6_lt (by omega)).mpr h8
        simp (disch := omega) only [B_Model_isEmpty_0, h2, h5, i_10, e3, e, bI_f, i_lit, nI_ltI, nI_leI, nI_eq, nI_add, pk_mul, pk_sub, nI_clamp, if_pos, if_neg, if_true, if_false, Option.bind_some, true_or, or_true, false_or, or_false, or_self, not_true_eq_false, not_false_eq_true, i_m1lt, i_m1le, i_nlt1, i_nle1, i_ne1, i_1ne]
        exact z d (i + 1) m (by omega)
      · obtain ⟨h7, -⟩ := hf (sy r i - 6) (by omega)
        by_cases h8 : (b (sy r i - 6)).testBit 6 = true
        · rw [h8, bI_t] at h7
          have e : (beg sy b r (d + 1) i).testBit 6 = (beg sy b r d (i + 1)).testBit 6 := by
            simp only [beg, if_neg h6, if_pos h8]
            rw [Nat.testBit_or]
            have : (b (sy r i - 6) % 64).testBit 6 = false := (bit6_lt (by omega)).mpr (by omega)
            rw [this, Bool.false_or]
          simp (disch := omega) only [B_Model_isEmpty_0, h2, h5, h7, i_10, e3, e, i_lit, nI_ltI, nI_leI, nI_eq, nI_add, pk_mul, pk_sub, nI_clamp, if_pos, if_neg, if_true, if_false, Option.bind_some, true_or, or_true, false_or, or_false, or_self, not_true_eq_false, not_false_eq_true, i_m1lt, i_m1le, i_nlt1, i_nle1, i_ne1, i_1ne]
          exact ih (i + 1) m (by omega)
        · have h8' : (b (sy r i - 6)).testBit 6 = false := by simpa using h8
          rw [h8', bI_f] at h7
          have e : (beg sy b r (d + 1) i).testBit 6 = false := by
            simp only [beg, if_neg h6, if_neg h8]; exact h8'
          simp (disch := omega) only [B_Model_isEmpty_0, h2, h5, h7, i_10, e3, e, bI_f, i_lit, nI_ltI, nI_leI, nI_eq, nI_add, pk_mul, pk_sub, nI_clamp, if_pos, if_neg, if_true, if_false, Option.bind_some, true_or, or_true, false_or, or_false, or_self, not_true_eq_false, not_false_eq_true, i_m1lt, i_m1le, i_nlt1, i_nle1, i_ne1, i_1ne]
          exact z d (i + 1) m (by omega)
  obtain ⟨m, hm⟩ := fuelled (k := ln r - p + 1) (by omega)
  have e0 : nI 4 * nI r + nI p = nI (4 * r + p) := by simp (disch := omega) only [i_lit, nI_ltI, nI_leI, nI_eq, nI_add, pk_mul, pk_sub, nI_clamp, if_pos, if_neg, if_true, if_false, Option.bind_some, true_or, or_true, false_or, or_false, or_self, not_true_eq_false, not_false_eq_true, i_m1lt, i_m1le, i_nlt1, i_nle1, i_ne1, i_1ne]
  show F_Model_isEmpty f1 f3 f4 fuel_ 0 (nI r) (nI p) (nI 1) (nI 4 * nI r + nI p) = _
  rw [e0, hm]
  exact key (ln r - p) p m (by omega)
end
