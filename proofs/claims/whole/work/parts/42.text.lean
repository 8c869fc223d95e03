/-! rows that are filled, what the signs mean, and the call text -/
def fl (f g : Nat → Int32) (a i : Nat) : Nat → Int32 := fun j => if a ≤ j ∧ j < a + i then g j else f j
theorem fl_0 (f g : Nat → Int32) (a : Nat) : fl f g a 0 = f := by
  funext j; simp only [fl]; rw [if_neg (by omega)]
theorem fl_up (f g : Nat → Int32) (a i : Nat) : upd (fl f g a i) (a + i) (g (a + i)) = fl f g a (i + 1) := by
  funext j
  by_cases e : j = a + i
  · subst e; rw [pk_us]; simp only [fl]; rw [if_pos (by omega)]
  · rw [pk_un e]; simp only [fl]
    by_cases h : a ≤ j ∧ j < a + i
    · rw [if_pos h, if_pos (by omega)]
    · rw [if_neg h, if_neg (by omega)]
theorem fl_in {f g : Nat → Int32} {a i j : Nat} (h : a ≤ j) (h2 : j < a + i) : fl f g a i j = g j := by simp only [fl]; rw [if_pos ⟨h, h2⟩]
theorem fl_out {f g : Nat → Int32} {a i j : Nat} (h : j < a ∨ a + i ≤ j) : fl f g a i j = f j := by simp only [fl]; rw [if_neg (by omega)]
theorem fuelled {k : Nat} (h : k ≤ 100000000) : ∃ n, fuel_ = n + k := ⟨fuel_ - k, by unfold fuel_; omega⟩
/-- the value of a sign -/
def sgn (c : Nat) : Int32 := if 97 ≤ c ∧ c ≤ 102 then nI (c - 97) else if 65 ≤ c ∧ c ≤ 70 then nI (6 + (c - 65)) else -1
theorem s_symbolAt {w i c : Nat} {f : Nat → Int32} (hw : w ≤ 10) (hi : i < w) (hc : c < 127) (hf : f i = nI c) : S_Line_symbolAt (nI i) (nI w) f = some (sgn c) := by
  by_cases h1 : c < 97
  · by_cases h2 : c < 65
    · simp (disch := omega) only [S_Line_symbolAt, hf, sgn, i_lit, nI_ltI, nI_leI, nI_eq, nI_add, pk_mul, pk_sub, nI_clamp, if_pos, if_neg, if_true, if_false, Option.bind_some, true_or, or_true, false_or, or_false, or_self, not_true_eq_false, not_false_eq_true, i_m1lt, i_m1le, i_nlt1, i_nle1, i_ne1, i_1ne]
    · by_cases h3 : 70 < c
      · simp (disch := omega) only [S_Line_symbolAt, hf, sgn, i_lit, nI_ltI, nI_leI, nI_eq, nI_add, pk_mul, pk_sub, nI_clamp, if_pos, if_neg, if_true, if_false, Option.bind_some, true_or, or_true, false_or, or_false, or_self, not_true_eq_false, not_false_eq_true, i_m1lt, i_m1le, i_nlt1, i_nle1, i_ne1, i_1ne]
      · simp (disch := omega) only [S_Line_symbolAt, hf, sgn, i_lit, nI_ltI, nI_leI, nI_eq, nI_add, pk_mul, pk_sub, nI_clamp, if_pos, if_neg, if_true, if_false, Option.bind_some, true_or, or_true, false_or, or_false, or_self, not_true_eq_false, not_false_eq_true, i_m1lt, i_m1le, i_nlt1, i_nle1, i_ne1, i_1ne]
  · by_cases h3 : 102 < c
    · simp (disch := omega) only [S_Line_symbolAt, hf, sgn, i_lit, nI_ltI, nI_leI, nI_eq, nI_add, pk_mul, pk_sub, nI_clamp, if_pos, if_neg, if_true, if_false, Option.bind_some, true_or, or_true, false_or, or_false, or_self, not_true_eq_false, not_false_eq_true, i_m1lt, i_m1le, i_nlt1, i_nle1, i_ne1, i_1ne]
    · simp (disch := omega) only [S_Line_symbolAt, hf, sgn, i_lit, nI_ltI, nI_leI, nI_eq, nI_add, pk_mul, pk_sub, nI_clamp, if_pos, if_neg, if_true, if_false, Option.bind_some, true_or, or_true, false_or, or_false, or_self, not_true_eq_false, not_false_eq_true, i_m1lt, i_m1le, i_nlt1, i_nle1, i_ne1, i_1ne]
theorem s_symbolAt0 {f : Nat → Int32} {i : Nat} (hi : i < 2 ^ 31) : S_Line_symbolAt (nI i) (nI 0) f = some (-1) := by
  simp (disch := omega) only [S_Line_symbolAt, i_lit, nI_ltI, nI_leI, nI_eq, nI_add, pk_mul, pk_sub, nI_clamp, if_pos, if_neg, if_true, if_false, Option.bind_some, true_or, or_true, false_or, or_false, or_self, not_true_eq_false, not_false_eq_true, i_m1lt, i_m1le, i_nlt1, i_nle1, i_ne1, i_1ne]
theorem sgn_l {c : Nat} (h : 97 ≤ c ∧ c ≤ 102) : sgn c = nI (c - 97) := by simp only [sgn, if_pos h]
theorem sgn_n {c : Nat} (h : ¬ (97 ≤ c ∧ c ≤ 102)) : sgn c = -nI 1 ∨ ∃ k, k < 6 ∧ 65 ≤ c ∧ c ≤ 70 ∧ k = c - 65 ∧ sgn c = nI (6 + k) := by
  by_cases h2 : 65 ≤ c ∧ c ≤ 70
  · exact Or.inr ⟨c - 65, by omega, h2.1, h2.2, rfl, by simp only [sgn, if_neg h, if_pos h2]⟩
  · exact Or.inl (by simp only [sgn, if_neg h, if_neg h2]; rfl)
theorem t_read0 {w : Nat} {c : Nat → Nat} {f : Nat → Int32} (hf : ∀ j, j < w → c j < 127 ∧ f j = nI (c j)) (hw : w ≤ 10) (x0 : Int32) (f1 : Nat → Int32) : ∀ k i n : Nat, i + k ≤ w → (∀ j, i ≤ j → j < i + k → 97 ≤ c j ∧ c j ≤ 102) → F_Text_readFrom (nI w) f (n + k) 0 (nI w) (nI i) x0 f1 = F_Text_readFrom (nI w) f n 0 (nI w) (nI (i + k)) x0 f1 := by
  intro k
  induction k with
  | zero => intro i n h hg; rfl
  | succ k ih =>
    intro i n h hg
    show B_Text_readFrom_0 (F_Text_readFrom (nI w) f (n + k)) (nI w) f (nI w) (nI i) x0 f1 = _
    have hl := hg i (by omega) (by omega)
    have hi := hf i (by omega)
    simp (disch := omega) only [B_Text_readFrom_0, s_symbolAt hw (show i < w by omega) hi.1 hi.2, sgn_l hl, i_lit, nI_ltI, nI_leI, nI_eq, nI_add, pk_mul, pk_sub, nI_clamp, if_pos, if_neg, if_true, if_false, Option.bind_some, true_or, or_true, false_or, or_false, or_self, not_true_eq_false, not_false_eq_true, i_m1lt, i_m1le, i_nlt1, i_nle1, i_ne1, i_1ne]
    rw [ih (i + 1) n (by omega) (fun j h1 h2 => hg j (by omega) (by omega)), show i + 1 + k = i + (k + 1) by omega]
theorem t_read1 {w : Nat} {c : Nat → Nat} {f : Nat → Int32} (hf : ∀ j, j < w → c j < 127 ∧ f j = nI (c j)) (hw : w ≤ 8) (hg : ∀ j, j < w → 97 ≤ c j ∧ c j ≤ 102) (x0 : Int32) (f1 : Nat → Int32) : ∀ k i n : Nat, i + k ≤ w → F_Text_readFrom (nI w) f (n + k) 1 (nI w) (nI i) x0 (fl f1 (fun j => nI (c j - 97)) 0 i) = F_Text_readFrom (nI w) f n 1 (nI w) (nI (i + k)) x0 (fl f1 (fun j => nI (c j - 97)) 0 (i + k)) := by
  intro k
  induction k with
  | zero => intro i n h; rfl
  | succ k ih =>
    intro i n h
    show B_Text_readFrom_1 (F_Text_readFrom (nI w) f (n + k)) (nI w) f (nI w) (nI i) x0 _ = _
    have hl := hg i (by omega)
    have hi := hf i (by omega)
    have hu := fl_up f1 (fun j => nI (c j - 97)) 0 i
    rw [Nat.zero_add] at hu
    simp (disch := omega) only [B_Text_readFrom_1, s_symbolAt (show w ≤ 10 by omega) (show i < w by omega) hi.1 hi.2, sgn_l hl, hu, i_lit, nI_ltI, nI_leI, nI_eq, nI_add, pk_mul, pk_sub, nI_clamp, if_pos, if_neg, if_true, if_false, Option.bind_some, true_or, or_true, false_or, or_false, or_self, not_true_eq_false, not_false_eq_true, i_m1lt, i_m1le, i_nlt1, i_nle1, i_ne1, i_1ne]
    rw [ih (i + 1) n (by omega), show i + 1 + k = i + (k + 1) by omega]
theorem t_m0 {w : Nat} {c : Nat → Nat} {f : Nat → Int32} (hf : ∀ j, j < w → c j < 127 ∧ f j = nI (c j)) (hw : w ≤ 10) (x0 x2 x15 x22 x23 : Int32) (f2 : Nat → Int32) : ∀ k i n : Nat, i + k ≤ w → (∀ j, i ≤ j → j < i + k → 97 ≤ c j ∧ c j ≤ 102) → F_Model_text f (n + k) 0 (nI w) (nI 1) (nI i) x0 x2 x15 x22 x23 f2 = F_Model_text f n 0 (nI w) (nI 1) (nI (i + k)) x0 x2 x15 x22 x23 f2 := by
  intro k
  induction k with
  | zero => intro i n h hg; rfl
  | succ k ih =>
    intro i n h hg
    show B_Model_text_0 (F_Model_text f (n + k)) f (nI w) (nI 1) (nI i) x0 x2 x15 x22 x23 f2 = _
    have hl := hg i (by omega) (by omega)
    have hi := hf i (by omega)
    simp (disch := omega) only [B_Model_text_0, S_Model_isLetter, hi.2, i_lit, nI_ltI, nI_leI, nI_eq, nI_add, pk_mul, pk_sub, nI_clamp, if_pos, if_neg, if_true, if_false, Option.bind_some, true_or, or_true, false_or, or_false, or_self, not_true_eq_false, not_false_eq_true, i_m1lt, i_m1le, i_nlt1, i_nle1, i_ne1, i_1ne]
    rw [ih (i + 1) n (by omega) (fun j h1 h2 => hg j (by omega) (by omega)), show i + 1 + k = i + (k + 1) by omega]
theorem t_m1 {w : Nat} {c : Nat → Nat} {f : Nat → Int32} (hf : ∀ j, j < w → c j < 127 ∧ f j = nI (c j)) (hw : w ≤ 8) (hg : ∀ j, j < w → 97 ≤ c j ∧ c j ≤ 102) (l2 x0 x2 x15 x22 x23 : Int32) (f2 : Nat → Int32) : ∀ k i n : Nat, i + k ≤ w → F_Model_text f (n + k) 1 (nI w) l2 (nI i) x0 x2 x15 x22 x23 (fl f2 (fun j => nI (c j - 97)) 0 i) = F_Model_text f n 1 (nI w) l2 (nI (i + k)) x0 x2 x15 x22 x23 (fl f2 (fun j => nI (c j - 97)) 0 (i + k)) := by
  intro k
  induction k with
  | zero => intro i n h; rfl
  | succ k ih =>
    intro i n h
    show B_Model_text_1 (F_Model_text f (n + k)) f (nI w) l2 (nI i) x0 x2 x15 x22 x23 _ = _
    have hl := hg i (by omega)
    have hi := hf i (by omega)
    have hu := fl_up f2 (fun j => nI (c j - 97)) 0 i
    rw [Nat.zero_add] at hu
    simp (disch := omega) only [B_Model_text_1, hi.2, hu, i_lit, nI_ltI, nI_leI, nI_eq, nI_add, pk_mul, pk_sub, nI_clamp, if_pos, if_neg, if_true, if_false, Option.bind_some, true_or, or_true, false_or, or_false, or_self, not_true_eq_false, not_false_eq_true, i_m1lt, i_m1le, i_nlt1, i_nle1, i_ne1, i_1ne]
    rw [ih (i + 1) n (by omega), show i + 1 + k = i + (k + 1) by omega]
theorem p_text {w : Nat} {a b x3 x4 x5 y0 y22 y23 la lb : Int32} {f g l1 l2 : Nat → Int32} {l : Nat} {wd : Nat → Nat} (h : IL w a f b g) (ht : IT l wd la l1 lb l2) :
    (∃ (lz : Int32) (q : Nat → Int32) (lz' : Int32) (q' : Nat → Int32) (l' : Nat) (wd' : Nat → Nat), S_Desk_text x3 x4 x5 a la f l1 = some (0, nI l', 0, 0, 0, 0, lz, q) ∧ S_Model_text y0 b lb y22 y23 g l2 = some (nI l', 0, 0, lz', 0, 0, q') ∧ IT l' wd' lz q lz' q') ∨
    (S_Desk_text x3 x4 x5 a la f l1 = some (1, 0, x3, x4, x5, 0, la, l1) ∧ S_Model_text y0 b lb y22 y23 g l2 = some (0, 1, 0, lb, y22, y23, l2)) := by
  obtain ⟨hw, rfl, rfl, hj⟩ := h
  obtain ⟨c, hc⟩ : ∃ c : Nat → Nat, ∀ j, j < w → c j < 127 ∧ f j = nI (c j) ∧ g j = nI (c j) := by
    refine ⟨fun j => (f j).toNatClampNeg, fun j h => ?_⟩
    obtain ⟨e, c, h1, h2, h3⟩ := hj j h
    have h4 : (f j).toNatClampNeg = c := by rw [h3, nI_clamp (by omega)]
    exact ⟨by show (f j).toNatClampNeg < 127; omega, by show f j = nI (f j).toNatClampNeg; rw [h4, h3], by show g j = nI (f j).toNatClampNeg; rw [h4, ← e, h3]⟩
  have hf : ∀ j, j < w → c j < 127 ∧ f j = nI (c j) := fun j h => ⟨(hc j h).1, (hc j h).2.1⟩
  have hg : ∀ j, j < w → c j < 127 ∧ g j = nI (c j) := fun j h => ⟨(hc j h).1, (hc j h).2.2⟩
  by_cases h8 : w ≤ 8
  · by_cases hall : ∀ j, j < w → 97 ≤ c j ∧ c j ≤ 102
    · refine Or.inl ⟨nI w, fl l1 (fun j => nI (c j - 97)) 0 w, nI w, fl l2 (fun j => nI (c j - 97)) 0 w, w, fun j => c j - 97, ?_, ?_, by omega, rfl, rfl, ?_⟩
      · obtain ⟨n, hn⟩ := fuelled (k := 1 + w + 1 + w) (by omega)
        have e0 := t_read0 hf hw la l1 w 0 (n + 1 + w + 1) (by omega) (fun j _ h => hall j (by omega))
        have e1 := t_read1 hf h8 hall la l1 w 0 (n + 1) (by omega)
        rw [Nat.zero_add] at e0 e1
        rw [fl_0] at e1
        have e2 : F_Text_readFrom (nI w) f (n + 1 + w + 1) 0 (nI w) (nI w) la l1 = F_Text_readFrom (nI w) f (n + 1 + w) 1 (nI w) (nI 0) la l1 := by
          show B_Text_readFrom_0 _ (nI w) f (nI w) (nI w) la l1 = _
          simp (disch := omega) only [B_Text_readFrom_0, i_lit, nI_ltI, nI_leI, nI_eq, nI_add, pk_mul, pk_sub, nI_clamp, if_pos, if_neg, if_true, if_false, Option.bind_some, true_or, or_true, false_or, or_false, or_self, not_true_eq_false, not_false_eq_true, i_m1lt, i_m1le, i_nlt1, i_nle1, i_ne1, i_1ne]
        have e3 : F_Text_readFrom (nI w) f (n + 1) 1 (nI w) (nI w) la (fl l1 (fun j => nI (c j - 97)) 0 w) = some (1, nI w, fl l1 (fun j => nI (c j - 97)) 0 w) := by
          show B_Text_readFrom_1 _ (nI w) f (nI w) (nI w) la _ = _
          simp (disch := omega) only [B_Text_readFrom_1, i_lit, nI_ltI, nI_leI, nI_eq, nI_add, pk_mul, pk_sub, nI_clamp, if_pos, if_neg, if_true, if_false, Option.bind_some, true_or, or_true, false_or, or_false, or_self, not_true_eq_false, not_false_eq_true, i_m1lt, i_m1le, i_nlt1, i_nle1, i_ne1, i_1ne]
        have hF : F_Text_readFrom (nI w) f fuel_ 0 (nI w) (nI 0) la l1 = some (1, nI w, fl l1 (fun j => nI (c j - 97)) 0 w) := by
          rw [hn, show n + (1 + w + 1 + w) = n + 1 + w + 1 + w by omega, e0, e2, e1, e3]
        simp (disch := omega) only [S_Desk_text, S_Text_readFrom, S_Line_size, S_Line_clear, hF, S_Finds_forget, S_Text_size, i_lit, nI_ltI, nI_leI, nI_eq, nI_add, pk_mul, pk_sub, nI_clamp, if_pos, if_neg, if_true, if_false, Option.bind_some, true_or, or_true, false_or, or_false, or_self, not_true_eq_false, not_false_eq_true, i_m1lt, i_m1le, i_nlt1, i_nle1, i_ne1, i_1ne]
      · obtain ⟨n, hn⟩ := fuelled (k := 1 + w + 1 + w) (by omega)
        have e0 := t_m0 hg hw (nI 0) (nI 0) lb y22 y23 l2 w 0 (n + 1 + w + 1) (by omega) (fun j _ h => hall j (by omega))
        have e1 := t_m1 hg h8 hall (nI 1) (nI 0) (nI 0) (nI w) y22 y23 l2 w 0 (n + 1) (by omega)
        rw [Nat.zero_add] at e0 e1
        rw [fl_0] at e1
        have e2 : F_Model_text g (n + 1 + w + 1) 0 (nI w) (nI 1) (nI w) (nI 0) (nI 0) lb y22 y23 l2 = F_Model_text g (n + 1 + w) 1 (nI w) (nI 1) (nI 0) (nI 0) (nI 0) (nI w) y22 y23 l2 := by
          show B_Model_text_0 _ g (nI w) (nI 1) (nI w) (nI 0) (nI 0) lb y22 y23 l2 = _
          simp (disch := omega) only [B_Model_text_0, i_lit, nI_ltI, nI_leI, nI_eq, nI_add, pk_mul, pk_sub, nI_clamp, if_pos, if_neg, if_true, if_false, Option.bind_some, true_or, or_true, false_or, or_false, or_self, not_true_eq_false, not_false_eq_true, i_m1lt, i_m1le, i_nlt1, i_nle1, i_ne1, i_1ne]
        have e3 : F_Model_text g (n + 1) 1 (nI w) (nI 1) (nI w) (nI 0) (nI 0) (nI w) y22 y23 (fl l2 (fun j => nI (c j - 97)) 0 w) = some (nI w, nI 0, nI 0, nI w, nI 0, nI 0, fl l2 (fun j => nI (c j - 97)) 0 w) := by
          show B_Model_text_1 _ g (nI w) (nI 1) (nI w) (nI 0) (nI 0) (nI w) y22 y23 _ = _
          simp (disch := omega) only [B_Model_text_1, S_Model_forget, i_lit, nI_ltI, nI_leI, nI_eq, nI_add, pk_mul, pk_sub, nI_clamp, if_pos, if_neg, if_true, if_false, Option.bind_some, true_or, or_true, false_or, or_false, or_self, not_true_eq_false, not_false_eq_true, i_m1lt, i_m1le, i_nlt1, i_nle1, i_ne1, i_1ne]
        have hF : F_Model_text g fuel_ 0 (nI w) (nI 1) (nI 0) (nI 0) (nI 0) lb y22 y23 l2 = some (nI w, nI 0, nI 0, nI w, nI 0, nI 0, fl l2 (fun j => nI (c j - 97)) 0 w) := by
          rw [hn, show n + (1 + w + 1 + w) = n + 1 + w + 1 + w by omega, e0, e2, e1, e3]
        simp (disch := omega) only [S_Model_text, hF, i_lit, nI_ltI, nI_leI, nI_eq, nI_add, pk_mul, pk_sub, nI_clamp, if_pos, if_neg, if_true, if_false, Option.bind_some, true_or, or_true, false_or, or_false, or_self, not_true_eq_false, not_false_eq_true, i_m1lt, i_m1le, i_nlt1, i_nle1, i_ne1, i_1ne]
      · intro j hjw
        have := hall j hjw
        exact ⟨by show c j - 97 < 6; omega, fl_in (by omega) (by omega), fl_in (by omega) (by omega)⟩
    · right
      obtain ⟨j0, hj0⟩ : ∃ j, j < w ∧ ¬ (97 ≤ c j ∧ c j ≤ 102) := by
        apply Classical.byContradiction
        intro hno
        exact hall (fun j h => Classical.byContradiction fun h2 => hno ⟨j, h, h2⟩)
      obtain ⟨j, ⟨hjw, hb⟩, hmin⟩ := pk_least (fun j => j < w ∧ ¬ (97 ≤ c j ∧ c j ≤ 102)) ⟨j0, hj0⟩
      have hgood : ∀ i, i < j → 97 ≤ c i ∧ c i ≤ 102 := fun i hi => Classical.byContradiction fun h2 => hmin i hi ⟨by omega, h2⟩
      constructor
      · obtain ⟨n, hn⟩ := fuelled (k := 1 + j) (by omega)
        have e0 := t_read0 hf hw la l1 j 0 (n + 1) (by omega) (fun i _ h => hgood i (by omega))
        rw [Nat.zero_add] at e0
        have e2 : F_Text_readFrom (nI w) f (n + 1) 0 (nI w) (nI j) la l1 = some (0, la, l1) := by
          show B_Text_readFrom_0 _ (nI w) f (nI w) (nI j) la l1 = _
          rcases sgn_n hb with hs | ⟨k, hk, -, -, -, hs⟩
          · have hneg : -nI 1 < nI 0 := i_m1neg
            simp (disch := omega) only [B_Text_readFrom_0, s_symbolAt hw hjw (hf j hjw).1 (hf j hjw).2, hs, hneg, i_lit, nI_ltI, nI_leI, nI_eq, nI_add, pk_mul, pk_sub, nI_clamp, if_pos, if_neg, if_true, if_false, Option.bind_some, true_or, or_true, false_or, or_false, or_self, not_true_eq_false, not_false_eq_true, i_m1lt, i_m1le, i_nlt1, i_nle1, i_ne1, i_1ne]
          · simp (disch := omega) only [B_Text_readFrom_0, s_symbolAt hw hjw (hf j hjw).1 (hf j hjw).2, hs, i_lit, nI_ltI, nI_leI, nI_eq, nI_add, pk_mul, pk_sub, nI_clamp, if_pos, if_neg, if_true, if_false, Option.bind_some, true_or, or_true, false_or, or_false, or_self, not_true_eq_false, not_false_eq_true, i_m1lt, i_m1le, i_nlt1, i_nle1, i_ne1, i_1ne]
        have hF : F_Text_readFrom (nI w) f fuel_ 0 (nI w) (nI 0) la l1 = some (0, la, l1) := by
          rw [hn, show n + (1 + j) = n + 1 + j by omega, e0, e2]
        simp (disch := omega) only [S_Desk_text, S_Text_readFrom, S_Line_size, S_Line_clear, hF, S_Finds_forget, S_Text_size, i_lit, nI_ltI, nI_leI, nI_eq, nI_add, pk_mul, pk_sub, nI_clamp, if_pos, if_neg, if_true, if_false, Option.bind_some, true_or, or_true, false_or, or_false, or_self, not_true_eq_false, not_false_eq_true, i_m1lt, i_m1le, i_nlt1, i_nle1, i_ne1, i_1ne]
      · obtain ⟨n, hn⟩ := fuelled (k := 2 + j) (by omega)
        have e0 := t_m0 hg hw (nI 0) (nI 0) lb y22 y23 l2 j 0 (n + 2) (by omega) (fun i _ h => hgood i (by omega))
        rw [Nat.zero_add] at e0
        have e2 : F_Model_text g (n + 2) 0 (nI w) (nI 1) (nI j) (nI 0) (nI 0) lb y22 y23 l2 = F_Model_text g (n + 1) 0 (nI w) (nI 0) (nI (j + 1)) (nI 0) (nI 0) lb y22 y23 l2 := by
          show B_Model_text_0 _ g (nI w) (nI 1) (nI j) (nI 0) (nI 0) lb y22 y23 l2 = _
          have hcj := (hg j hjw).1
          by_cases h97 : c j < 97
          · simp (disch := omega) only [B_Model_text_0, S_Model_isLetter, (hg j hjw).2, i_lit, nI_ltI, nI_leI, nI_eq, nI_add, pk_mul, pk_sub, nI_clamp, if_pos, if_neg, if_true, if_false, Option.bind_some, true_or, or_true, false_or, or_false, or_self, not_true_eq_false, not_false_eq_true, i_m1lt, i_m1le, i_nlt1, i_nle1, i_ne1, i_1ne]
          · simp (disch := omega) only [B_Model_text_0, S_Model_isLetter, (hg j hjw).2, i_lit, nI_ltI, nI_leI, nI_eq, nI_add, pk_mul, pk_sub, nI_clamp, if_pos, if_neg, if_true, if_false, Option.bind_some, true_or, or_true, false_or, or_false, or_self, not_true_eq_false, not_false_eq_true, i_m1lt, i_m1le, i_nlt1, i_nle1, i_ne1, i_1ne]
        have e3 : F_Model_text g (n + 1) 0 (nI w) (nI 0) (nI (j + 1)) (nI 0) (nI 0) lb y22 y23 l2 = some (nI 0, nI 1, nI 0, lb, y22, y23, l2) := by
          show B_Model_text_0 _ g (nI w) (nI 0) (nI (j + 1)) (nI 0) (nI 0) lb y22 y23 l2 = _
          by_cases hjj : w ≤ j + 1
          · simp (disch := omega) only [B_Model_text_0, S_Model_fails, i_lit, nI_ltI, nI_leI, nI_eq, nI_add, pk_mul, pk_sub, nI_clamp, if_pos, if_neg, if_true, if_false, Option.bind_some, true_or, or_true, false_or, or_false, or_self, not_true_eq_false, not_false_eq_true, i_m1lt, i_m1le, i_nlt1, i_nle1, i_ne1, i_1ne]
          · simp (disch := omega) only [B_Model_text_0, S_Model_fails, i_lit, nI_ltI, nI_leI, nI_eq, nI_add, pk_mul, pk_sub, nI_clamp, if_pos, if_neg, if_true, if_false, Option.bind_some, true_or, or_true, false_or, or_false, or_self, not_true_eq_false, not_false_eq_true, i_m1lt, i_m1le, i_nlt1, i_nle1, i_ne1, i_1ne]
        have hF : F_Model_text g fuel_ 0 (nI w) (nI 1) (nI 0) (nI 0) (nI 0) lb y22 y23 l2 = some (nI 0, nI 1, nI 0, lb, y22, y23, l2) := by
          rw [hn, show n + (2 + j) = n + 2 + j by omega, e0, e2, e3]
        simp (disch := omega) only [S_Model_text, hF, i_lit, nI_ltI, nI_leI, nI_eq, nI_add, pk_mul, pk_sub, nI_clamp, if_pos, if_neg, if_true, if_false, Option.bind_some, true_or, or_true, false_or, or_false, or_self, not_true_eq_false, not_false_eq_true, i_m1lt, i_m1le, i_nlt1, i_nle1, i_ne1, i_1ne]
  · right
    constructor
    · simp (disch := omega) only [S_Desk_text, S_Text_readFrom, S_Line_size, S_Line_clear, i_lit, nI_ltI, nI_leI, nI_eq, nI_add, pk_mul, pk_sub, nI_clamp, if_pos, if_neg, if_true, if_false, Option.bind_some, true_or, or_true, false_or, or_false, or_self, not_true_eq_false, not_false_eq_true, i_m1lt, i_m1le, i_nlt1, i_nle1, i_ne1, i_1ne]
    · obtain ⟨n, hn⟩ := fuelled (k := 1) (by omega)
      have hF : F_Model_text g fuel_ 0 (nI w) (nI 0) (nI 0) (nI 0) (nI 0) lb y22 y23 l2 = some (nI 0, nI 1, nI 0, lb, y22, y23, l2) := by
        rw [hn]
        show B_Model_text_0 _ g (nI w) (nI 0) (nI 0) (nI 0) (nI 0) lb y22 y23 l2 = _
        simp (disch := omega) only [B_Model_text_0, S_Model_fails, i_lit, nI_ltI, nI_leI, nI_eq, nI_add, pk_mul, pk_sub, nI_clamp, if_pos, if_neg, if_true, if_false, Option.bind_some, true_or, or_true, false_or, or_false, or_self, not_true_eq_false, not_false_eq_true, i_m1lt, i_m1le, i_nlt1, i_nle1, i_ne1, i_1ne]
      simp (disch := omega) only [S_Model_text, hF, i_lit, nI_ltI, nI_leI, nI_eq, nI_add, pk_mul, pk_sub, nI_clamp, if_pos, if_neg, if_true, if_false, Option.bind_some, true_or, or_true, false_or, or_false, or_self, not_true_eq_false, not_false_eq_true, i_m1lt, i_m1le, i_nlt1, i_nle1, i_ne1, i_1ne]
