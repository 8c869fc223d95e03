/-! where a text goes wrong, of both -/
def LRD.out (g : LRD) (w : Nat → Nat) (n : Nat) : Option Nat → List Nat → Prop
  | none, S => g.rdS w n S ∧ g.cm 6 S
  | some k, S => (k < n ∧ g.rdS w k S ∧ ¬ g.cm (w k) S) ∨ (k = n ∧ g.rdS w n S ∧ ¬ g.cm 6 S)
theorem LRD.out_ex {g : LRD} (h : g.ok) {w : Nat → Nat} {n : Nat} (hn : n ≤ 20) (hw : ∀ i, i < n → w i < 6) : ∃ o S, g.out w n o S := by
  rcases LRD.split h n hn hw with ⟨S, hS⟩ | ⟨k, S, h1, h2, h3⟩
  · by_cases hc : g.cm 6 S
    · exact ⟨none, S, hS, hc⟩
    · exact ⟨some n, S, Or.inr ⟨rfl, hS, hc⟩⟩
  · exact ⟨some k, S, Or.inl ⟨h1, h2, h3⟩⟩
theorem LRD.st_vf {g : LRD} {n : Nat} : ∀ {S : List Nat}, g.st n S → g.vf n S
  | [], h => h
  | _ :: _, h => h.1
theorem LRD.rn_h {g : LRD} {t : Nat} : ∀ K (S E : List Nat), S.length ≤ 399 → g.rn 399 t K S = some E → E.length ≤ 399
  | 0, S, E, hS, h => by cases h; exact hS
  | K + 1, S, E, hS, h => by
    have h' : (g.mv 399 t S).bind (g.rn 399 t K) = some E := h
    cases hm : g.mv 399 t S with
    | none => rw [hm] at h'; cases h'
    | some S1 =>
      rw [hm] at h'
      cases S with
      | nil => cases hm
      | cons q S =>
        obtain ⟨r, q0, S0, q1, b1, b2, b3, b4, b5, rfl⟩ := LRD.mv_inv hm
        exact rn_h K _ E (by simp only [List.length_cons]; omega) h'
section
variable {g : LRD} {w : Nat → Nat} {n : Nat}
theorem c_wwalk (hg : g.ok) {X : Int32} {lef siz red tgt txt : Nat → Int32} (h : TC g X lef siz red tgt) (hn : n ≤ 16) (hw : ∀ j, j < n → w j < 6 ∧ txt j = nI (w j)) {C H : Nat → Int32} (h0 : SR C H 0 [0]) : ∀ k S, k ≤ n → g.rdS w k S →
    ∃ C' H', SR C' H' 0 S ∧ fr C H C' H' 0 ∧ ∀ m, F_Stacks_wrongPlace X lef siz red tgt (nI n) txt (m + k) 0 (nI 0) C H = F_Stacks_wrongPlace X lef siz red tgt (nI n) txt m 0 (nI k) C' H'
  | 0, S, hk, hr => by
    have : S = [0] := hr
    subst this
    exact ⟨C, H, h0, fr_refl _ _ _, fun m => rfl⟩
  | k + 1, S, hk, hr => by
    obtain ⟨S0, h1, h2⟩ := hr
    obtain ⟨C1, H1, a1, a2, a3⟩ := c_wwalk hg h hn hw h0 k S0 (by omega) h1
    have hs := LRD.rdS_st hg k S0 (fun i hi => (hw i (by omega)).1) h1
    obtain ⟨C2, H2, b1, b2, b3⟩ := (c_feed hg h (d1 := 0) (d2 := 0) (by omega) (by omega) (hw k (by omega)).1 (by omega) hs a1).1 S h2
    refine ⟨C2, H2, b2, fr_trans a2 b3, fun m => ?_⟩
    rw [show m + (k + 1) = (m + 1) + k by omega, a3]
    show B_Stacks_wrongPlace_0 (F_Stacks_wrongPlace X lef siz red tgt (nI n) txt m) X lef siz red tgt (nI n) txt (nI k) C1 H1 = _
    simp (disch := omega) only [B_Stacks_wrongPlace_0, S_Text_size, S_Text_letterAt, (hw k (by omega)).2, b1, i_lit, nI_ltI, nI_leI, nI_eq, nI_add, pk_mul, pk_sub, nI_clamp, if_pos, if_neg, if_true, if_false, Option.bind_some, true_or, or_true, false_or, or_false, or_self, not_true_eq_false, not_false_eq_true, i_m1lt, i_m1le, i_nlt1, i_nle1, i_ne1, i_1ne]
theorem c_wrongPlace (hg : g.ok) {X : Int32} {lef siz red tgt txt C H : Nat → Int32} (h : TC g X lef siz red tgt) (hn : n ≤ 16) (hw : ∀ j, j < n → w j < 6 ∧ txt j = nI (w j)) {o : Option Nat} {S : List Nat} (ho : g.out w n o S) :
    ∃ C' H', S_Stacks_wrongPlace C H X lef siz red tgt (nI n) txt = some (oI o, C', H') ∧ SR C' H' 0 S := by
  have h0 : SR (upd C 0 (nI 0)) (upd H 0 (nI 1)) 0 [0] := ⟨pk_us, by simp, pk_us, trivial⟩
  have e0 : S_Stacks_wrongPlace C H X lef siz red tgt (nI n) txt = F_Stacks_wrongPlace X lef siz red tgt (nI n) txt fuel_ 0 (nI 0) (upd C 0 (nI 0)) (upd H 0 (nI 1)) := by
    simp (disch := omega) only [S_Stacks_wrongPlace, i_lit, nI_ltI, nI_leI, nI_eq, nI_add, pk_mul, pk_sub, nI_clamp, if_pos, if_neg, if_true, if_false, Option.bind_some, true_or, or_true, false_or, or_false, or_self, not_true_eq_false, not_false_eq_true, i_m1lt, i_m1le, i_nlt1, i_nle1, i_ne1, i_1ne]
  obtain ⟨m, hm⟩ := fuelled (k := 1 + 16) (by omega)
  have fin : ∀ k S, k ≤ n → g.rdS w k S → ∃ C' H', SR C' H' 0 S ∧ ∃ m', S_Stacks_wrongPlace C H X lef siz red tgt (nI n) txt = B_Stacks_wrongPlace_0 (F_Stacks_wrongPlace X lef siz red tgt (nI n) txt m') X lef siz red tgt (nI n) txt (nI k) C' H' := by
    intro k S hk hr
    obtain ⟨C1, H1, a1, a2, a3⟩ := c_wwalk hg h hn hw h0 k S hk hr
    refine ⟨C1, H1, a1, m + (16 - k), ?_⟩
    rw [e0, hm, show m + (1 + 16) = (m + (16 - k) + 1) + k by omega, a3]
    rfl
  have hz : ¬ nI 1 = nI 0 := by decide
  have stk : ∀ k S, k ≤ n → g.rdS w k S → g.st k S := fun k S hk hr => LRD.rdS_st hg k S (fun i hi => (hw i (by omega)).1) hr
  cases o with
  | none =>
    obtain ⟨h1, h2⟩ := ho
    obtain ⟨C1, H1, a1, m', a2⟩ := fin n S (Nat.le_refl _) h1
    refine ⟨C1, H1, ?_, a1⟩
    have hc := (c_can hg h (d := 0) (t := 6) (by omega) (by omega) (LRD.st_vf (stk n S (Nat.le_refl _) h1)) a1).1 h2
    rw [a2]
    simp (disch := omega) only [B_Stacks_wrongPlace_0, S_Text_size, S_Stacks_isSentence, hc, oI_n, hz, i_lit, nI_ltI, nI_leI, nI_eq, nI_add, pk_mul, pk_sub, nI_clamp, if_pos, if_neg, if_true, if_false, Option.bind_some, true_or, or_true, false_or, or_false, or_self, not_true_eq_false, not_false_eq_true, i_m1lt, i_m1le, i_nlt1, i_nle1, i_ne1, i_1ne]
  | some k =>
    rcases ho with ⟨h0, h1, h2⟩ | ⟨rfl, h1, h2⟩
    · obtain ⟨C1, H1, a1, m', a2⟩ := fin k S (by omega) h1
      refine ⟨C1, H1, ?_, a1⟩
      have hf := (c_feed hg h (d1 := 0) (d2 := 0) (by omega) (by omega) (hw k h0).1 (by omega) (stk k S (by omega) h1) a1).2 h2
      rw [a2]
      simp (disch := omega) only [B_Stacks_wrongPlace_0, S_Text_size, S_Text_letterAt, (hw k h0).2, hf, oI_s, i_lit, nI_ltI, nI_leI, nI_eq, nI_add, pk_mul, pk_sub, nI_clamp, if_pos, if_neg, if_true, if_false, Option.bind_some, true_or, or_true, false_or, or_false, or_self, not_true_eq_false, not_false_eq_true, i_m1lt, i_m1le, i_nlt1, i_nle1, i_ne1, i_1ne]
    · obtain ⟨C1, H1, a1, m', a2⟩ := fin k S (Nat.le_refl _) h1
      refine ⟨C1, H1, ?_, a1⟩
      have hc := (c_can hg h (d := 0) (t := 6) (by omega) (by omega) (LRD.st_vf (stk k S (Nat.le_refl _) h1)) a1).2 h2
      rw [a2]
      simp (disch := omega) only [B_Stacks_wrongPlace_0, S_Text_size, S_Stacks_isSentence, hc, oI_s, i_lit, nI_ltI, nI_leI, nI_eq, nI_add, pk_mul, pk_sub, nI_clamp, if_pos, if_neg, if_true, if_false, Option.bind_some, true_or, or_true, false_or, or_false, or_self, not_true_eq_false, not_false_eq_true, i_m1lt, i_m1le, i_nlt1, i_nle1, i_ne1, i_1ne]
theorem m_wwalk (hg : g.ok) {lef len fol nxt fre : Nat → Int32} (h : TM g lef len fol nxt) (hn : n ≤ 20) (hw : ∀ j, j < n → w j < 6 ∧ fre j = nI (w j)) {wh : Nat} (hwh : wh ≤ 1) {A : Nat → Int32} (hA : A 0 = nI 0) : ∀ k S, k ≤ n → g.rdS w k S →
    ∃ A' K, K ≤ 2600005 * k ∧ sr A' 0 S ∧ ∀ m, F_Model_wrongAt fol fre lef len nxt (m + K) 0 (nI n) (nI wh) (nI 0) (nI 0) (nI 0) (nI 0) (nI 0) (nI 0) A = F_Model_wrongAt fol fre lef len nxt m 0 (nI n) (nI wh) (nI (S.length - 1)) (nI k) (nI 0) (nI 0) (nI 0) (nI 0) A'
  | 0, S, hk, hr => by
    have : S = [0] := hr
    subst this
    exact ⟨A, 0, by omega, ⟨hA, trivial⟩, fun m => rfl⟩
  | k + 1, S, hk, hr => by
    obtain ⟨S0, h1, h2⟩ := hr
    obtain ⟨A1, K1, a0, a1, a2⟩ := m_wwalk hg h hn hw hwh hA k S0 (by omega) h1
    have hs := LRD.rdS_st hg k S0 (fun i hi => (hw i (by omega)).1) h1
    have hwk := (hw k (by omega)).1
    obtain ⟨K, q', S1, q2, b0, b1, b2, rfl⟩ := h2
    cases S0 with
    | nil => exact hs.elim
    | cons q S0 =>
      have hl := hs.2.1
      obtain ⟨A2, c1, c2⟩ := m_wrun hg h hn hw (k := k) (c := k) (wh := wh) (by omega) hwh (Or.inl (by omega)) (t := w k) (by rw [if_pos (by omega)]) (by omega) K q S0 (q' :: S1) A1 hs.1 a1 (by omega) b1
      have hv := LRD.rc_vf hg (show w k ≤ 6 by omega) K _ _ hs.1 b1
      have hh := LRD.hgt hg hv hwk b2
      obtain ⟨A3, d1, d2⟩ := m_wshift hg h hn hw (k := k) (wh := wh) hv c1 (by omega) (by omega) hwh b2
      refine ⟨A3, K1 + (5 * K + 5), by omega, d1, fun m => ?_⟩
      rw [show m + (K1 + (5 * K + 5)) = (m + 5 + 5 * K) + K1 by omega, a2]
      have e1 : (q :: S0).length - 1 = S0.length := rfl
      have e2 : (q' :: S1).length - 1 = S1.length := rfl
      have e3 : (q2 :: q' :: S1).length - 1 = S1.length + 1 := rfl
      rw [e1, c2, e2, d2, e3]
theorem m_wrong0 (hg : g.ok) {lef len fol nxt fre A : Nat → Int32} (h : TM g lef len fol nxt) (hn : n ≤ 20) (hw : ∀ j, j < n → w j < 6 ∧ fre j = nI (w j)) {wh k : Nat} {S : List Nat} (hwh : wh ≤ 1) (hk : k ≤ n) (hr : g.rdS w k S) :
    ∃ A', sr A' 0 S ∧ ∀ Z, Z ≤ 2600006 → ∃ m, S_Model_wrongAt (nI n) (nI wh) fol fre lef len nxt A = F_Model_wrongAt fol fre lef len nxt (m + Z) 0 (nI n) (nI wh) (nI (S.length - 1)) (nI k) (nI 0) (nI 0) (nI 0) (nI 0) A' := by
  obtain ⟨A1, K, a0, a1, a2⟩ := m_wwalk hg h hn hw hwh (A := upd A 0 (nI 0)) pk_us k S hk hr
  obtain ⟨m, hm⟩ := fuelled (k := 60000000) (by omega)
  have e0 : S_Model_wrongAt (nI n) (nI wh) fol fre lef len nxt A = F_Model_wrongAt fol fre lef len nxt fuel_ 0 (nI n) (nI wh) (nI 0) (nI 0) (nI 0) (nI 0) (nI 0) (nI 0) (upd A 0 (nI 0)) := by
    simp (disch := omega) only [S_Model_wrongAt, i_lit, nI_ltI, nI_leI, nI_eq, nI_add, pk_mul, pk_sub, nI_clamp, if_pos, if_neg, if_true, if_false, Option.bind_some, true_or, or_true, false_or, or_false, or_self, not_true_eq_false, not_false_eq_true, i_m1lt, i_m1le, i_nlt1, i_nle1, i_ne1, i_1ne]
  refine ⟨A1, a1, fun Z hZ => ⟨m + (60000000 - K - Z), ?_⟩⟩
  rw [e0, hm, show m + 60000000 = (m + (60000000 - K - Z) + Z) + K by omega, a2]
/-- asked without the end -/
theorem m_wrongP (hg : g.ok) {lef len fol nxt fre A : Nat → Int32} (h : TM g lef len fol nxt) (hn : n ≤ 20) (hw : ∀ j, j < n → w j < 6 ∧ fre j = nI (w j)) :
    (∀ S, g.rdS w n S → ∃ A', S_Model_wrongAt (nI n) (nI 0) fol fre lef len nxt A = some (nI n, A')) ∧
    (∀ k S, k < n → g.rdS w k S → ¬ g.cm (w k) S → ∃ A', S_Model_wrongAt (nI n) (nI 0) fol fre lef len nxt A = some (nI k, A')) := by
  constructor
  · intro S hr
    obtain ⟨A1, a1, a2⟩ := m_wrong0 hg (A := A) h hn hw (wh := 0) (by omega) (Nat.le_refl _) hr
    obtain ⟨m, a2⟩ := a2 1 (by omega)
    refine ⟨A1, ?_⟩
    rw [a2]
    show B_Model_wrongAt_0 (F_Model_wrongAt fol fre lef len nxt m) fol fre lef len nxt (nI n) (nI 0) (nI (S.length - 1)) (nI n) (nI 0) (nI 0) (nI 0) (nI 0) A1 = _
    simp (disch := omega) only [B_Model_wrongAt_0, i_lit, nI_ltI, nI_leI, nI_eq, nI_add, pk_mul, pk_sub, nI_clamp, if_pos, if_neg, if_true, if_false, Option.bind_some, true_or, or_true, false_or, or_false, or_self, not_true_eq_false, not_false_eq_true, i_m1lt, i_m1le, i_nlt1, i_nle1, i_ne1, i_1ne]
  · intro k S hk hr hc
    obtain ⟨A1, a1, a2⟩ := m_wrong0 hg (A := A) h hn hw (wh := 0) (by omega) (by omega) hr
    obtain ⟨m, a2⟩ := a2 5 (by omega)
    refine ⟨A1, ?_⟩
    have hs := LRD.rdS_st hg k S (fun i hi => (hw i (by omega)).1) hr
    cases S with
    | nil => exact hs.elim
    | cons q S =>
      have := hs.2.1
      rw [a2]
      exact m_wfail hg h hn hw hs.1 a1 (by omega) (by omega) (by omega) (Or.inl hk) (t := w k) (by rw [if_pos hk]) hc _
/-- asked with the end -/
theorem m_wrongW (hg : g.ok) {lef len fol nxt fre A : Nat → Int32} (h : TM g lef len fol nxt) (hn : n ≤ 19) (hw : ∀ j, j < n → w j < 6 ∧ fre j = nI (w j)) {o : Option Nat} {S : List Nat} (ho : g.out w n o S) :
    ∃ A', S_Model_wrongAt (nI n) (nI 1) fol fre lef len nxt A = some (oI o, A') := by
  have key : ∀ k S, k ≤ n → g.rdS w k S → ¬ g.cm (if k < n then w k else 6) S → ∃ A', S_Model_wrongAt (nI n) (nI 1) fol fre lef len nxt A = some (nI k, A') := by
    intro k S hk hr hc
    obtain ⟨A1, a1, a2⟩ := m_wrong0 hg (A := A) h (by omega) hw (wh := 1) (by omega) hk hr
    obtain ⟨m, a2⟩ := a2 5 (by omega)
    refine ⟨A1, ?_⟩
    have hs := LRD.rdS_st hg k S (fun i hi => (hw i (by omega)).1) hr
    cases S with
    | nil => exact hs.elim
    | cons q S =>
      have := hs.2.1
      rw [a2]
      exact m_wfail hg h (by omega) hw hs.1 a1 (by omega) hk (by omega) (Or.inr rfl) rfl hc _
  cases o with
  | some k =>
    rcases ho with ⟨h0, h1, h2⟩ | ⟨rfl, h1, h2⟩
    · exact key k S (by omega) h1 (by rw [if_pos h0]; exact h2)
    · exact key k S (Nat.le_refl _) h1 (by rw [if_neg (by omega)]; exact h2)
  | none =>
    obtain ⟨h1, h2⟩ := ho
    obtain ⟨A1, a1, a2⟩ := m_wrong0 hg (A := A) h (by omega) hw (wh := 1) (by omega) (Nat.le_refl _) h1
    have hs := LRD.rdS_st hg n S (fun i hi => (hw i (by omega)).1) h1
    cases S with
    | nil => exact hs.elim
    | cons q S =>
      have hl := hs.2.1
      rcases h2 with ⟨r, h2⟩ | ⟨h2, -⟩
      · obtain ⟨K, q', S', b1, b2, b3, b4⟩ := LRD.endd hg hn hs h2
        obtain ⟨A2, c1, c2⟩ := m_wrun hg h (by omega) hw (k := n) (c := n) (wh := 1) (Nat.le_refl _) (by omega) (Or.inr rfl) (t := 6) (by rw [if_neg (by omega)]) (by omega) K q S (q' :: S') A1 hs.1 a1 (by omega) b2
        refine ⟨A2, ?_⟩
        have hl' : S'.length < 400 := by
          have := LRD.rn_h K _ _ (by simp only [List.length_cons]; omega) b2
          simp only [List.length_cons] at this
          omega
        obtain ⟨m, a2⟩ := a2 (5 + 5 * K) (by omega)
        rw [a2, show m + (5 + 5 * K) = m + 5 + 5 * K by omega]
        have e1 : (q :: S).length - 1 = S.length := rfl
        have e2 : (q' :: S').length - 1 = S'.length := rfl
        rw [e1, c2, e2]
        exact m_wacc hg h (by omega) hw b4 c1 hl' b3 _
      · omega
end
