/-! numbers: literals as nI, and what the tests come to -/
theorem i_lit (n : Nat) : (@OfNat.ofNat Int32 n _) = nI (@OfNat.ofNat Nat n _) := rfl
def oI : Option Nat → Int32
  | none => -1
  | some k => nI k
theorem i_m1lt {a : Nat} (h : a < 2 ^ 31) : -nI 1 < nI a := by
  rw [Int32.lt_iff_toInt_lt, nI_toInt h]
  show (-1 : Int) < a
  omega
theorem i_m1le {a : Nat} (h : a < 2 ^ 31) : -nI 1 ≤ nI a := Int32.le_of_lt (i_m1lt h)
theorem i_nlt1 {a : Nat} (h : a < 2 ^ 31) : ¬ nI a < -nI 1 := fun h1 => Int32.lt_irrefl (Int32.lt_trans h1 (i_m1lt h))
theorem i_nle1 {a : Nat} (h : a < 2 ^ 31) : ¬ nI a ≤ -nI 1 := by
  rw [Int32.le_iff_toInt_le, nI_toInt h]
  show ¬ (a : Int) ≤ -1
  omega
theorem i_ne1 {a : Nat} (h : a < 2 ^ 31) : ¬ nI a = -nI 1 := fun h1 => i_nle1 h (h1 ▸ Int32.le_refl _)
theorem i_1ne {a : Nat} (h : a < 2 ^ 31) : ¬ -nI 1 = nI a := fun h1 => i_ne1 h h1.symm
/-- an int is below 0, or n or more, or one of 0 .. n-1 -/
theorem i_ix (x : Int32) {n : Nat} (hn : n < 2 ^ 31) : x < nI 0 ∨ (nI n ≤ x ∧ ∃ j : Nat, n ≤ j ∧ j < 2 ^ 31 ∧ x = nI j) ∨ ∃ j : Nat, j < n ∧ x = nI j := by
  rcases pk_ix x hn with h | h | h
  · exact Or.inl h
  · refine Or.inr (Or.inl ⟨h, ?_⟩)
    have h0 : ¬ x < 0 := fun h1 => Int32.lt_irrefl (Int32.lt_of_lt_of_le (Int32.lt_of_lt_of_le h1 (nI_pos' hn)) h)
    obtain ⟨j, hj, rfl⟩ := nI_of h0
    exact ⟨j, (nI_leI hn hj).mp h, hj, rfl⟩
  · exact Or.inr (Or.inr h)
theorem i_cmp {x : Int64} {y : Int32} (h : x = y.toInt64) : lg_cmp x (Int32.toInt64 y) = 0 := by
  subst h
  simp [lg_cmp]
theorem i_add4 (j : Nat) : nI (4 * j) + 4 = nI (4 * (j + 1)) := by
  rw [i_lit, nI_add]; rfl
theorem i_char {c : Nat} (hc : c < 65536) : vp_nar .char (nI c) = nI c := by
  simp [vp_nar, (pk_charN hc).1]
theorem i_m1neg : -nI 1 < nI 0 := by decide
