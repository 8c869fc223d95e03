/-! all rows of one cost, in their order -/
def AC : Type := Nat × (Nat → Nat × (Nat → Nat) × Nat)
def apd (a : AC) (x : Nat × (Nat → Nat) × Nat) : AC := (a.1 + 1, fun k => if k = a.1 then x else a.2 k)
def ext (a a' : AC) : Prop := a.1 ≤ a'.1 ∧ ∀ k, k < a.1 → a'.2 k = a.2 k
theorem ext_refl (a : AC) : ext a a := ⟨Nat.le_refl _, fun _ _ => rfl⟩
theorem ext_trans {a b c : AC} (h1 : ext a b) (h2 : ext b c) : ext a c := ⟨Nat.le_trans h1.1 h2.1, fun k hk => (h2.2 k (Nat.lt_of_lt_of_le hk h1.1)).trans (h1.2 k hk)⟩
theorem apd_k (a : AC) (x : Nat × (Nat → Nat) × Nat) : (apd a x).2 a.1 = x := by simp only [apd, if_true]
theorem apd_n (a : AC) (x : Nat × (Nat → Nat) × Nat) {k : Nat} (h : k ≠ a.1) : (apd a x).2 k = a.2 k := by simp only [apd, if_neg h]
theorem ext_apd (a : AC) (x : Nat × (Nat → Nat) × Nat) : ext a (apd a x) := ⟨Nat.le_succ _, fun k hk => apd_n a x (by omega)⟩
def vld (l wr : Nat) (a : AC) : Prop := ∀ k, k < a.1 → (a.2 k).1 ≤ 6 ∧ rok l wr (a.2 k).1 (a.2 k).2.1
def EnS (g : LRD) (l wr : Nat) (wd pc tc : Nat → Nat) (B G : Nat) (R : Nat → (Nat → Nat) → List Nat → AC → AC → Prop) (d : Nat) (st : Nat → Nat) (S : List Nat) (a a' : AC) : Prop :=
  (¬ gdS g l wr wd pc tc B d st S ∧ a' = a) ∨
  (gdS g l wr wd pc tc B d st S ∧ ∃ S', g.rdS (ow wd wr st (d + 1)) (wr + cpt st (d + 1)) S' ∧ (st d = 6 → S' = S) ∧ (st d ≠ 6 → g.fd (if st d < 6 then st d else wd (wr + ctk st d)) S S') ∧
    ((csm pc tc wd wr st (d + 1) = B ∧ ∃ o S'', g.out (fw wd wr st (d + 1)) (wr + cpt st (d + 1) + (l - (wr + ctk st (d + 1)))) o S'' ∧ a' = if o = none ∨ G ≤ rch (wr + cpt st (d + 1)) (wr + cpt st (d + 1) + (l - (wr + ctk st (d + 1)))) o then apd a (d + 1, st, rch (wr + cpt st (d + 1)) (wr + cpt st (d + 1) + (l - (wr + ctk st (d + 1)))) o) else a) ∨
     (csm pc tc wd wr st (d + 1) < B ∧ R (d + 1) st S' a a')))
def Enm (g : LRD) (l wr : Nat) (wd pc tc : Nat → Nat) (B G : Nat) : Nat → Nat → (Nat → Nat) → List Nat → AC → AC → Prop
  | 0 => fun _ _ _ _ _ => False
  | e + 1 => fun d st S a a' => ∃ A : Nat → AC, A 0 = a ∧ A 8 = a' ∧ ∀ c, c < 8 → EnS g l wr wd pc tc B G (Enm g l wr wd pc tc B G e) d (upN st d c) S (A c) (A (c + 1))
section
variable {g : LRD} {l : Nat} {wd pc tc : Nat → Nat} {X : Int32} {lef siz red tgt txt put tak lem len fol nxt wrd mput mtak : Nat → Int32} {wr B G : Nat}
/-- what stands before the last step of a longer row -/
theorem up_pre {d c : Nat} {st : Nat → Nat} {S : List Nat} (hr : rok l wr d st) (hS : g.rdS (ow wd wr st d) (wr + cpt st d) S) : rok l wr d (upN st d c) ∧ g.rdS (ow wd wr (upN st d c) d) (wr + cpt (upN st d c) d) S ∧ cpt (upN st d c) d = cpt st d ∧ ctk (upN st d c) d = ctk st d ∧ cps (upN st d c) d = cps st d ∧ csm pc tc wd wr (upN st d c) d = csm pc tc wd wr st d ∧ upN st d c d = c ∧ ∀ j, j < d → upN st d c j = st j := by
  have he : ∀ i, i < d → st i = upN st d c i := fun i hi => (upN_n st (by omega)).symm
  obtain ⟨h1, h2, h3, h4, h5⟩ := pre_cong pc tc wd wr d he
  refine ⟨rok_cong hr he, ?_, h1.symm, h2.symm, h3.symm, h4.symm, upN_s _ _ _, fun j hj => (he j hj).symm⟩
  rw [← h1, ← h5]; exact hS
theorem EnS_mono {R : Nat → (Nat → Nat) → List Nat → AC → AC → Prop} {d M : Nat} {st : Nat → Nat} {S : List Nat} (hM : 1 ≤ M) (hd : d ≤ 5) (hr : rok l wr d st) (h8 : st d < 8) (hR : ∀ S' a a', gdS g l wr wd pc tc B d st S → csm pc tc wd wr st (d + 1) < B → g.rdS (ow wd wr st (d + 1)) (wr + cpt st (d + 1)) S' → R (d + 1) st S' a a' → ext a a' ∧ a'.1 ≤ a.1 + M ∧ (vld l wr a → vld l wr a')) {a a' : AC} (h : EnS g l wr wd pc tc B G R d st S a a') : ext a a' ∧ a'.1 ≤ a.1 + M ∧ (vld l wr a → vld l wr a') := by
  rcases h with ⟨-, rfl⟩ | ⟨h1, S', h2, -, -, ⟨h3, o, S'', h4, h5⟩ | ⟨h3, h4⟩⟩
  · exact ⟨ext_refl _, by omega, id⟩
  · by_cases e : o = none ∨ G ≤ rch (wr + cpt st (d + 1)) (wr + cpt st (d + 1) + (l - (wr + ctk st (d + 1)))) o
    · rw [if_pos e] at h5
      subst h5
      refine ⟨ext_apd _ _, ?_, fun hv k hk => ?_⟩
      · show a.1 + 1 ≤ a.1 + M
        omega
      · by_cases ek : k = a.1
        · subst ek; rw [apd_k]; exact ⟨by show d + 1 ≤ 6; omega, gd_rok hr h8 h1⟩
        · rw [apd_n _ _ ek]
          have hk' : k < a.1 + 1 := hk
          exact hv k (by omega)
    · rw [if_neg e] at h5
      subst h5
      exact ⟨ext_refl _, by omega, id⟩
  · exact hR S' a a' h1 h3 h2 h4
theorem Enm_mono (hX : RX g l wd pc tc X lef siz red tgt txt put tak lem len fol nxt wrd mput mtak) (hwr : wr ≤ l) (hB : B ≤ 3) : ∀ e d st S a a', d + e = 6 → rok l wr d st → g.rdS (ow wd wr st d) (wr + cpt st d) S → csm pc tc wd wr st d < B → Enm g l wr wd pc tc B G e d st S a a' → ext a a' ∧ a'.1 ≤ a.1 + 8 ^ e ∧ (vld l wr a → vld l wr a')
  | 0, d, st, S, a, a', hd, hr, hS, hlt, h => h.elim
  | e + 1, d, st, S, a, a', hd, hr, hS, hlt, h => by
    obtain ⟨A, h0, h8, hA⟩ := h
    have hp : 1 ≤ 8 ^ e := Nat.pow_pos (by omega)
    have key : ∀ n, n ≤ 8 → ext a (A n) ∧ (A n).1 ≤ a.1 + n * 8 ^ e ∧ (vld l wr a → vld l wr (A n)) := by
      intro n
      induction n with
      | zero => intro _; rw [h0]; exact ⟨ext_refl _, by omega, id⟩
      | succ n ih =>
        intro hn
        obtain ⟨i1, i2, i3⟩ := ih (by omega)
        obtain ⟨u1, u2, u3, u4, u5, u6, u7, u8⟩ := up_pre (c := n) (pc := pc) (tc := tc) hr hS
        obtain ⟨j1, j2, j3⟩ := EnS_mono hp (by omega) u1 (by rw [u7]; omega) (fun S' b b' g1 g2 g3 g4 => Enm_mono hX hwr hB e (d + 1) _ S' b b' (by omega) (gd_rok u1 (by rw [u7]; omega) g1) g3 g2 g4) (hA n (by omega))
        exact ⟨ext_trans i1 j1, by rw [Nat.add_mul]; omega, fun hv => j3 (i3 hv)⟩
    have := key 8 (Nat.le_refl _)
    rw [h8] at this
    refine ⟨this.1, ?_, this.2.2⟩
    rw [Nat.pow_succ, Nat.mul_comm]
    exact this.2.1
theorem Enm_ex (hX : RX g l wd pc tc X lef siz red tgt txt put tak lem len fol nxt wrd mput mtak) (hwr : wr ≤ l) (hB : B ≤ 3) : ∀ e d st S a, d + e = 6 → rok l wr d st → g.rdS (ow wd wr st d) (wr + cpt st d) S → csm pc tc wd wr st d < B → ∃ a', Enm g l wr wd pc tc B G e d st S a a'
  | 0, d, st, S, a, hd, hr, hS, hlt => by
    have := (low_sz hX hwr hr).2.2
    omega
  | e + 1, d, st, S, a, hd, hr, hS, hlt => by
    obtain ⟨k1, k2⟩ := RX_c hX
    have step : ∀ c a, c < 8 → ∃ a', EnS g l wr wd pc tc B G (Enm g l wr wd pc tc B G e) d (upN st d c) S a a' := by
      intro c a hc
      obtain ⟨u1, u2, u3, u4, u5, u6, u7, u8⟩ := up_pre (c := c) (pc := pc) (tc := tc) hr hS
      by_cases hgd : gdS g l wr wd pc tc B d (upN st d c) S
      · have h8 : upN st d c d < 8 := by rw [u7]; exact hc
        obtain ⟨S', s1, s2, s3⟩ := gd_S hX hwr hB u1 h8 u2 hgd
        have hr' := gd_rok u1 h8 hgd
        have hlz := low_sz hX hwr hr'
        have hl := hX.2.2.2.1
        have hle := hgd.2.2.2.1
        by_cases hb : csm pc tc wd wr (upN st d c) (d + 1) = B
        · obtain ⟨o, S'', ho⟩ := LRD.out_ex hX.1 (w := fw wd wr (upN st d c) (d + 1)) (n := wr + cpt (upN st d c) (d + 1) + (l - (wr + ctk (upN st d c) (d + 1)))) (by omega) (fun i hi => fw_lt k2 hwr hr' hi)
          exact ⟨_, Or.inr ⟨hgd, S', s1, s2, s3, Or.inl ⟨hb, o, S'', ho, rfl⟩⟩⟩
        · obtain ⟨a', ha⟩ := Enm_ex hX hwr hB e (d + 1) (upN st d c) S' a (by omega) hr' s1 (by omega)
          exact ⟨a', Or.inr ⟨hgd, S', s1, s2, s3, Or.inr ⟨by omega, ha⟩⟩⟩
      · exact ⟨a, Or.inl ⟨hgd, rfl⟩⟩
    have seq : ∀ n, n ≤ 8 → ∃ A : Nat → AC, A 0 = a ∧ ∀ c, c < n → EnS g l wr wd pc tc B G (Enm g l wr wd pc tc B G e) d (upN st d c) S (A c) (A (c + 1)) := by
      intro n
      induction n with
      | zero => intro _; exact ⟨fun _ => a, rfl, fun c hc => absurd hc (by omega)⟩
      | succ n ih =>
        intro hn
        obtain ⟨A, h0, hA⟩ := ih (by omega)
        obtain ⟨a', ha⟩ := step n (A n) (by omega)
        refine ⟨fun c => if c = n + 1 then a' else A c, by simp only [if_neg (show ¬ 0 = n + 1 by omega)]; exact h0, fun c hc => ?_⟩
        by_cases ec : c = n
        · subst ec
          simp only [if_neg (show ¬ c = c + 1 by omega), if_true]
          exact ha
        · simp only [if_neg (show ¬ c = n + 1 by omega), if_neg (show ¬ c + 1 = n + 1 by omega)]
          exact hA c (by omega)
    obtain ⟨A, h0, hA⟩ := seq 8 (Nat.le_refl _)
    exact ⟨A 8, A, h0, rfl, hA⟩
/-! the reference finds them -/
def MRp (a : AC) (y22 : Int32) (g45 g46 : Nat → Int32) : Prop := y22 = nI a.1 ∧ ∀ k, k < 40 → k < a.1 → (a.2 k).1 ≤ 6 ∧ g46 k = nI (a.2 k).2.2 ∧ (∀ i, i < (a.2 k).1 → g45 (7 * k + i) = nI ((a.2 k).2.1 i)) ∧ ∀ i, (a.2 k).1 ≤ i → i < 7 → g45 (7 * k + i) = -nI 1
def bnd : Nat → Nat
  | 0 => 0
  | e + 1 => 8 * (bnd e + 3) + 1
theorem m_exp (hX : RX g l wd pc tc X lef siz red tgt txt put tak lem len fol nxt wrd mput mtak) (hwr : wr ≤ l) (hB : B ≤ 3) (hG : G ≤ 3) : ∀ e d st S a a' y22 y27 y28 f2 g46 row stk g45, d + e = 6 → rok l wr d st → g.rdS (ow wd wr st d) (wr + cpt st d) S → csm pc tc wd wr st d < B → Enm g l wr wd pc tc B G e d st S a a' → MRp a y22 g45 g46 → a.1 + 8 ^ e ≤ 1000000 → (∀ j, j < d → row j = nI (st j)) → row d = -nI 1 →
    ∃ C z22 z27 z28 F' G46 row' stk' G45, C ≤ bnd e ∧ MRp a' z22 G45 G46 ∧ (∀ j, j < d → row' j = nI (st j)) ∧ ∀ k, F_Model_search (nI l) (nI wr) fol lem len nxt mput mtak wrd (k + C) 0 (nI B) (nI G) (nI (d + 1)) (nI 0) (nI 0) y22 y27 y28 f2 g46 row stk g45 = F_Model_search (nI l) (nI wr) fol lem len nxt mput mtak wrd k 0 (nI B) (nI G) (nI d) (nI 0) (nI 0) z22 z27 z28 F' G46 row' stk' G45
  | 0, d, st, S, a, a', y22, y27, y28, f2, g46, row, stk, g45, hd, hr, hS, hlt, hE, hM, hb, hrow, hrd => hE.elim
  | e + 1, d, st, S, a, a', y22, y27, y28, f2, g46, row, stk, g45, hd, hr, hS, hlt, hE, hM, hb, hrow, hrd => by
    have hE' := hE
    obtain ⟨A, h0, h8, hA⟩ := hE
    obtain ⟨k1, k2⟩ := RX_c hX
    have hp : 1 ≤ 8 ^ e := Nat.pow_pos (by omega)
    rw [Nat.pow_succ] at hb
    -- how many there are
    have cntA : ∀ n, n ≤ 8 → (A n).1 ≤ a.1 + n * 8 ^ e := by
      intro n
      induction n with
      | zero => intro _; rw [h0]; omega
      | succ n ih =>
        intro hn
        have i2 := ih (by omega)
        obtain ⟨u1, u2, u3, u4, u5, u6, u7, u8⟩ := up_pre (c := n) (pc := pc) (tc := tc) hr hS
        obtain ⟨j1, j2, j3⟩ := EnS_mono hp (by omega) u1 (by rw [u7]; omega) (fun S' b b' g1 g2 g3 g4 => Enm_mono hX hwr hB e (d + 1) _ S' b b' (by omega) (gd_rok u1 (by rw [u7]; omega) g1) g3 g2 g4) (hA n (by omega))
        rw [Nat.add_mul]; omega
    -- one value
    have one : ∀ c y22 y27 y28 f2 g46 row stk g45, c < 8 → MRp (A c) y22 g45 g46 → (∀ j, j < d → row j = nI (st j)) → row d + nI 1 = nI c →
        ∃ C z22 z27 z28 F' G46 row' stk' G45, C ≤ bnd e + 3 ∧ MRp (A (c + 1)) z22 G45 G46 ∧ (∀ j, j < d → row' j = nI (st j)) ∧ row' d = nI c ∧ ∀ k, F_Model_search (nI l) (nI wr) fol lem len nxt mput mtak wrd (k + C) 0 (nI B) (nI G) (nI (d + 1)) (nI 0) (nI 0) y22 y27 y28 f2 g46 row stk g45 = F_Model_search (nI l) (nI wr) fol lem len nxt mput mtak wrd k 0 (nI B) (nI G) (nI (d + 1)) (nI 0) (nI 0) z22 z27 z28 F' G46 row' stk' G45 := by
      intro c y22 y27 y28 f2 g46 row stk g45 hc hM hrow hrd
      obtain ⟨u1, u2, u3, u4, u5, u6, u7, u8⟩ := up_pre (c := c) (pc := pc) (tc := tc) hr hS
      have hst8 : upN st d c d < 8 := by rw [u7]; exact hc
      have hrow2 : ∀ j, j < d → row j = nI (upN st d c j) := fun j hj => by rw [u8 j hj]; exact hrow j hj
      obtain ⟨n1, n2⟩ := m_node (G := nI G) (y22 := y22) (y27 := y27) (y28 := y28) (f2 := f2) (g46 := g46) (stk := stk) (g45 := g45) hX hwr hB (show d ≤ 5 by omega) u1 hst8 u2 (by rw [u6]; exact hlt) hrow2 (by rw [u7]; exact hrd)
      have hup : ∀ j, j < d → upd row d (nI (upN st d c d)) j = nI (st j) := fun j hj => by rw [pk_un (by omega)]; exact hrow j hj
      have hupd : upd row d (nI (upN st d c d)) d = nI c := by rw [pk_us, u7]
      rcases hA c hc with ⟨e1, e2⟩ | ⟨e1, S', e2, -, -, ⟨e3, o, S'', e4, e5⟩ | ⟨e3, e4⟩⟩
      · obtain ⟨z27, z28, F', stk', e3⟩ := n1 e1
        exact ⟨3, y22, z27, z28, F', g46, _, stk', g45, by omega, by rw [e2]; exact hM, hup, hupd, e3⟩
      · obtain ⟨F', stk', f1, f2'⟩ := n2 e1
        have hr' := gd_rok u1 hst8 e1
        have hlz := low_sz hX hwr hr'
        have hl := hX.2.2.2.1
        obtain ⟨F2, stk2, G45, t1, t2, t3⟩ := m_note (p := d + 1) (row := upd row d (nI (upN st d c d))) (g46 := g46) (stk := stk') (g45 := g45) hX rfl rfl hlz.1 rfl (by omega) (fun j hj => fw_lt k2 hwr hr' hj) (fw_rd e2) hG (by omega) (mf := (A c).1) (by have := cntA c (by omega); have : c * 8 ^ e ≤ 8 * 8 ^ e := Nat.mul_le_mul_right _ (by omega); omega) e4 f1
        have hy22 := hM.1
        subst hy22
        have s3 : ∀ k, F_Model_search (nI l) (nI wr) fol lem len nxt mput mtak wrd (k + 1) 3 (nI B) (nI G) (nI (d + 1)) (nI (csm pc tc wd wr (upN st d c) (d + 1))) (nI 1) (nI (A c).1) (nI (wr + cpt (upN st d c) (d + 1))) (nI (wr + ctk (upN st d c) (d + 1))) F' g46 (upd row d (nI (upN st d c d))) stk' g45 = ((S_Model_note (nI (d + 1)) (nI G) (nI l) (nI (A c).1) (nI (wr + cpt (upN st d c) (d + 1))) (nI (wr + ctk (upN st d c) (d + 1))) fol F' lem len nxt g46 (upd row d (nI (upN st d c d))) stk' g45 wrd).bind fun u_23 => F_Model_search (nI l) (nI wr) fol lem len nxt mput mtak wrd k 0 (nI B) (nI G) (nI (d + 1)) (nI 0) (nI 0) u_23.1 (nI (wr + cpt (upN st d c) (d + 1))) (nI (wr + ctk (upN st d c) (d + 1))) u_23.2.1 u_23.2.2.1 (upd row d (nI (upN st d c d))) u_23.2.2.2.1 u_23.2.2.2.2) := by
          intro k
          show B_Model_search_3 (F_Model_search (nI l) (nI wr) fol lem len nxt mput mtak wrd k) (nI l) (nI wr) fol lem len nxt mput mtak wrd (nI B) (nI G) (nI (d + 1)) (nI (csm pc tc wd wr (upN st d c) (d + 1))) (nI 1) (nI (A c).1) (nI (wr + cpt (upN st d c) (d + 1))) (nI (wr + ctk (upN st d c) (d + 1))) F' g46 (upd row d (nI (upN st d c d))) stk' g45 = _
          have c7 : ¬ c = 7 := by
            intro c7
            have : csm pc tc wd wr (upN st d c) (d + 1) = csm pc tc wd wr (upN st d c) d := by
              have h7 : upN st d c d = 7 := by rw [u7]; exact c7
              simp only [csm]
              rw [if_neg (by omega), if_neg (by omega), Nat.add_zero]
            omega
          have ed : d + 1 - 1 = d := by omega
          simp (disch := omega) only [B_Model_search_3, i_10, e3, ed, hupd, c7, i_lit, nI_ltI, nI_leI, nI_eq, nI_add, pk_mul, pk_sub, nI_clamp, if_pos, if_neg, if_true, if_false, Option.bind_some, true_or, or_true, false_or, or_false, or_self, not_true_eq_false, not_false_eq_true, i_m1lt, i_m1le, i_nlt1, i_nle1, i_ne1, i_1ne]
        have hrow7 : ∀ i, i < d + 1 → upd row d (nI (upN st d c d)) i = nI (upN st d c i) := by
          intro i hi
          by_cases ei : i = d
          · rw [ei, hupd, u7]
          · rw [hup i (by omega), u8 i (by omega)]
        by_cases hk : o = none ∨ G ≤ rch (wr + cpt (upN st d c) (d + 1)) (wr + cpt (upN st d c) (d + 1) + (l - (wr + ctk (upN st d c) (d + 1)))) o
        · rw [if_pos hk] at e5 t3
          by_cases h40 : (A c).1 < 40
          · rw [if_pos h40] at t3
            obtain ⟨t21, t22⟩ := t2 hk h40
            refine ⟨3, nI ((A c).1 + 1), nI (wr + cpt (upN st d c) (d + 1)), nI (wr + ctk (upN st d c) (d + 1)), F2, upd g46 (A c).1 (nI (rch (wr + cpt (upN st d c) (d + 1)) (wr + cpt (upN st d c) (d + 1) + (l - (wr + ctk (upN st d c) (d + 1)))) o)), upd row d (nI (upN st d c d)), stk2, G45, by omega, ?_, hup, hupd, fun k => ?_⟩
            · rw [e5]
              refine ⟨rfl, fun k hk1 hk2 => ?_⟩
              by_cases ek : k = (A c).1
              · subst ek
                rw [apd_k, pk_us]
                exact ⟨by show d + 1 ≤ 6; omega, rfl, fun i hi => (t21 i hi).trans (hrow7 i hi), fun i h1 h2 => t22 i h1 h2⟩
              · have hk2' : k < (A c).1 + 1 := hk2
                obtain ⟨v0, v1, v2, v3⟩ := hM.2 k hk1 (by omega)
                rw [apd_n _ _ ek, pk_un ek]
                exact ⟨v0, v1, fun i hi => by rw [t1 _ (by omega)]; exact v2 i hi, fun i h1 h2 => by rw [t1 _ (by omega)]; exact v3 i h1 h2⟩
            · rw [show k + 3 = k + 1 + 2 by omega, f2', s3, t3]
              rfl
          · rw [if_neg h40] at t3
            refine ⟨3, nI ((A c).1 + 1), nI (wr + cpt (upN st d c) (d + 1)), nI (wr + ctk (upN st d c) (d + 1)), F2, g46, upd row d (nI (upN st d c d)), stk2, G45, by omega, ?_, hup, hupd, fun k => ?_⟩
            · rw [e5]
              refine ⟨rfl, fun k hk1 hk2 => ?_⟩
              have ek : k ≠ (A c).1 := by omega
              obtain ⟨v0, v1, v2, v3⟩ := hM.2 k hk1 (by omega)
              rw [apd_n _ _ ek]
              exact ⟨v0, v1, fun i hi => by rw [t1 _ (by omega)]; exact v2 i hi, fun i h1 h2 => by rw [t1 _ (by omega)]; exact v3 i h1 h2⟩
            · rw [show k + 3 = k + 1 + 2 by omega, f2', s3, t3]
              rfl
        · rw [if_neg hk] at e5 t3
          refine ⟨3, nI (A c).1, nI (wr + cpt (upN st d c) (d + 1)), nI (wr + ctk (upN st d c) (d + 1)), F2, g46, upd row d (nI (upN st d c d)), stk2, G45, by omega, ?_, hup, hupd, fun k => ?_⟩
          · rw [e5]
            refine ⟨rfl, fun k hk1 hk2 => ?_⟩
            obtain ⟨v0, v1, v2, v3⟩ := hM.2 k hk1 hk2
            exact ⟨v0, v1, fun i hi => by rw [t1 _ (by omega)]; exact v2 i hi, fun i h1 h2 => by rw [t1 _ (by omega)]; exact v3 i h1 h2⟩
          · rw [show k + 3 = k + 1 + 2 by omega, f2', s3, t3]
            rfl
      · obtain ⟨F', stk', f1, f2'⟩ := n2 e1
        have hr' := gd_rok u1 hst8 e1
        have s3 : ∀ k, F_Model_search (nI l) (nI wr) fol lem len nxt mput mtak wrd (k + 1) 3 (nI B) (nI G) (nI (d + 1)) (nI (csm pc tc wd wr (upN st d c) (d + 1))) (nI 1) y22 (nI (wr + cpt (upN st d c) (d + 1))) (nI (wr + ctk (upN st d c) (d + 1))) F' g46 (upd row d (nI (upN st d c d))) stk' g45 = F_Model_search (nI l) (nI wr) fol lem len nxt mput mtak wrd k 0 (nI B) (nI G) (nI (d + 1 + 1)) (nI 0) (nI 0) y22 (nI (wr + cpt (upN st d c) (d + 1))) (nI (wr + ctk (upN st d c) (d + 1))) F' g46 (upd (upd row d (nI (upN st d c d))) (d + 1) (-nI 1)) stk' g45 := by
          intro k
          show B_Model_search_3 (F_Model_search (nI l) (nI wr) fol lem len nxt mput mtak wrd k) (nI l) (nI wr) fol lem len nxt mput mtak wrd (nI B) (nI G) (nI (d + 1)) (nI (csm pc tc wd wr (upN st d c) (d + 1))) (nI 1) y22 (nI (wr + cpt (upN st d c) (d + 1))) (nI (wr + ctk (upN st d c) (d + 1))) F' g46 (upd row d (nI (upN st d c d))) stk' g45 = _
          simp (disch := omega) only [B_Model_search_3, i_10, i_lit, nI_ltI, nI_leI, nI_eq, nI_add, pk_mul, pk_sub, nI_clamp, if_pos, if_neg, if_true, if_false, Option.bind_some, true_or, or_true, false_or, or_false, or_self, not_true_eq_false, not_false_eq_true, i_m1lt, i_m1le, i_nlt1, i_nle1, i_ne1, i_1ne]
        obtain ⟨C, z22, z27, z28, F2, G46, row', stk2, G45, i1, i2, i3, i4⟩ := m_exp hX hwr hB hG e (d + 1) (upN st d c) S' (A c) (A (c + 1)) y22 (nI (wr + cpt (upN st d c) (d + 1))) (nI (wr + ctk (upN st d c) (d + 1))) F' g46 (upd (upd row d (nI (upN st d c d))) (d + 1) (-nI 1)) stk' g45 (by omega) hr' e2 e3 e4 hM (by have := cntA c (by omega); have : c * 8 ^ e ≤ 7 * 8 ^ e := Nat.mul_le_mul_right _ (by omega); omega) (fun j hj => by
          rw [pk_un (by omega)]
          by_cases ej : j = d
          · rw [ej, hupd, u7]
          · rw [hup j (by omega), u8 j (by omega)]) pk_us
        refine ⟨C + 3, z22, z27, z28, F2, G46, row', stk2, G45, by omega, i2, fun j hj => by rw [i3 j (by omega), u8 j hj], by rw [i3 d (by omega), u7], fun k => ?_⟩
        rw [show k + (C + 3) = k + C + 1 + 2 by omega, f2', s3]
        exact i4 k
    -- all values
    have all : ∀ n c y22 y27 y28 f2 g46 row stk g45, c + n = 8 → MRp (A c) y22 g45 g46 → (∀ j, j < d → row j = nI (st j)) → row d + nI 1 = nI c →
        ∃ C z22 z27 z28 F' G46 row' stk' G45, C ≤ n * (bnd e + 3) + 1 ∧ MRp (A 8) z22 G45 G46 ∧ (∀ j, j < d → row' j = nI (st j)) ∧ ∀ k, F_Model_search (nI l) (nI wr) fol lem len nxt mput mtak wrd (k + C) 0 (nI B) (nI G) (nI (d + 1)) (nI 0) (nI 0) y22 y27 y28 f2 g46 row stk g45 = F_Model_search (nI l) (nI wr) fol lem len nxt mput mtak wrd k 0 (nI B) (nI G) (nI d) (nI 0) (nI 0) z22 z27 z28 F' G46 row' stk' G45 := by
      intro n
      induction n with
      | zero =>
        intro c y22 y27 y28 f2 g46 row stk g45 hc hM hrow hrd
        have : c = 8 := by omega
        subst this
        refine ⟨1, y22, y27, y28, f2, g46, upd row d (nI 8), stk, g45, by omega, hM, fun j hj => by rw [pk_un (by omega)]; exact hrow j hj, fun k => ?_⟩
        show B_Model_search_0 (F_Model_search (nI l) (nI wr) fol lem len nxt mput mtak wrd k) (nI l) (nI wr) fol lem len nxt mput mtak wrd (nI B) (nI G) (nI (d + 1)) (nI 0) (nI 0) y22 y27 y28 f2 g46 row stk g45 = _
        have ed : d + 1 - 1 = d := by omega
        have hus : upd row d (nI 8) d = nI 8 := pk_us
        simp (disch := omega) only [B_Model_search_0, ed, hrd, hus, i_dec, i_lit, nI_ltI, nI_leI, nI_eq, nI_add, pk_mul, pk_sub, nI_clamp, if_pos, if_neg, if_true, if_false, Option.bind_some, true_or, or_true, false_or, or_false, or_self, not_true_eq_false, not_false_eq_true, i_m1lt, i_m1le, i_nlt1, i_nle1, i_ne1, i_1ne]
      | succ n ih =>
        intro c y22 y27 y28 f2 g46 row stk g45 hc hM hrow hrd
        obtain ⟨C1, z22, z27, z28, F', G46, row', stk', G45, c1, c2, c3, c4, c5⟩ := one c y22 y27 y28 f2 g46 row stk g45 (by omega) hM hrow hrd
        obtain ⟨C2, w22, w27, w28, F2, G462, row2, stk2, G452, d1, d2, d3, d4⟩ := ih (c + 1) z22 z27 z28 F' G46 row' stk' G45 (by omega) c2 c3 (by rw [c4, nI_add])
        refine ⟨C2 + C1, w22, w27, w28, F2, G462, row2, stk2, G452, by rw [Nat.add_mul]; omega, d2, d3, fun k => ?_⟩
        rw [show k + (C2 + C1) = k + C2 + C1 by omega, c5, d4]
    obtain ⟨C, z22, z27, z28, F', G46, row', stk', G45, c1, c2, c3, c4⟩ := all 8 0 y22 y27 y28 f2 g46 row stk g45 (by omega) (by rw [h0]; exact hM) hrow (by rw [hrd]; decide)
    rw [h8] at c2
    exact ⟨C, z22, z27, z28, F', G46, row', stk', G45, by simp only [bnd]; omega, c2, c3, c4⟩
end
