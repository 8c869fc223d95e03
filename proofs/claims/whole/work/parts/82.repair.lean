/-! the call repair -/
def a00 : AC := (0, fun _ => (0, fun _ => 0, 0))
section
variable {g : LRD} {l : Nat} {wd pc tc : Nat → Nat} {X : Int32} {lef siz red tgt txt put tak lem len fol nxt wrd mput mtak : Nat → Int32} {wr G : Nat}
/-- all costs, of both: what is found in the end -/
theorem j_costs (hX : RX g l wd pc tc X lef siz red tgt txt put tak lem len fol nxt wrd mput mtak) (hwr : wr ≤ l) (hG : G ≤ 3) {S : List Nat} (hS : g.rdS wd wr S) (xm : Int32) : ∀ n c x46 path F25 F26 F24 C H y27 y28 f2 g46 row stk g45, c + n = 4 → 1 ≤ c → SR C H 0 S →
    ∃ (a : AC) (B : Nat) (y46 tm x3 x4 : Int32) (path' F25' F26' F24' C' H' : Nat → Int32) (z23 z27 z28 : Int32) (F' G46 row' stk' G45 : Nat → Int32) (K : Nat), vld l wr a ∧ a.1 < 1000000 ∧ B ≤ 3 ∧ CRp B a tm x3 x4 F24' F25' F26' ∧ MRp a (nI a.1) G45 G46 ∧ z23 = nI (if a.1 = 0 then 0 else B) ∧ K ≤ n + 1 ∧
      (∀ k, F_Search_findBest (nI l) put tak X txt lef siz red tgt (k + (n + 1)) 0 (nI G) (nI wr) (nI c) (nI G) x46 (nI 0) (nI 0) (nI 0) (nI wr) path F25 F26 F24 C H = some (nI (if 40 < a.1 then 0 else 1), nI G, y46, tm, x3, x4, nI wr, path', F25', F26', F24', C', H')) ∧
      (∀ k, F_Model_repair xm (nI l) fol lem len nxt mput mtak wrd (k + (n + 1)) 1 (nI G) (nI c) (nI 0) (nI 0) (nI wr) (nI 0) (nI 0) y27 y28 f2 g46 row stk g45 = if a.1 ≤ 40 then some (nI a.1, nI 0, nI wr, nI a.1, z23, z27, z28, F', G46, row', stk', G45) else some (nI 0, nI 3, nI wr, nI 0, nI 0, z27, z28, F', G46, row', stk', G45))
  | 0, c, x46, path, F25, F26, F24, C, H, y27, y28, f2, g46, row, stk, g45, hc, hc1, hSR => by
    have : c = 4 := by omega
    subst this
    refine ⟨a00, 3, x46, nI 0, nI 0, nI 0, path, F25, F26, F24, C, H, nI 0, y27, y28, f2, g46, row, stk, g45, 1, fun k hk => absurd hk (by show ¬ k < 0; omega), by show 0 < 1000000; omega, by omega, ⟨rfl, rfl, rfl, fun k _ hk => absurd hk (by show ¬ k < 0; omega)⟩, ⟨rfl, fun k _ hk => absurd hk (by show ¬ k < 0; omega)⟩, rfl, by omega, fun k => ?_, fun k => ?_⟩
    · show B_Search_findBest_0 (F_Search_findBest (nI l) put tak X txt lef siz red tgt k) (nI l) put tak X txt lef siz red tgt (nI G) (nI wr) (nI 4) (nI G) x46 (nI 0) (nI 0) (nI 0) (nI wr) path F25 F26 F24 C H = _
      simp (disch := omega) only [B_Search_findBest_0, i_lit, nI_ltI, nI_leI, nI_eq, nI_add, pk_mul, pk_sub, nI_clamp, if_pos, if_neg, if_true, if_false, Option.bind_some, true_or, or_true, false_or, or_false, or_self, not_true_eq_false, not_false_eq_true, i_m1lt, i_m1le, i_nlt1, i_nle1, i_ne1, i_1ne]
      rfl
    · show B_Model_repair_1 (F_Model_repair xm (nI l) fol lem len nxt mput mtak wrd k) xm (nI l) fol lem len nxt mput mtak wrd (nI G) (nI 4) (nI 0) (nI 0) (nI wr) (nI 0) (nI 0) y27 y28 f2 g46 row stk g45 = some (nI 0, nI 0, nI wr, nI 0, nI 0, y27, y28, f2, g46, row, stk, g45)
      simp (disch := omega) only [B_Model_repair_1, i_lit, nI_ltI, nI_leI, nI_eq, nI_add, pk_mul, pk_sub, nI_clamp, if_pos, if_neg, if_true, if_false, Option.bind_some, true_or, or_true, false_or, or_false, or_self, not_true_eq_false, not_false_eq_true, i_m1lt, i_m1le, i_nlt1, i_nle1, i_ne1, i_1ne]
  | n + 1, c, x46, path, F25, F26, F24, C, H, y27, y28, f2, g46, row, stk, g45, hc, hc1, hSR => by
    have hc3 : c ≤ 3 := by omega
    have hl := hX.2.2.2.1
    have hr0 : rok l wr 0 (fun _ => 0) := ⟨fun i hi => absurd hi (by omega), fun i hi => absurd hi (by omega), by show 0 ≤ 3; omega⟩
    have hS0 : g.rdS (ow wd wr (fun _ => 0) 0) (wr + cpt (fun _ => 0) 0) S := hS
    have hlt0 : csm pc tc wd wr (fun _ => 0) 0 < c := by show 0 < c; omega
    obtain ⟨a, hE⟩ := Enm_ex (G := G) hX hwr hc3 6 0 (fun _ => 0) S a00 (by omega) hr0 hS0 hlt0
    obtain ⟨m1, m2, m3⟩ := Enm_mono hX hwr hc3 6 0 (fun _ => 0) S a00 a (by omega) hr0 hS0 hlt0 hE
    have hv : vld l wr a := m3 (fun k hk => absurd hk (by show ¬ k < 0; omega))
    have hcnt : a.1 < 1000000 := by
      have h0 : a00.1 = 0 := rfl
      rw [h0] at m2
      have : (8 : Nat) ^ 6 = 262144 := rfl
      omega
    -- the class
    obtain ⟨tm, x3, x4, path1, F251, F261, F241, C1, H1, q1, q2, -, q4⟩ := c_exp hX hwr hc3 hG 6 0 (fun _ => 0) S a00 a (by omega) hr0 hS0 hlt0 hE (nI 0) (nI 0) (nI 0) path F25 F26 F24 C H ⟨rfl, rfl, rfl, fun k _ hk => absurd hk (by show ¬ k < 0; omega)⟩ (fun j hj => absurd hj (by omega)) hSR
    have q1' : X_Search_explore (nI 0) (nI 0) (nI wr) (nI c) (nI 0) (nI G) (nI c) (nI 0) (nI 0) (nI 0) path (nI l) put tak F25 F26 F24 C H X txt lef siz red tgt = some (tm, x3, x4, path1, F251, F261, F241, C1, H1) := q1
    -- the reference
    obtain ⟨Cm, z22, z27, z28, F', G46, row', stk', G45, p1, p2, -, p4⟩ := m_exp hX hwr hc3 hG 6 0 (fun _ => 0) S a00 a (nI 0) y27 y28 f2 g46 (upd row 0 (-nI 1)) stk g45 (by omega) hr0 hS0 hlt0 hE ⟨rfl, fun k _ hk => absurd hk (by show ¬ k < 0; omega)⟩ (by show 0 + 8 ^ 6 ≤ 1000000; decide) (fun j hj => absurd hj (by omega)) pk_us
    have hz22 := p2.1
    subst hz22
    have hb6 : bnd 6 = 936225 := rfl
    have hsr : S_Model_search (nI c) (nI G) (nI l) (nI wr) (nI 0) y27 y28 fol f2 lem len nxt mput g46 row stk g45 mtak wrd = some (nI a.1, z27, z28, F', G46, row', stk', G45) := by
      obtain ⟨k, hk⟩ := fuelled (k := 1 + Cm) (by omega)
      have e0 : S_Model_search (nI c) (nI G) (nI l) (nI wr) (nI 0) y27 y28 fol f2 lem len nxt mput g46 row stk g45 mtak wrd = F_Model_search (nI l) (nI wr) fol lem len nxt mput mtak wrd fuel_ 0 (nI c) (nI G) (nI 1) (nI 0) (nI 0) (nI 0) y27 y28 f2 g46 (upd row 0 (-nI 1)) stk g45 := by
        simp (disch := omega) only [S_Model_search, i_lit, nI_ltI, nI_leI, nI_eq, nI_add, pk_mul, pk_sub, nI_clamp, if_pos, if_neg, if_true, if_false, Option.bind_some, true_or, or_true, false_or, or_false, or_self, not_true_eq_false, not_false_eq_true, i_m1lt, i_m1le, i_nlt1, i_nle1, i_ne1, i_1ne]
      have e1 := p4 (k + 1)
      rw [show k + 1 + Cm = fuel_ by omega] at e1
      refine e0.trans (e1.trans ?_)
      show B_Model_search_0 (F_Model_search (nI l) (nI wr) fol lem len nxt mput mtak wrd k) (nI l) (nI wr) fol lem len nxt mput mtak wrd (nI c) (nI G) (nI 0) (nI 0) (nI 0) (nI a.1) z27 z28 F' G46 row' stk' G45 = _
      simp (disch := omega) only [B_Model_search_0, i_lit, nI_ltI, nI_leI, nI_eq, nI_add, pk_mul, pk_sub, nI_clamp, if_pos, if_neg, if_true, if_false, Option.bind_some, true_or, or_true, false_or, or_false, or_self, not_true_eq_false, not_false_eq_true, i_m1lt, i_m1le, i_nlt1, i_nle1, i_ne1, i_1ne]
    have sc : ∀ k, F_Search_findBest (nI l) put tak X txt lef siz red tgt (k + 1) 0 (nI G) (nI wr) (nI c) (nI G) x46 (nI 0) (nI 0) (nI 0) (nI wr) path F25 F26 F24 C H = F_Search_findBest (nI l) put tak X txt lef siz red tgt k 0 (nI G) (nI wr) (nI (c + 1)) (nI G) (nI c) tm x3 x4 (nI wr) path1 F251 F261 F241 C1 H1 := by
      intro k
      show B_Search_findBest_0 (F_Search_findBest (nI l) put tak X txt lef siz red tgt k) (nI l) put tak X txt lef siz red tgt (nI G) (nI wr) (nI c) (nI G) x46 (nI 0) (nI 0) (nI 0) (nI wr) path F25 F26 F24 C H = _
      simp (disch := omega) only [B_Search_findBest_0, S_Finds_size, q1', i_lit, nI_ltI, nI_leI, nI_eq, nI_add, pk_mul, pk_sub, nI_clamp, if_pos, if_neg, if_true, if_false, Option.bind_some, true_or, or_true, false_or, or_false, or_self, not_true_eq_false, not_false_eq_true, i_m1lt, i_m1le, i_nlt1, i_nle1, i_ne1, i_1ne]
    by_cases ha : a.1 = 0
    · have hsm : ∀ k, F_Model_repair xm (nI l) fol lem len nxt mput mtak wrd (k + 1) 1 (nI G) (nI c) (nI 0) (nI 0) (nI wr) (nI 0) (nI 0) y27 y28 f2 g46 row stk g45 = F_Model_repair xm (nI l) fol lem len nxt mput mtak wrd k 1 (nI G) (nI (c + 1)) (nI 0) (nI 0) (nI wr) (nI 0) (nI 0) z27 z28 F' G46 row' stk' G45 := by
        intro k
        show B_Model_repair_1 (F_Model_repair xm (nI l) fol lem len nxt mput mtak wrd k) xm (nI l) fol lem len nxt mput mtak wrd (nI G) (nI c) (nI 0) (nI 0) (nI wr) (nI 0) (nI 0) y27 y28 f2 g46 row stk g45 = _
        rw [ha] at hsr
        simp (disch := omega) only [B_Model_repair_1, hsr, i_lit, nI_ltI, nI_leI, nI_eq, nI_add, pk_mul, pk_sub, nI_clamp, if_pos, if_neg, if_true, if_false, Option.bind_some, true_or, or_true, false_or, or_false, or_self, not_true_eq_false, not_false_eq_true, i_m1lt, i_m1le, i_nlt1, i_nle1, i_ne1, i_1ne]
      obtain ⟨c1, c2, c3, -⟩ := q2
      rw [ha, if_pos (by omega)] at c1
      rw [ha, if_neg (by omega)] at c2
      rw [if_pos ha] at c3
      subst c1 c2 c3
      obtain ⟨a2, B, y46, tm2, x32, x42, path2, F252, F262, F242, C2, H2, w23, w27, w28, F2, G462, row2, stk2, G452, K, r1, r2, r3, r4, r5, r6, r7, r8, r9⟩ := j_costs hX hwr hG hS xm n (c + 1) (nI c) path1 F251 F261 F241 C1 H1 z27 z28 F' G46 row' stk' G45 (by omega) (by omega) (SR_low hSR q4 (Nat.le_refl _))
      refine ⟨a2, B, y46, tm2, x32, x42, path2, F252, F262, F242, C2, H2, w23, w27, w28, F2, G462, row2, stk2, G452, K, r1, r2, r3, r4, r5, r6, by omega, fun k => ?_, fun k => ?_⟩
      · rw [show k + (n + 1 + 1) = k + (n + 1) + 1 by omega, sc]; exact r8 k
      · rw [show k + (n + 1 + 1) = k + (n + 1) + 1 by omega, hsm]; exact r9 k
    · have hsm : ∀ k, F_Model_repair xm (nI l) fol lem len nxt mput mtak wrd (k + 1) 1 (nI G) (nI c) (nI 0) (nI 0) (nI wr) (nI 0) (nI 0) y27 y28 f2 g46 row stk g45 = F_Model_repair xm (nI l) fol lem len nxt mput mtak wrd k 1 (nI G) (nI (c + 1)) (nI 0) (nI 0) (nI wr) (nI a.1) (nI c) z27 z28 F' G46 row' stk' G45 := by
        intro k
        show B_Model_repair_1 (F_Model_repair xm (nI l) fol lem len nxt mput mtak wrd k) xm (nI l) fol lem len nxt mput mtak wrd (nI G) (nI c) (nI 0) (nI 0) (nI wr) (nI 0) (nI 0) y27 y28 f2 g46 row stk g45 = _
        simp (disch := omega) only [B_Model_repair_1, hsr, i_lit, nI_ltI, nI_leI, nI_eq, nI_add, pk_mul, pk_sub, nI_clamp, if_pos, if_neg, if_true, if_false, Option.bind_some, true_or, or_true, false_or, or_false, or_self, not_true_eq_false, not_false_eq_true, i_m1lt, i_m1le, i_nlt1, i_nle1, i_ne1, i_1ne]
      have hx3 := q2.1
      have htm := q2.2.1
      refine ⟨a, c, nI c, tm, x3, x4, path1, F251, F261, F241, C1, H1, nI c, z27, z28, F', G46, row', stk', G45, 1, hv, hcnt, hc3, q2, p2, by rw [if_neg ha], by omega, fun k => ?_, fun k => ?_⟩
      · rw [show k + (n + 1 + 1) = k + n + 1 + 1 by omega, sc]
        show B_Search_findBest_0 (F_Search_findBest (nI l) put tak X txt lef siz red tgt (k + n)) (nI l) put tak X txt lef siz red tgt (nI G) (nI wr) (nI (c + 1)) (nI G) (nI c) tm x3 x4 (nI wr) path1 F251 F261 F241 C1 H1 = _
        have hx0 : ¬ x3 = nI 0 := by
          rw [hx3]
          by_cases e : a.1 < 40
          · rw [if_pos e, nI_eq (by omega) (by omega)]; exact ha
          · rw [if_neg e, nI_eq (by omega) (by omega)]; omega
        by_cases h40 : 40 < a.1
        · rw [if_pos h40] at htm
          rw [if_pos h40]
          subst htm
          by_cases e : 3 < c + 1
          · simp (disch := omega) only [B_Search_findBest_0, i_10, i_lit, nI_ltI, nI_leI, nI_eq, nI_add, pk_mul, pk_sub, nI_clamp, if_pos, if_neg, if_true, if_false, Option.bind_some, true_or, or_true, false_or, or_false, or_self, not_true_eq_false, not_false_eq_true, i_m1lt, i_m1le, i_nlt1, i_nle1, i_ne1, i_1ne]
          · simp (disch := omega) only [B_Search_findBest_0, S_Finds_size, hx0, i_10, i_lit, nI_ltI, nI_leI, nI_eq, nI_add, pk_mul, pk_sub, nI_clamp, if_pos, if_neg, if_true, if_false, Option.bind_some, true_or, or_true, false_or, or_false, or_self, not_true_eq_false, not_false_eq_true, i_m1lt, i_m1le, i_nlt1, i_nle1, i_ne1, i_1ne]
        · rw [if_neg h40] at htm
          rw [if_neg h40]
          subst htm
          by_cases e : 3 < c + 1
          · simp (disch := omega) only [B_Search_findBest_0, i_lit, nI_ltI, nI_leI, nI_eq, nI_add, pk_mul, pk_sub, nI_clamp, if_pos, if_neg, if_true, if_false, Option.bind_some, true_or, or_true, false_or, or_false, or_self, not_true_eq_false, not_false_eq_true, i_m1lt, i_m1le, i_nlt1, i_nle1, i_ne1, i_1ne]
          · simp (disch := omega) only [B_Search_findBest_0, S_Finds_size, hx0, i_lit, nI_ltI, nI_leI, nI_eq, nI_add, pk_mul, pk_sub, nI_clamp, if_pos, if_neg, if_true, if_false, Option.bind_some, true_or, or_true, false_or, or_false, or_self, not_true_eq_false, not_false_eq_true, i_m1lt, i_m1le, i_nlt1, i_nle1, i_ne1, i_1ne]
      · rw [show k + (n + 1 + 1) = k + n + 1 + 1 by omega, hsm]
        show B_Model_repair_1 (F_Model_repair xm (nI l) fol lem len nxt mput mtak wrd (k + n)) xm (nI l) fol lem len nxt mput mtak wrd (nI G) (nI (c + 1)) (nI 0) (nI 0) (nI wr) (nI a.1) (nI c) z27 z28 F' G46 row' stk' G45 = _
        by_cases h40 : a.1 ≤ 40
        · rw [if_pos h40]
          by_cases e : 4 ≤ c + 1
          · simp (disch := omega) only [B_Model_repair_1, i_lit, nI_ltI, nI_leI, nI_eq, nI_add, pk_mul, pk_sub, nI_clamp, if_pos, if_neg, if_true, if_false, Option.bind_some, true_or, or_true, false_or, or_false, or_self, not_true_eq_false, not_false_eq_true, i_m1lt, i_m1le, i_nlt1, i_nle1, i_ne1, i_1ne]
          · simp (disch := omega) only [B_Model_repair_1, i_lit, nI_ltI, nI_leI, nI_eq, nI_add, pk_mul, pk_sub, nI_clamp, if_pos, if_neg, if_true, if_false, Option.bind_some, true_or, or_true, false_or, or_false, or_self, not_true_eq_false, not_false_eq_true, i_m1lt, i_m1le, i_nlt1, i_nle1, i_ne1, i_1ne]
        · rw [if_neg h40]
          by_cases e : 4 ≤ c + 1
          · simp (disch := omega) only [B_Model_repair_1, S_Model_forget, S_Model_fails, i_lit, nI_ltI, nI_leI, nI_eq, nI_add, pk_mul, pk_sub, nI_clamp, if_pos, if_neg, if_true, if_false, Option.bind_some, true_or, or_true, false_or, or_false, or_self, not_true_eq_false, not_false_eq_true, i_m1lt, i_m1le, i_nlt1, i_nle1, i_ne1, i_1ne]
          · simp (disch := omega) only [B_Model_repair_1, S_Model_forget, S_Model_fails, i_lit, nI_ltI, nI_leI, nI_eq, nI_add, pk_mul, pk_sub, nI_clamp, if_pos, if_neg, if_true, if_false, Option.bind_some, true_or, or_true, false_or, or_false, or_self, not_true_eq_false, not_false_eq_true, i_m1lt, i_m1le, i_nlt1, i_nle1, i_ne1, i_1ne]
end
theorem p_repair {l : Nat} {wd pc tc : Nat → Nat} {x3 x4 made a b p x23 x24 x25 x45 x46 x47 y0 y16 y22 y23 y27 y28 : Int32} {lef siz red tgt lem len fol nxt txt wrd put tak mput mtak path F25 F26 F24 C H fre g46 row stk g45 : Nat → Int32} (hI : IM x3 x4 lef siz red tgt made lem len fol nxt) (hT : IT l wd a txt b wrd) (hc1 : cst pc tc put tak) (hc2 : cst pc tc mput mtak) :
    ∃ (k e r x23' x24' x25' x45' x46' x47' z16 z22 z23 z27 z28 : Int32) (F25' F26' F24' path' C' H' fre' g46' row' stk' g45' : Nat → Int32),
      S_Desk_repair p x23 x24 x25 x45 x46 x47 x3 a put tak F25 F26 F24 lef siz path C H red tgt txt = some (k, r, x23', x24', x25', x45', x46', x47', F25', F26', F24', path', C', H') ∧
      S_Model_repair p y0 made b y16 y22 y23 y27 y28 fol fre lem len nxt mput g46 row stk g45 mtak wrd = some (r, e, z16, z22, z23, z27, z28, fre', g46', row', stk', g45') ∧
      ((k = nI 2 ∧ e = nI 1 ∧ r = nI 0) ∨ (k = nI 1 ∧ e = nI 2 ∧ r = nI 0) ∨ (k = nI 3 ∧ e = nI 3 ∧ r = nI 0) ∨ (k = nI 0 ∧ e = nI 0)) ∧
      ∃ f wr len st, IF f wr l len st x23' x24' x25' F24' F25' F26' z16 z22 z23 g45' g46' := by
  obtain ⟨hl, rfl, rfl, hw⟩ := hT
  have bad : ∀ s0 : Nat, 1 ≤ s0 → s0 ≤ 2 → F_Model_repair made (nI l) fol lem len nxt mput mtak wrd fuel_ 0 p (nI 0) (nI s0) y0 y16 y22 y23 y27 y28 fre g46 row stk g45 = some (nI 0, nI s0, y16, nI 0, nI 0, y27, y28, fre, g46, row, stk, g45) := by
    intro s0 h1 h2
    obtain ⟨k, hk⟩ := fuelled (k := 1) (by omega)
    rw [hk]
    show B_Model_repair_0 (F_Model_repair made (nI l) fol lem len nxt mput mtak wrd k) made (nI l) fol lem len nxt mput mtak wrd p (nI 0) (nI s0) y0 y16 y22 y23 y27 y28 fre g46 row stk g45 = _
    simp (disch := omega) only [B_Model_repair_0, S_Model_forget, i_lit, nI_ltI, nI_leI, nI_eq, nI_add, pk_mul, pk_sub, nI_clamp, if_pos, if_neg, if_true, if_false, Option.bind_some, true_or, or_true, false_or, or_false, or_self, not_true_eq_false, not_false_eq_true, i_m1lt, i_m1le, i_nlt1, i_nle1, i_ne1, i_1ne]
  rcases hI with ⟨rfl, -, rfl⟩ | ⟨g, hg, hTC, hTM, rfl, -⟩
  · refine ⟨nI 2, nI 1, nI 0, nI 0, nI 0, nI 0, x45, x46, x47, y16, nI 0, nI 0, y27, y28, F25, F26, F24, path, C, H, fre, g46, row, stk, g45, ?_, ?_, Or.inl ⟨rfl, rfl, rfl⟩, 0, 0, _, _, if_0 l⟩
    · simp (disch := omega) only [S_Desk_repair, S_Finds_forget, S_States_stateCount, i_lit, nI_ltI, nI_leI, nI_eq, nI_add, pk_mul, pk_sub, nI_clamp, if_pos, if_neg, if_true, if_false, Option.bind_some, true_or, or_true, false_or, or_false, or_self, not_true_eq_false, not_false_eq_true, i_m1lt, i_m1le, i_nlt1, i_nle1, i_ne1, i_1ne]
    · have := bad 1 (by omega) (by omega)
      simp (disch := omega) only [S_Model_repair, this, i_lit, nI_ltI, nI_leI, nI_eq, nI_add, pk_mul, pk_sub, nI_clamp, if_pos, if_neg, if_true, if_false, Option.bind_some, true_or, or_true, false_or, or_false, or_self, not_true_eq_false, not_false_eq_true, i_m1lt, i_m1le, i_nlt1, i_nle1, i_ne1, i_1ne]
  · have hm0 := hg.2.2.2.2.2.1.1
    have hm40 := hTM.1
    have hX3 := hTC.1
    have hmn : ¬ nI g.m = nI 0 := by rw [nI_eq (by omega) (by omega)]; omega
    have hRX : RX g l wd pc tc x3 lef siz red tgt txt put tak lem len fol nxt wrd mput mtak := ⟨hg, hTC, hTM, hl, hw, hc1, hc2⟩
    subst hX3
    have badg : (p < nI 0 ∨ (¬ p < nI 0 ∧ ¬ p ≤ nI 3)) → ∃ (k e r x23' x24' x25' x45' x46' x47' z16 z22 z23 z27 z28 : Int32) (F25' F26' F24' path' C' H' fre' g46' row' stk' g45' : Nat → Int32),
      S_Desk_repair p x23 x24 x25 x45 x46 x47 (nI g.m) (nI l) put tak F25 F26 F24 lef siz path C H red tgt txt = some (k, r, x23', x24', x25', x45', x46', x47', F25', F26', F24', path', C', H') ∧
      S_Model_repair p y0 (nI g.m) (nI l) y16 y22 y23 y27 y28 fol fre lem len nxt mput g46 row stk g45 mtak wrd = some (r, e, z16, z22, z23, z27, z28, fre', g46', row', stk', g45') ∧
      ((k = nI 2 ∧ e = nI 1 ∧ r = nI 0) ∨ (k = nI 1 ∧ e = nI 2 ∧ r = nI 0) ∨ (k = nI 3 ∧ e = nI 3 ∧ r = nI 0) ∨ (k = nI 0 ∧ e = nI 0)) ∧
      ∃ f wr len st, IF f wr l len st x23' x24' x25' F24' F25' F26' z16 z22 z23 g45' g46' := by
      intro hp
      refine ⟨nI 1, nI 2, nI 0, nI 0, nI 0, nI 0, x45, x46, x47, y16, nI 0, nI 0, y27, y28, F25, F26, F24, path, C, H, fre, g46, row, stk, g45, ?_, ?_, Or.inr (Or.inl ⟨rfl, rfl, rfl⟩), 0, 0, _, _, if_0 l⟩
      · rcases hp with hp | ⟨hp1, hp2⟩
        · simp (disch := omega) only [S_Desk_repair, S_Finds_forget, S_States_stateCount, hmn, hp, i_lit, nI_ltI, nI_leI, nI_eq, nI_add, pk_mul, pk_sub, nI_clamp, if_pos, if_neg, if_true, if_false, Option.bind_some, true_or, or_true, false_or, or_false, or_self, not_true_eq_false, not_false_eq_true, i_m1lt, i_m1le, i_nlt1, i_nle1, i_ne1, i_1ne]
        · simp (disch := omega) only [S_Desk_repair, S_Finds_forget, S_States_stateCount, hmn, hp1, hp2, i_lit, nI_ltI, nI_leI, nI_eq, nI_add, pk_mul, pk_sub, nI_clamp, if_pos, if_neg, if_true, if_false, Option.bind_some, true_or, or_true, false_or, or_false, or_self, not_true_eq_false, not_false_eq_true, i_m1lt, i_m1le, i_nlt1, i_nle1, i_ne1, i_1ne]
      · have := bad 2 (by omega) (by omega)
        rcases hp with hp | ⟨hp1, hp2⟩
        · simp (disch := omega) only [S_Model_repair, hmn, hp, this, i_lit, nI_ltI, nI_leI, nI_eq, nI_add, pk_mul, pk_sub, nI_clamp, if_pos, if_neg, if_true, if_false, Option.bind_some, true_or, or_true, false_or, or_false, or_self, not_true_eq_false, not_false_eq_true, i_m1lt, i_m1le, i_nlt1, i_nle1, i_ne1, i_1ne]
        · simp (disch := omega) only [S_Model_repair, hmn, hp1, hp2, this, i_lit, nI_ltI, nI_leI, nI_eq, nI_add, pk_mul, pk_sub, nI_clamp, if_pos, if_neg, if_true, if_false, Option.bind_some, true_or, or_true, false_or, or_false, or_self, not_true_eq_false, not_false_eq_true, i_m1lt, i_m1le, i_nlt1, i_nle1, i_ne1, i_1ne]
    rcases i_ix p (n := 4) (by omega) with hp | ⟨-, G, hG, hG2, rfl⟩ | ⟨G, hG, rfl⟩
    · exact badg (Or.inl hp)
    · refine badg (Or.inr ⟨nI_pos (by omega), ?_⟩)
      rw [nI_leI (by omega) (by omega)]; omega
    · have hG3 : G ≤ 3 := by omega
      obtain ⟨o, S, ho⟩ := LRD.out_ex hg (w := wd) (show l ≤ 20 by omega) (fun i hi => (hw i hi).1)
      obtain ⟨C1, H1, c1, c2⟩ := c_wrongPlace hg (C := C) (H := H) hTC hl (fun j hj => ⟨(hw j hj).1, (hw j hj).2.1⟩) ho
      obtain ⟨fre1, stk1, d1⟩ := m_parsed hg (fre := fre) (stk := stk) hTM hl (fun j hj => ⟨(hw j hj).1, (hw j hj).2.2⟩) ho
      have hp0 : ¬ nI G < nI 0 := nI_pos (by omega)
      cases o with
      | none =>
        rw [oI_n] at c1 d1
        refine ⟨nI 0, nI 0, nI 0, nI 0, nI 0, nI 0, nI G, x46, nI 0, -nI 1, nI 0, nI 0, y27, y28, F25, F26, F24, path, C1, H1, fre1, g46, row, stk1, g45, ?_, ?_, Or.inr (Or.inr (Or.inr ⟨rfl, rfl⟩)), 0, 0, _, _, if_0 l⟩
        · simp (disch := omega) only [S_Desk_repair, S_Finds_forget, S_States_stateCount, hmn, hp0, S_Search_findBest, c1, i_n01, i_10, S_Finds_size, i_lit, nI_ltI, nI_leI, nI_eq, nI_add, pk_mul, pk_sub, nI_clamp, if_pos, if_neg, if_true, if_false, Option.bind_some, true_or, or_true, false_or, or_false, or_self, not_true_eq_false, not_false_eq_true, i_m1lt, i_m1le, i_nlt1, i_nle1, i_ne1, i_1ne]
        · obtain ⟨k, hk⟩ := fuelled (k := 1) (by omega)
          have e0 : F_Model_repair (nI g.m) (nI l) fol lem len nxt mput mtak wrd fuel_ 0 (nI G) (nI 0) (nI 0) y0 y16 y22 y23 y27 y28 fre g46 row stk g45 = some (nI 0, nI 0, -nI 1, nI 0, nI 0, y27, y28, fre1, g46, row, stk1, g45) := by
            rw [hk]
            show B_Model_repair_0 (F_Model_repair (nI g.m) (nI l) fol lem len nxt mput mtak wrd k) (nI g.m) (nI l) fol lem len nxt mput mtak wrd (nI G) (nI 0) (nI 0) y0 y16 y22 y23 y27 y28 fre g46 row stk g45 = _
            simp (disch := omega) only [B_Model_repair_0, S_Model_forget, d1, i_n01, i_lit, nI_ltI, nI_leI, nI_eq, nI_add, pk_mul, pk_sub, nI_clamp, if_pos, if_neg, if_true, if_false, Option.bind_some, true_or, or_true, false_or, or_false, or_self, not_true_eq_false, not_false_eq_true, i_m1lt, i_m1le, i_nlt1, i_nle1, i_ne1, i_1ne]
          simp (disch := omega) only [S_Model_repair, hmn, hp0, e0, i_lit, nI_ltI, nI_leI, nI_eq, nI_add, pk_mul, pk_sub, nI_clamp, if_pos, if_neg, if_true, if_false, Option.bind_some, true_or, or_true, false_or, or_false, or_self, not_true_eq_false, not_false_eq_true, i_m1lt, i_m1le, i_nlt1, i_nle1, i_ne1, i_1ne]
      | some wr =>
        rw [oI_s] at c1 d1
        have hwr : wr ≤ l := by rcases ho with ⟨h1, -⟩ | ⟨h1, -⟩ <;> omega
        have hrd : g.rdS wd wr S := by
          rcases ho with ⟨-, h1, -⟩ | ⟨h0, h1, -⟩
          · exact h1
          · rw [h0]; exact h1
        obtain ⟨a, B, y46, tm, z3, z4, path2, F252, F262, F242, C2, H2, w23, w27, w28, F2, G462, row2, stk2, G452, K, r1, r2, r3, r4, r5, r6, r7, r8, r9⟩ := j_costs hRX hwr hG3 hrd (nI g.m) 3 1 x46 path F25 F26 F24 C1 H1 y27 y28 fre1 g46 row stk1 g45 (by omega) (by omega) c2
        obtain ⟨k1, hk1⟩ := fuelled (k := 3 + 1) (by omega)
        have hfb := r8 k1
        rw [← hk1] at hfb
        have hwn : ¬ nI wr < nI 0 := nI_pos (by omega)
        have hmr : ∀ v, (∀ k, F_Model_repair (nI g.m) (nI l) fol lem len nxt mput mtak wrd (k + (3 + 1)) 1 (nI G) (nI 1) (nI 0) (nI 0) (nI wr) (nI 0) (nI 0) y27 y28 fre1 g46 row stk1 g45 = v) → F_Model_repair (nI g.m) (nI l) fol lem len nxt mput mtak wrd fuel_ 0 (nI G) (nI 0) (nI 0) y0 y16 y22 y23 y27 y28 fre g46 row stk g45 = v := by
          intro v hv
          obtain ⟨k, hk⟩ := fuelled (k := 3 + 1 + 1) (by omega)
          rw [hk, show k + (3 + 1 + 1) = k + (3 + 1) + 1 by omega, ← hv k]
          show B_Model_repair_0 (F_Model_repair (nI g.m) (nI l) fol lem len nxt mput mtak wrd (k + (3 + 1))) (nI g.m) (nI l) fol lem len nxt mput mtak wrd (nI G) (nI 0) (nI 0) y0 y16 y22 y23 y27 y28 fre g46 row stk g45 = _
          simp (disch := omega) only [B_Model_repair_0, S_Model_forget, d1, i_lit, nI_ltI, nI_leI, nI_eq, nI_add, pk_mul, pk_sub, nI_clamp, if_pos, if_neg, if_true, if_false, Option.bind_some, true_or, or_true, false_or, or_false, or_self, not_true_eq_false, not_false_eq_true, i_m1lt, i_m1le, i_nlt1, i_nle1, i_ne1, i_1ne]
        by_cases h40 : a.1 ≤ 40
        · simp only [if_pos h40] at r9
          rw [if_neg (by omega)] at hfb
          have hM := hmr _ r9
          obtain ⟨q1, q2, q3, q4⟩ := r4
          have hz3 : z3 = nI a.1 := by
            rw [q1]
            by_cases e : a.1 < 40
            · rw [if_pos e]
            · rw [if_neg e]; congr 1; omega
          refine ⟨nI 0, nI 0, nI a.1, z3, z4, nI wr, nI G, y46, tm, nI wr, nI a.1, w23, w27, w28, F252, F262, F242, path2, C2, H2, F2, G462, row2, stk2, G452, ?_, ?_, Or.inr (Or.inr (Or.inr ⟨rfl, rfl⟩)), a.1, wr, fun k => (a.2 k).1, fun k => (a.2 k).2.1, h40, hz3, rfl, by rw [r6, q3], fun _ => ⟨rfl, rfl, hwr⟩, fun k hk => ?_⟩
          · simp (disch := omega) only [S_Desk_repair, S_Finds_forget, S_States_stateCount, hmn, hp0, S_Search_findBest, c1, S_Finds_setPlace, hfb, i_10, S_Finds_size, hz3, i_lit, nI_ltI, nI_leI, nI_eq, nI_add, pk_mul, pk_sub, nI_clamp, if_pos, if_neg, if_true, if_false, Option.bind_some, true_or, or_true, false_or, or_false, or_self, not_true_eq_false, not_false_eq_true, i_m1lt, i_m1le, i_nlt1, i_nle1, i_ne1, i_1ne]
          · simp (disch := omega) only [S_Model_repair, hmn, hp0, hM, i_lit, nI_ltI, nI_leI, nI_eq, nI_add, pk_mul, pk_sub, nI_clamp, if_pos, if_neg, if_true, if_false, Option.bind_some, true_or, or_true, false_or, or_false, or_self, not_true_eq_false, not_false_eq_true, i_m1lt, i_m1le, i_nlt1, i_nle1, i_ne1, i_1ne]
          · obtain ⟨s1, s2, s3, s4⟩ := q4 k (by omega) hk
            obtain ⟨t1, t2, t3, t4⟩ := r5.2 k (by omega) hk
            obtain ⟨v1, v2⟩ := r1 k hk
            exact ⟨v1, s2, by rw [s3, t2], fun i hi => ⟨(v2.1 i hi).1, s4 i hi, t3 i hi⟩, t4, v2⟩
        · simp only [if_neg h40] at r9
          rw [if_pos (by omega)] at hfb
          have hM := hmr _ r9
          refine ⟨nI 3, nI 3, nI 0, nI 0, nI 0, nI 0, nI G, y46, tm, nI wr, nI 0, nI 0, w27, w28, F252, F262, F242, path2, C2, H2, F2, G462, row2, stk2, G452, ?_, ?_, Or.inr (Or.inr (Or.inl ⟨rfl, rfl, rfl⟩)), 0, 0, _, _, if_0 l⟩
          · simp (disch := omega) only [S_Desk_repair, S_Finds_forget, S_States_stateCount, hmn, hp0, S_Search_findBest, c1, S_Finds_setPlace, hfb, i_lit, nI_ltI, nI_leI, nI_eq, nI_add, pk_mul, pk_sub, nI_clamp, if_pos, if_neg, if_true, if_false, Option.bind_some, true_or, or_true, false_or, or_false, or_self, not_true_eq_false, not_false_eq_true, i_m1lt, i_m1le, i_nlt1, i_nle1, i_ne1, i_1ne]
          · simp (disch := omega) only [S_Model_repair, hmn, hp0, hM, i_lit, nI_ltI, nI_leI, nI_eq, nI_add, pk_mul, pk_sub, nI_clamp, if_pos, if_neg, if_true, if_false, Option.bind_some, true_or, or_true, false_or, or_false, or_self, not_true_eq_false, not_false_eq_true, i_m1lt, i_m1le, i_nlt1, i_nle1, i_ne1, i_1ne]
