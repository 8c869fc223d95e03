/-! the class finds the same rows -/
theorem i_sn {a b : Nat} (h : a < b) (hb : b < 1000) : nI a - nI b < nI 0 := by
  rw [Int32.lt_iff_toInt_lt, pk_sub_toInt (by omega) (by omega)]
  show (a : Int) - b < 0
  omega
theorem c_feedn {X p1 p2 p3 l5 : Int32} {lef siz red tgt C H : Nat → Int32} : F_Stacks_feed X lef siz red tgt fuel_ 0 p1 p2 p3 (nI 0) l5 C H = some (nI 0, C, H) := by
  obtain ⟨k, hk⟩ := fuelled (k := 1) (by omega)
  rw [hk]
  show B_Stacks_feed_0 (F_Stacks_feed X lef siz red tgt k) X lef siz red tgt p1 p2 p3 (nI 0) l5 C H = _
  simp (disch := omega) only [B_Stacks_feed_0, i_lit, nI_ltI, nI_leI, nI_eq, nI_add, pk_mul, pk_sub, nI_clamp, if_pos, if_neg, if_true, if_false, Option.bind_some, true_or, or_true, false_or, or_false, or_self, not_true_eq_false, not_false_eq_true, i_m1lt, i_m1le, i_nlt1, i_nle1, i_ne1, i_1ne]
def CRp (B : Nat) (a : AC) (tm x3 x4 : Int32) (F24 F25 F26 : Nat → Int32) : Prop :=
  x3 = nI (if a.1 < 40 then a.1 else 40) ∧ tm = nI (if 40 < a.1 then 1 else 0) ∧ x4 = nI (if a.1 = 0 then 0 else B) ∧ ∀ k, k < 40 → k < a.1 → (a.2 k).1 ≤ 6 ∧ F25 k = nI (a.2 k).1 ∧ F26 k = nI (a.2 k).2.2 ∧ ∀ i, i < (a.2 k).1 → F24 (k * 6 + i) = nI ((a.2 k).2.1 i)
theorem CRp_ext {B : Nat} {a a' : AC} {tm x3 x4 : Int32} {F24 F25 F26 : Nat → Int32} (h : CRp B a tm x3 x4 F24 F25 F26) (he : ext a a') (h40 : 40 < a.1) : CRp B a' tm x3 x4 F24 F25 F26 := by
  obtain ⟨h1, h2, h3, h4⟩ := h
  have := he.1
  rw [if_neg (by omega)] at h1
  rw [if_pos h40] at h2
  rw [if_neg (by omega)] at h3
  refine ⟨by rw [if_neg (by omega)]; exact h1, by rw [if_pos (by omega)]; exact h2, by rw [if_neg (by omega)]; exact h3, fun k hk1 hk2 => ?_⟩
  rw [he.2 k (by omega)]
  exact h4 k hk1 (by omega)
section
variable {g : LRD} {l : Nat} {wd pc tc : Nat → Nat} {X : Int32} {lef siz red tgt txt put tak lem len fol nxt wrd mput mtak : Nat → Int32} {wr B G : Nat}
/-- what explore gives -/
def cxR (g : LRD) (l : Nat) (X : Int32) (lef siz red tgt txt put tak : Nat → Int32) (B G : Nat) (K : Int32 → Int32 → Int32 → Int32 → Int32 → Int32 → Int32 → Int32 → Int32 → Int32 → (Nat → Int32) → Int32 → (Nat → Int32) → (Nat → Int32) → (Nat → Int32) → (Nat → Int32) → (Nat → Int32) → (Nat → Int32) → (Nat → Int32) → Int32 → (Nat → Int32) → (Nat → Int32) → (Nat → Int32) → (Nat → Int32) → (Nat → Int32) → Option (Int32 × Int32 × Int32 × (Nat → Int32) × (Nat → Int32) × (Nat → Int32) × (Nat → Int32) × (Nat → Int32) × (Nat → Int32)))
    (d s : Nat) (pl lf ps : Nat) (st : Nat → Nat) (a a' : AC) (S : List Nat) : Prop :=
  ∀ tm x3 x4 path F25 F26 F24 C H, CRp B a tm x3 x4 F24 F25 F26 → (∀ j, j < d → path j = nI (st j)) → SR C H s S →
    ∃ tm' x3' x4' path' F25' F26' F24' C' H', K (nI d) (nI s) (nI pl) (nI lf) (nI ps) (nI G) (nI B) tm x3 x4 path (nI l) put tak F25 F26 F24 C H X txt lef siz red tgt = some (tm', x3', x4', path', F25', F26', F24', C', H') ∧ CRp B a' tm' x3' x4' F24' F25' F26' ∧ (∀ j, j < d → path' j = nI (st j)) ∧ low C H C' H' s
theorem c_child (hX : RX g l wd pc tc X lef siz red tgt txt put tak lem len fol nxt wrd mput mtak) (hwr : wr ≤ l) (hB : B ≤ 3) (hG : G ≤ 3) {D d : Nat} (hd : d ≤ 6) {st : Nat → Nat} (hr : rok l wr d st) {S : List Nat} (hS : g.rdS (ow wd wr st d) (wr + cpt st d) S) {a a' : AC}
    (h : (csm pc tc wd wr st d = B ∧ ∃ o S'', g.out (fw wd wr st d) (wr + cpt st d + (l - (wr + ctk st d))) o S'' ∧ a' = if o = none ∨ G ≤ rch (wr + cpt st d) (wr + cpt st d + (l - (wr + ctk st d))) o then apd a (d, st, rch (wr + cpt st d) (wr + cpt st d + (l - (wr + ctk st d))) o) else a) ∨
      (csm pc tc wd wr st d < B ∧ cxR g l X lef siz red tgt txt put tak B G (X_Search_explore_d D) d (cpt st d) (wr + ctk st d) (B - csm pc tc wd wr st d) (cps st d) st a a' S)) :
    cxR g l X lef siz red tgt txt put tak B G (S_Search_follow (X_Search_explore_d D)) d (cpt st d) (wr + ctk st d) (B - csm pc tc wd wr st d) (cps st d) st a a' S := by
  intro tm x3 x4 path F25 F26 F24 C H hC hpath hSR
  obtain ⟨k1, k2⟩ := RX_c hX
  have hlz := low_sz hX hwr hr
  have hl := hX.2.2.2.1
  have hcp := cpt_le st d
  rcases h with ⟨h1, o, S'', h2, h3⟩ | ⟨h1, h2⟩
  · have hs6 : cpt st d ≤ 6 := by omega
    have hC' := hC
    obtain ⟨c1, c2, c3, c4⟩ := hC
    have hf40 : (if a.1 < 40 then a.1 else 40) ≤ 40 := by by_cases e : a.1 < 40 <;> simp only [e, if_true, if_false] <;> omega
    obtain ⟨C', H', q1, q2⟩ := c_keep (p := d) (B := B) (f := if a.1 < 40 then a.1 else 40) (path := path) (F25 := F25) (F26 := F26) (F24 := F24) (tm := tm) (x4 := x4) hX rfl rfl hlz.1 rfl (by omega) (fun j hj => fw_lt k2 hwr hr hj) hs6 (fw_rd hS) hSR hG hd hf40 h2 (by
      rw [c2]
      by_cases e : 40 < a.1
      · rw [if_pos e, if_neg (by omega)]; exact Or.inr ⟨rfl, rfl⟩
      · rw [if_neg e]; exact Or.inl rfl)
    rw [← c1] at q2
    have hlow : low C H C' H' (cpt st d) := fr_low q1 (by omega)
    have e0 : B - csm pc tc wd wr st d = 0 := by omega
    have hfol : ∀ r, S_Search_keepIfHelping (nI d) (nI (cpt st d)) (nI (wr + ctk st d)) (nI G) (nI B) tm x3 x4 path (nI l) F25 F26 F24 C H X txt lef siz red tgt = some r → S_Search_follow (X_Search_explore_d D) (nI d) (nI (cpt st d)) (nI (wr + ctk st d)) (nI (B - csm pc tc wd wr st d)) (nI (cps st d)) (nI G) (nI B) tm x3 x4 path (nI l) put tak F25 F26 F24 C H X txt lef siz red tgt = some (r.1, r.2.1, r.2.2.1, path, r.2.2.2.1, r.2.2.2.2.1, r.2.2.2.2.2.1, r.2.2.2.2.2.2.1, r.2.2.2.2.2.2.2) := by
      intro r hr
      rw [e0]
      simp (disch := omega) only [S_Search_follow, hr, i_lit, nI_ltI, nI_leI, nI_eq, nI_add, pk_mul, pk_sub, nI_clamp, if_pos, if_neg, if_true, if_false, Option.bind_some, true_or, or_true, false_or, or_false, or_self, not_true_eq_false, not_false_eq_true, i_m1lt, i_m1le, i_nlt1, i_nle1, i_ne1, i_1ne]
    by_cases hk : o = none ∨ G ≤ rch (wr + cpt st d) (wr + cpt st d + (l - (wr + ctk st d))) o
    · rw [if_pos hk] at q2 h3
      by_cases h40 : a.1 < 40
      · simp only [if_pos h40] at q2
        refine ⟨tm, nI (a.1 + 1), nI B, path, upd F25 a.1 (nI d), upd F26 a.1 (nI (rch (wr + cpt st d) (wr + cpt st d + (l - (wr + ctk st d))) o)), fl F24 (fun j => path (j - a.1 * 6)) (a.1 * 6) d, C', H', hfol _ q2, ?_, hpath, hlow⟩
        rw [h3]
        refine ⟨?_, ?_, ?_, fun k hk1 hk2 => ?_⟩
        · show nI (a.1 + 1) = nI (if a.1 + 1 < 40 then a.1 + 1 else 40)
          by_cases e : a.1 + 1 < 40
          · rw [if_pos e]
          · rw [if_neg e]; congr 1; omega
        · show tm = nI (if 40 < a.1 + 1 then 1 else 0)
          rw [if_neg (by omega), c2, if_neg (by omega)]
        · show nI B = nI (if a.1 + 1 = 0 then 0 else B)
          rw [if_neg (by omega)]
        · by_cases ek : k = a.1
          · subst ek
            rw [apd_k, pk_us, pk_us]
            refine ⟨hd, rfl, rfl, fun i hi => ?_⟩
            have hi' : i < d := hi
            rw [fl_in (by omega) (by omega), show a.1 * 6 + i - a.1 * 6 = i by omega]
            exact hpath i hi'
          · have hk2' : k < a.1 + 1 := hk2
            obtain ⟨v0, v1, v2, v3⟩ := c4 k hk1 (by omega)
            rw [apd_n _ _ ek, pk_un ek, pk_un ek]
            exact ⟨v0, v1, v2, fun i hi => by rw [fl_out (by omega)]; exact v3 i hi⟩
      · rw [if_neg h40] at q2
        simp only [if_neg (show ¬ 40 < 40 by omega)] at q2
        refine ⟨nI 1, x3, x4, path, F25, F26, F24, C', H', hfol _ q2, ?_, hpath, hlow⟩
        rw [h3]
        refine ⟨?_, ?_, ?_, fun k hk1 hk2 => ?_⟩
        · show x3 = nI (if a.1 + 1 < 40 then a.1 + 1 else 40)
          rw [if_neg (by omega), c1, if_neg h40]
        · show nI 1 = nI (if 40 < a.1 + 1 then 1 else 0)
          rw [if_pos (by omega)]
        · show x4 = nI (if a.1 + 1 = 0 then 0 else B)
          rw [if_neg (by omega), c3, if_neg (by omega)]
        · rw [apd_n _ _ (by omega)]
          exact c4 k hk1 (by omega)
    · rw [if_neg hk] at q2 h3
      refine ⟨tm, x3, x4, path, F25, F26, F24, C', H', hfol _ q2, ?_, hpath, hlow⟩
      rw [h3]
      exact hC'
  · obtain ⟨tm', x3', x4', path', F25', F26', F24', C', H', q1, q2, q3, q4⟩ := h2 tm x3 x4 path F25 F26 F24 C H hC hpath hSR
    refine ⟨tm', x3', x4', path', F25', F26', F24', C', H', ?_, q2, q3, q4⟩
    simp (disch := omega) only [S_Search_follow, q1, i_lit, nI_ltI, nI_leI, nI_eq, nI_add, pk_mul, pk_sub, nI_clamp, if_pos, if_neg, if_true, if_false, Option.bind_some, true_or, or_true, false_or, or_false, or_self, not_true_eq_false, not_false_eq_true, i_m1lt, i_m1le, i_nlt1, i_nle1, i_ne1, i_1ne]
theorem c_exp (hX : RX g l wd pc tc X lef siz red tgt txt put tak lem len fol nxt wrd mput mtak) (hwr : wr ≤ l) (hB : B ≤ 3) (hG : G ≤ 3) : ∀ e d st S a a', d + e = 6 → rok l wr d st → g.rdS (ow wd wr st d) (wr + cpt st d) S → csm pc tc wd wr st d < B → Enm g l wr wd pc tc B G e d st S a a' →
    cxR g l X lef siz red tgt txt put tak B G (X_Search_explore_d (e + 2)) d (cpt st d) (wr + ctk st d) (B - csm pc tc wd wr st d) (cps st d) st a a' S
  | 0, d, st, S, a, a', hd, hr, hS, hlt, hE => hE.elim
  | e + 1, d, st, S, a, a', hd, hr, hS, hlt, hE => by
    intro tm x3 x4 path F25 F26 F24 C H hC hpath hSR
    have hext := Enm_mono hX hwr hB (e + 1) d st S a a' hd hr hS hlt hE
    by_cases h40 : 40 < a.1
    · refine ⟨tm, x3, x4, path, F25, F26, F24, C, H, ?_, CRp_ext hC hext.1 h40, hpath, low_refl _ _ _⟩
      have htm := hC.2.1
      rw [if_pos h40] at htm
      subst htm
      show S_Search_explore (S_Search_follow (X_Search_explore_d (e + 2))) (nI d) (nI (cpt st d)) (nI (wr + ctk st d)) (nI (B - csm pc tc wd wr st d)) (nI (cps st d)) (nI G) (nI B) (nI 1) x3 x4 path (nI l) put tak F25 F26 F24 C H X txt lef siz red tgt = _
      simp (disch := omega) only [S_Search_explore, i_10, i_lit, nI_ltI, nI_leI, nI_eq, nI_add, pk_mul, pk_sub, nI_clamp, if_pos, if_neg, if_true, if_false, Option.bind_some, true_or, or_true, false_or, or_false, or_self, not_true_eq_false, not_false_eq_true, i_m1lt, i_m1le, i_nlt1, i_nle1, i_ne1, i_1ne]
    · obtain ⟨A, h0, h8, hA⟩ := hE
      obtain ⟨k1, k2⟩ := RX_c hX
      obtain ⟨hg, hTC, hTM, hl, htx, hcst, -⟩ := id hX
      have hlz := low_sz hX hwr hr
      have hcp := cpt_le st d
      have hcps := hr.2.2
      have hlto := ow_lt k2 hwr hr d (Nat.le_refl _)
      have hst := LRD.rdS_st hg (wr + cpt st d) S hlto hS
      -- the children
      have child : ∀ c, c < 8 → gdS g l wr wd pc tc B d (upN st d c) S → ∃ S', g.rdS (ow wd wr (upN st d c) (d + 1)) (wr + cpt (upN st d c) (d + 1)) S' ∧ (c = 6 → S' = S) ∧ (c ≠ 6 → g.fd (if c < 6 then c else wd (wr + ctk st d)) S S') ∧ cxR g l X lef siz red tgt txt put tak B G (S_Search_follow (X_Search_explore_d (e + 2))) (d + 1) (cpt (upN st d c) (d + 1)) (wr + ctk (upN st d c) (d + 1)) (B - csm pc tc wd wr (upN st d c) (d + 1)) (cps (upN st d c) (d + 1)) (upN st d c) (A c) (A (c + 1)) S' := by
        intro c hc hgd
        obtain ⟨u1, u2, u3, u4, u5, u6, u7, u8⟩ := up_pre (c := c) (pc := pc) (tc := tc) hr hS
        rcases hA c hc with ⟨e1, -⟩ | ⟨e1, S', e2, e3, e4, e5⟩
        · exact absurd hgd e1
        · have hr' := gd_rok u1 (by rw [u7]; exact hc) e1
          rw [u7] at e3 e4
          rw [u4] at e4
          refine ⟨S', e2, e3, e4, c_child hX hwr hB hG (by omega) hr' e2 ?_⟩
          rcases e5 with ⟨e5, e6⟩ | ⟨e5, e6⟩
          · exact Or.inl ⟨e5, e6⟩
          · exact Or.inr ⟨e5, c_exp hX hwr hB hG e (d + 1) (upN st d c) S' (A c) (A (c + 1)) (by omega) hr' e2 e5 e6⟩
      have skip : ∀ c, c < 8 → ¬ gdS g l wr wd pc tc B d (upN st d c) S → A (c + 1) = A c := by
        intro c hc hn
        rcases hA c hc with ⟨-, e2⟩ | ⟨e1, -⟩
        · exact e2
        · exact absurd e1 hn
      have csm1 : ∀ c, csm pc tc wd wr (upN st d c) (d + 1) = csm pc tc wd wr st d + (if c < 6 then pc c else if c = 6 then tc (wd (wr + ctk st d)) else 0) := by
        intro c
        obtain ⟨u1, u2, u3, u4, u5, u6, u7, u8⟩ := up_pre (c := c) (pc := pc) (tc := tc) hr hS
        simp only [csm]
        rw [u6, u7, u4]
      have cpt1 : ∀ c, cpt (upN st d c) (d + 1) = cpt st d + (if c = 6 then 0 else 1) := by
        intro c
        obtain ⟨u1, u2, u3, u4, u5, u6, u7, u8⟩ := up_pre (c := c) (pc := pc) (tc := tc) hr hS
        simp only [cpt]
        rw [u3, u7]
      have ctk1 : ∀ c, ctk (upN st d c) (d + 1) = ctk st d + (if 6 ≤ c then 1 else 0) := by
        intro c
        obtain ⟨u1, u2, u3, u4, u5, u6, u7, u8⟩ := up_pre (c := c) (pc := pc) (tc := tc) hr hS
        simp only [ctk]
        rw [u4, u7]
      have cps1 : ∀ c, cps (upN st d c) (d + 1) = cps st d + (if c = 7 then 1 else 0) := by
        intro c
        obtain ⟨u1, u2, u3, u4, u5, u6, u7, u8⟩ := up_pre (c := c) (pc := pc) (tc := tc) hr hS
        simp only [cps]
        rw [u5, u7]
      have gdc : ∀ c, gdS g l wr wd pc tc B d (upN st d c) S ↔ (6 ≤ c → wr + ctk st d < l) ∧ (c < 6 → 0 < d → st (d - 1) ≠ 6) ∧ (c = 7 → cps st d < 3) ∧ csm pc tc wd wr (upN st d c) (d + 1) ≤ B ∧ (c ≠ 6 → g.cm (if c < 6 then c else wd (wr + ctk st d)) S) := by
        intro c
        obtain ⟨u1, u2, u3, u4, u5, u6, u7, u8⟩ := up_pre (c := c) (pc := pc) (tc := tc) hr hS
        simp only [gdS]
        rw [u7, u4, u5]
        by_cases hd0 : 0 < d
        · rw [u8 (d - 1) (by omega)]
        · constructor
          · exact fun h => ⟨h.1, fun _ h2 => absurd h2 hd0, h.2.2⟩
          · exact fun h => ⟨h.1, fun _ h2 => absurd h2 hd0, h.2.2⟩
      -- the letters
      have letters : (¬ (0 < d ∧ st (d - 1) = 6)) → ∀ m c tm x3 x4 path F25 F26 F24 C H, c + m = 6 → CRp B (A c) tm x3 x4 F24 F25 F26 → (∀ j, j < d → path j = nI (st j)) → SR C H (cpt st d) S →
          ∃ tm' x3' x4' path' F25' F26' F24' C' H', CRp B (A 6) tm' x3' x4' F24' F25' F26' ∧ (∀ j, j < d → path' j = nI (st j)) ∧ low C H C' H' (cpt st d) ∧ ∀ k, F_Search_explore (S_Search_follow (X_Search_explore_d (e + 2))) (nI G) (nI B) (nI l) put tak X txt lef siz red tgt (k + (m + 1)) 0 (nI d) (nI (cpt st d)) (nI (wr + ctk st d)) (nI (B - csm pc tc wd wr st d)) (nI (cps st d)) (nI 0) (nI c) (nI 0) tm x3 x4 path F25 F26 F24 C H = F_Search_explore (S_Search_follow (X_Search_explore_d (e + 2))) (nI G) (nI B) (nI l) put tak X txt lef siz red tgt k 1 (nI d) (nI (cpt st d)) (nI (wr + ctk st d)) (nI (B - csm pc tc wd wr st d)) (nI (cps st d)) (nI 0) (nI 6) (nI 0) tm' x3' x4' path' F25' F26' F24' C' H' := by
        intro hnb m
        induction m with
        | zero =>
          intro c tm x3 x4 path F25 F26 F24 C H hc hC hpath hSR
          have : c = 6 := by omega
          subst this
          refine ⟨tm, x3, x4, path, F25, F26, F24, C, H, hC, hpath, low_refl _ _ _, fun k => ?_⟩
          show B_Search_explore_0 (S_Search_follow (X_Search_explore_d (e + 2))) (F_Search_explore (S_Search_follow (X_Search_explore_d (e + 2))) (nI G) (nI B) (nI l) put tak X txt lef siz red tgt k) (nI G) (nI B) (nI l) put tak X txt lef siz red tgt (nI d) (nI (cpt st d)) (nI (wr + ctk st d)) (nI (B - csm pc tc wd wr st d)) (nI (cps st d)) (nI 0) (nI 6) (nI 0) tm x3 x4 path F25 F26 F24 C H = _
          simp (disch := omega) only [B_Search_explore_0, i_lit, nI_ltI, nI_leI, nI_eq, nI_add, pk_mul, pk_sub, nI_clamp, if_pos, if_neg, if_true, if_false, Option.bind_some, true_or, or_true, false_or, or_false, or_self, not_true_eq_false, not_false_eq_true, i_m1lt, i_m1le, i_nlt1, i_nle1, i_ne1, i_1ne]
        | succ m ih =>
          intro c tm x3 x4 path F25 F26 F24 C H hc hC hpath hSR
          have hc6 : c < 6 := by omega
          have hpc := (hcst c hc6).1
          have hput : S_Costs_ofPutting (nI c) put = some (nI (pc c)) := by simp (disch := omega) only [S_Costs_ofPutting, hpc.2.2, i_lit, nI_ltI, nI_leI, nI_eq, nI_add, pk_mul, pk_sub, nI_clamp, if_pos, if_neg, if_true, if_false, Option.bind_some, true_or, or_true, false_or, or_false, or_self, not_true_eq_false, not_false_eq_true, i_m1lt, i_m1le, i_nlt1, i_nle1, i_ne1, i_1ne]
          have hcs := csm1 c
          rw [if_pos hc6] at hcs
          by_cases hgd : gdS g l wr wd pc tc B d (upN st d c) S
          · obtain ⟨S', s1, -, s3, s4⟩ := child c (by omega) hgd
            have hfd := s3 (by omega)
            rw [if_pos hc6] at hfd
            have hle := ((gdc c).mp hgd).2.2.2.1
            obtain ⟨C1, H1, f1, f2, f3⟩ := (c_feed hg hTC (d1 := cpt st d) (d2 := cpt st d + 1) (by omega) (by omega) hc6 (by omega) hst hSR).1 S' hfd
            rw [cpt1, ctk1, cps1, if_neg (by omega), if_neg (by omega), if_neg (by omega)] at s4
            obtain ⟨u1, u2, u3, u4, u5, u6, u7, u8⟩ := up_pre (c := c) (pc := pc) (tc := tc) hr hS
            obtain ⟨tm1, x31, x41, path1, F251, F261, F241, C2, H2, q1, q2, q3, q4⟩ := s4 tm x3 x4 (upd path d (nI c)) F25 F26 F24 C1 H1 hC (fun j hj => by
              by_cases ej : j = d
              · rw [ej, pk_us, u7]
              · rw [pk_un ej, u8 j (by omega)]; exact hpath j (by omega)) f2
            have hlow1 : low C H C2 H2 (cpt st d) := low_trans (fr_low f3 (by omega)) (low_le q4 (by omega))
            obtain ⟨tm', x3', x4', path', F25', F26', F24', C', H', r1, r2, r3, r4⟩ := ih (c + 1) tm1 x31 x41 path1 F251 F261 F241 C2 H2 (by omega) q2 (fun j hj => by rw [q3 j (by omega), u8 j hj]) (SR_low hSR hlow1 (Nat.le_refl _))
            refine ⟨tm', x3', x4', path', F25', F26', F24', C', H', r1, r2, low_trans hlow1 r3, fun k => ?_⟩
            rw [← r4 k]
            show B_Search_explore_0 (S_Search_follow (X_Search_explore_d (e + 2))) (F_Search_explore (S_Search_follow (X_Search_explore_d (e + 2))) (nI G) (nI B) (nI l) put tak X txt lef siz red tgt (k + (m + 1))) (nI G) (nI B) (nI l) put tak X txt lef siz red tgt (nI d) (nI (cpt st d)) (nI (wr + ctk st d)) (nI (B - csm pc tc wd wr st d)) (nI (cps st d)) (nI 0) (nI c) (nI 0) tm x3 x4 path F25 F26 F24 C H = _
            have e1 : B - csm pc tc wd wr st d - pc c = B - csm pc tc wd wr (upN st d c) (d + 1) := by omega
            simp only [Nat.add_zero] at q1
            simp (disch := omega) only [B_Search_explore_0, hput, e1, f1, i_10, q1, i_lit, nI_ltI, nI_leI, nI_eq, nI_add, pk_mul, pk_sub, nI_clamp, if_pos, if_neg, if_true, if_false, Option.bind_some, true_or, or_true, false_or, or_false, or_self, not_true_eq_false, not_false_eq_true, i_m1lt, i_m1le, i_nlt1, i_nle1, i_ne1, i_1ne]
          · have hsk := skip c (by omega) hgd
            obtain ⟨tm', x3', x4', path', F25', F26', F24', C', H', r1, r2, r3, r4⟩ := ih (c + 1) tm x3 x4 path F25 F26 F24 C H (by omega) (by rw [hsk]; exact hC) hpath hSR
            refine ⟨tm', x3', x4', path', F25', F26', F24', C', H', r1, r2, r3, fun k => ?_⟩
            rw [← r4 k]
            show B_Search_explore_0 (S_Search_follow (X_Search_explore_d (e + 2))) (F_Search_explore (S_Search_follow (X_Search_explore_d (e + 2))) (nI G) (nI B) (nI l) put tak X txt lef siz red tgt (k + (m + 1))) (nI G) (nI B) (nI l) put tak X txt lef siz red tgt (nI d) (nI (cpt st d)) (nI (wr + ctk st d)) (nI (B - csm pc tc wd wr st d)) (nI (cps st d)) (nI 0) (nI c) (nI 0) tm x3 x4 path F25 F26 F24 C H = _
            by_cases hle : csm pc tc wd wr (upN st d c) (d + 1) ≤ B
            · have hncm : ¬ g.cm c S := fun hcm => hgd ((gdc c).mpr ⟨fun h => absurd h (by omega), fun _ h2 h3 => hnb ⟨h2, h3⟩, fun h => absurd h (by omega), hle, fun _ => by rw [if_pos hc6]; exact hcm⟩)
              have hfd := (c_feed hg hTC (d1 := cpt st d) (d2 := cpt st d + 1) (by omega) (by omega) hc6 (by omega) hst hSR).2 hncm
              have e1 : B - csm pc tc wd wr st d - pc c = B - csm pc tc wd wr (upN st d c) (d + 1) := by omega
              simp (disch := omega) only [B_Search_explore_0, hput, e1, hfd, i_lit, nI_ltI, nI_leI, nI_eq, nI_add, pk_mul, pk_sub, nI_clamp, if_pos, if_neg, if_true, if_false, Option.bind_some, true_or, or_true, false_or, or_false, or_self, not_true_eq_false, not_false_eq_true, i_m1lt, i_m1le, i_nlt1, i_nle1, i_ne1, i_1ne]
            · have hneg := i_sn (show B - csm pc tc wd wr st d < pc c by omega) (by omega)
              simp (disch := omega) only [B_Search_explore_0, hput, hneg, i_lit, nI_ltI, nI_leI, nI_eq, nI_add, pk_mul, pk_sub, nI_clamp, if_pos, if_neg, if_true, if_false, Option.bind_some, true_or, or_true, false_or, or_false, or_self, not_true_eq_false, not_false_eq_true, i_m1lt, i_m1le, i_nlt1, i_nle1, i_ne1, i_1ne]
      -- the next letter of the text
      have hnext : ∃ nx : Int32, S_Text_letterAt (nI (wr + ctk st d)) (nI l) txt = some nx ∧ ((wr + ctk st d < l ∧ nx = nI (wd (wr + ctk st d))) ∨ (¬ wr + ctk st d < l ∧ nx = -nI 1)) := by
        by_cases e : wr + ctk st d < l
        · have hx := (htx _ e).2.1
          exact ⟨_, by simp (disch := omega) only [S_Text_letterAt, hx, i_lit, nI_ltI, nI_leI, nI_eq, nI_add, pk_mul, pk_sub, nI_clamp, if_pos, if_neg, if_true, if_false, Option.bind_some, true_or, or_true, false_or, or_false, or_self, not_true_eq_false, not_false_eq_true, i_m1lt, i_m1le, i_nlt1, i_nle1, i_ne1, i_1ne], Or.inl ⟨e, rfl⟩⟩
        · exact ⟨_, by simp (disch := omega) only [S_Text_letterAt, i_lit, nI_ltI, nI_leI, nI_eq, nI_add, pk_mul, pk_sub, nI_clamp, if_pos, if_neg, if_true, if_false, Option.bind_some, true_or, or_true, false_or, or_false, or_self, not_true_eq_false, not_false_eq_true, i_m1lt, i_m1le, i_nlt1, i_nle1, i_ne1, i_1ne], Or.inr ⟨e, rfl⟩⟩
      obtain ⟨nx, hnx, hnx2⟩ := hnext
      -- taking
      have taking : ∀ b7 bb tm x3 x4 path F25 F26 F24 C H, CRp B (A 6) tm x3 x4 F24 F25 F26 → (∀ j, j < d → path j = nI (st j)) → SR C H (cpt st d) S →
          ∃ w tm' x3' x4' path' F25' F26' F24' C' H', CRp B (A 7) tm' x3' x4' F24' F25' F26' ∧ (∀ j, j < d → path' j = nI (st j)) ∧ low C H C' H' (cpt st d) ∧ ∀ k, F_Search_explore (S_Search_follow (X_Search_explore_d (e + 2))) (nI G) (nI B) (nI l) put tak X txt lef siz red tgt (k + 1) 1 (nI d) (nI (cpt st d)) (nI (wr + ctk st d)) (nI (B - csm pc tc wd wr st d)) (nI (cps st d)) bb b7 (nI 0) tm x3 x4 path F25 F26 F24 C H = F_Search_explore (S_Search_follow (X_Search_explore_d (e + 2))) (nI G) (nI B) (nI l) put tak X txt lef siz red tgt k 2 (nI d) (nI (cpt st d)) (nI (wr + ctk st d)) (nI (B - csm pc tc wd wr st d)) (nI (cps st d)) bb nx w tm' x3' x4' path' F25' F26' F24' C' H' := by
        intro b7 bb tm x3 x4 path F25 F26 F24 C H hC hpath hSR
        have hcs := csm1 6
        rw [if_neg (by omega), if_pos rfl] at hcs
        by_cases hgd : gdS g l wr wd pc tc B d (upN st d 6) S
        · obtain ⟨S', s1, s2, -, s4⟩ := child 6 (by omega) hgd
          have hS' := s2 rfl
          subst hS'
          obtain ⟨g1, -, -, hle, -⟩ := (gdc 6).mp hgd
          have hpl := g1 (by omega)
          obtain ⟨-, hnx3⟩ := hnx2.resolve_right (fun h => h.1 hpl)
          have hw6 := k2 _ hpl
          have htc := (hcst _ hw6).2
          have htk : S_Costs_ofTaking nx tak = some (nI (tc (wd (wr + ctk st d)))) := by rw [hnx3]; simp (disch := omega) only [S_Costs_ofTaking, htc.2.2, i_lit, nI_ltI, nI_leI, nI_eq, nI_add, pk_mul, pk_sub, nI_clamp, if_pos, if_neg, if_true, if_false, Option.bind_some, true_or, or_true, false_or, or_false, or_self, not_true_eq_false, not_false_eq_true, i_m1lt, i_m1le, i_nlt1, i_nle1, i_ne1, i_1ne]
          rw [cpt1, ctk1, cps1, if_pos rfl, if_pos (by omega), if_neg (by omega)] at s4
          obtain ⟨u1, u2, u3, u4, u5, u6, u7, u8⟩ := up_pre (c := 6) (pc := pc) (tc := tc) hr hS
          obtain ⟨tm1, x31, x41, path1, F251, F261, F241, C2, H2, q1, q2, q3, q4⟩ := s4 tm x3 x4 (upd path d (nI 6)) F25 F26 F24 C H hC (fun j hj => by
            by_cases ej : j = d
            · rw [ej, pk_us, u7]
            · rw [pk_un ej, u8 j (by omega)]; exact hpath j (by omega)) hSR
          refine ⟨nI (B - csm pc tc wd wr (upN st d 6) (d + 1)), tm1, x31, x41, path1, F251, F261, F241, C2, H2, q2, fun j hj => by rw [q3 j (by omega), u8 j hj], q4, fun k => ?_⟩
          show B_Search_explore_1 (S_Search_follow (X_Search_explore_d (e + 2))) (F_Search_explore (S_Search_follow (X_Search_explore_d (e + 2))) (nI G) (nI B) (nI l) put tak X txt lef siz red tgt k) (nI G) (nI B) (nI l) put tak X txt lef siz red tgt (nI d) (nI (cpt st d)) (nI (wr + ctk st d)) (nI (B - csm pc tc wd wr st d)) (nI (cps st d)) bb b7 (nI 0) tm x3 x4 path F25 F26 F24 C H = _
          have e1 : B - csm pc tc wd wr st d - tc (wd (wr + ctk st d)) = B - csm pc tc wd wr (upN st d 6) (d + 1) := by omega
          have e2 : wr + (ctk st d + 1) = wr + ctk st d + 1 := by omega
          rw [e2] at q1
          simp only [Nat.add_zero] at q1
          simp (disch := omega) only [B_Search_explore_1, hnx, htk, e1, q1, i_lit, nI_ltI, nI_leI, nI_eq, nI_add, pk_mul, pk_sub, nI_clamp, if_pos, if_neg, if_true, if_false, Option.bind_some, true_or, or_true, false_or, or_false, or_self, not_true_eq_false, not_false_eq_true, i_m1lt, i_m1le, i_nlt1, i_nle1, i_ne1, i_1ne]
        · have hsk := skip 6 (by omega) hgd
          have hneg : ∃ u, S_Costs_ofTaking nx tak = some u ∧ nI (B - csm pc tc wd wr st d) - u < nI 0 := by
            rcases hnx2 with ⟨h1, h2⟩ | ⟨h1, h2⟩
            · have hw6 := k2 _ h1
              have htc := (hcst _ hw6).2
              refine ⟨nI (tc (wd (wr + ctk st d))), by rw [h2]; simp (disch := omega) only [S_Costs_ofTaking, htc.2.2, i_lit, nI_ltI, nI_leI, nI_eq, nI_add, pk_mul, pk_sub, nI_clamp, if_pos, if_neg, if_true, if_false, Option.bind_some, true_or, or_true, false_or, or_false, or_self, not_true_eq_false, not_false_eq_true, i_m1lt, i_m1le, i_nlt1, i_nle1, i_ne1, i_1ne], i_sn ?_ (by omega)⟩
              apply Classical.byContradiction
              intro hno
              exact hgd ((gdc 6).mpr ⟨fun _ => h1, fun h => absurd h (by omega), fun h => absurd h (by omega), by omega, fun h => absurd rfl h⟩)
            · exact ⟨nI 4, by rw [h2]; simp (disch := omega) only [S_Costs_ofTaking, i_m1neg, i_lit, nI_ltI, nI_leI, nI_eq, nI_add, pk_mul, pk_sub, nI_clamp, if_pos, if_neg, if_true, if_false, Option.bind_some, true_or, or_true, false_or, or_false, or_self, not_true_eq_false, not_false_eq_true, i_m1lt, i_m1le, i_nlt1, i_nle1, i_ne1, i_1ne], i_sn (by omega) (by omega)⟩
          obtain ⟨u, hu1, hu2⟩ := hneg
          refine ⟨nI (B - csm pc tc wd wr st d) - u, tm, x3, x4, path, F25, F26, F24, C, H, by rw [hsk]; exact hC, hpath, low_refl _ _ _, fun k => ?_⟩
          show B_Search_explore_1 (S_Search_follow (X_Search_explore_d (e + 2))) (F_Search_explore (S_Search_follow (X_Search_explore_d (e + 2))) (nI G) (nI B) (nI l) put tak X txt lef siz red tgt k) (nI G) (nI B) (nI l) put tak X txt lef siz red tgt (nI d) (nI (cpt st d)) (nI (wr + ctk st d)) (nI (B - csm pc tc wd wr st d)) (nI (cps st d)) bb b7 (nI 0) tm x3 x4 path F25 F26 F24 C H = _
          simp (disch := omega) only [B_Search_explore_1, hnx, hu1, hu2, i_lit, nI_ltI, nI_leI, nI_eq, nI_add, pk_mul, pk_sub, nI_clamp, if_pos, if_neg, if_true, if_false, Option.bind_some, true_or, or_true, false_or, or_false, or_self, not_true_eq_false, not_false_eq_true, i_m1lt, i_m1le, i_nlt1, i_nle1, i_ne1, i_1ne]
      -- passing
      have passing : ∀ w bb tm x3 x4 path F25 F26 F24 C H, CRp B (A 7) tm x3 x4 F24 F25 F26 → (∀ j, j < d → path j = nI (st j)) → SR C H (cpt st d) S →
          ∃ tm' x3' x4' path' F25' F26' F24' C' H', CRp B (A 8) tm' x3' x4' F24' F25' F26' ∧ (∀ j, j < d → path' j = nI (st j)) ∧ low C H C' H' (cpt st d) ∧ ∀ k, F_Search_explore (S_Search_follow (X_Search_explore_d (e + 2))) (nI G) (nI B) (nI l) put tak X txt lef siz red tgt (k + 1) 2 (nI d) (nI (cpt st d)) (nI (wr + ctk st d)) (nI (B - csm pc tc wd wr st d)) (nI (cps st d)) bb nx w tm x3 x4 path F25 F26 F24 C H = some (tm', x3', x4', path', F25', F26', F24', C', H') := by
        intro w bb tm x3 x4 path F25 F26 F24 C H hC hpath hSR
        have hcs := csm1 7
        rw [if_neg (by omega), if_neg (by omega)] at hcs
        by_cases hgd : gdS g l wr wd pc tc B d (upN st d 7) S
        · obtain ⟨S', s1, -, s3, s4⟩ := child 7 (by omega) hgd
          have hfd := s3 (by omega)
          rw [if_neg (by omega)] at hfd
          obtain ⟨g1, -, g3, hle, -⟩ := (gdc 7).mp hgd
          have hpl := g1 (by omega)
          have hp3 := g3 rfl
          obtain ⟨-, hnx3⟩ := hnx2.resolve_right (fun h => h.1 hpl)
          have hw6 := k2 _ hpl
          obtain ⟨C1, H1, f1, f2, f3⟩ := (c_feed hg hTC (d1 := cpt st d) (d2 := cpt st d + 1) (by omega) (by omega) hw6 (by omega) hst hSR).1 S' hfd
          rw [← hnx3] at f1
          rw [cpt1, ctk1, cps1, if_neg (by omega), if_pos (by omega), if_pos rfl] at s4
          obtain ⟨u1, u2, u3, u4, u5, u6, u7, u8⟩ := up_pre (c := 7) (pc := pc) (tc := tc) hr hS
          obtain ⟨tm1, x31, x41, path1, F251, F261, F241, C2, H2, q1, q2, q3, q4⟩ := s4 tm x3 x4 (upd path d (nI 7)) F25 F26 F24 C1 H1 hC (fun j hj => by
            by_cases ej : j = d
            · rw [ej, pk_us, u7]
            · rw [pk_un ej, u8 j (by omega)]; exact hpath j (by omega)) f2
          refine ⟨tm1, x31, x41, path1, F251, F261, F241, C2, H2, q2, fun j hj => by rw [q3 j (by omega), u8 j hj], low_trans (fr_low f3 (by omega)) (low_le q4 (by omega)), fun k => ?_⟩
          show B_Search_explore_2 (S_Search_follow (X_Search_explore_d (e + 2))) (F_Search_explore (S_Search_follow (X_Search_explore_d (e + 2))) (nI G) (nI B) (nI l) put tak X txt lef siz red tgt k) (nI G) (nI B) (nI l) put tak X txt lef siz red tgt (nI d) (nI (cpt st d)) (nI (wr + ctk st d)) (nI (B - csm pc tc wd wr st d)) (nI (cps st d)) bb nx w tm x3 x4 path F25 F26 F24 C H = _
          have e1 : B - csm pc tc wd wr (upN st d 7) (d + 1) = B - csm pc tc wd wr st d := by omega
          have e2 : wr + (ctk st d + 1) = wr + ctk st d + 1 := by omega
          rw [e1, e2] at q1
          simp (disch := omega) only [B_Search_explore_2, f1, i_10, q1, i_lit, nI_ltI, nI_leI, nI_eq, nI_add, pk_mul, pk_sub, nI_clamp, if_pos, if_neg, if_true, if_false, Option.bind_some, true_or, or_true, false_or, or_false, or_self, not_true_eq_false, not_false_eq_true, i_m1lt, i_m1le, i_nlt1, i_nle1, i_ne1, i_1ne]
        · have hsk := skip 7 (by omega) hgd
          refine ⟨tm, x3, x4, path, F25, F26, F24, C, H, by rw [hsk]; exact hC, hpath, low_refl _ _ _, fun k => ?_⟩
          show B_Search_explore_2 (S_Search_follow (X_Search_explore_d (e + 2))) (F_Search_explore (S_Search_follow (X_Search_explore_d (e + 2))) (nI G) (nI B) (nI l) put tak X txt lef siz red tgt k) (nI G) (nI B) (nI l) put tak X txt lef siz red tgt (nI d) (nI (cpt st d)) (nI (wr + ctk st d)) (nI (B - csm pc tc wd wr st d)) (nI (cps st d)) bb nx w tm x3 x4 path F25 F26 F24 C H = _
          by_cases hp3 : cps st d < 3
          · have hfd : S_Stacks_feed (nI (cpt st d)) (nI (cpt st d + 1)) nx C H X lef siz red tgt = some (nI 0, C, H) := by
              rcases hnx2 with ⟨h1, h2⟩ | ⟨h1, h2⟩
              · rw [h2]
                refine (c_feed hg hTC (d1 := cpt st d) (d2 := cpt st d + 1) (by omega) (by omega) (k2 _ h1) (by omega) hst hSR).2 (fun hcm => hgd ((gdc 7).mpr ⟨fun _ => h1, fun h => absurd h (by omega), fun _ => hp3, by omega, fun _ => by rw [if_neg (by omega)]; exact hcm⟩))
              · rw [h2]
                simp (disch := omega) only [S_Stacks_feed, i_m1neg, c_feedn, i_lit, nI_ltI, nI_leI, nI_eq, nI_add, pk_mul, pk_sub, nI_clamp, if_pos, if_neg, if_true, if_false, Option.bind_some, true_or, or_true, false_or, or_false, or_self, not_true_eq_false, not_false_eq_true, i_m1lt, i_m1le, i_nlt1, i_nle1, i_ne1, i_1ne]
            simp (disch := omega) only [B_Search_explore_2, hfd, i_lit, nI_ltI, nI_leI, nI_eq, nI_add, pk_mul, pk_sub, nI_clamp, if_pos, if_neg, if_true, if_false, Option.bind_some, true_or, or_true, false_or, or_false, or_self, not_true_eq_false, not_false_eq_true, i_m1lt, i_m1le, i_nlt1, i_nle1, i_ne1, i_1ne]
          · simp (disch := omega) only [B_Search_explore_2, i_lit, nI_ltI, nI_leI, nI_eq, nI_add, pk_mul, pk_sub, nI_clamp, if_pos, if_neg, if_true, if_false, Option.bind_some, true_or, or_true, false_or, or_false, or_self, not_true_eq_false, not_false_eq_true, i_m1lt, i_m1le, i_nlt1, i_nle1, i_ne1, i_1ne]
      -- together
      have fin : ∀ bb l7 tm1 x31 x41 path1 F251 F261 F241 C1 H1, CRp B (A 6) tm1 x31 x41 F241 F251 F261 → (∀ j, j < d → path1 j = nI (st j)) → low C H C1 H1 (cpt st d) → (∃ m, m ≤ 7 ∧ ∀ k, F_Search_explore (S_Search_follow (X_Search_explore_d (e + 2))) (nI G) (nI B) (nI l) put tak X txt lef siz red tgt (k + m) 0 (nI d) (nI (cpt st d)) (nI (wr + ctk st d)) (nI (B - csm pc tc wd wr st d)) (nI (cps st d)) bb (nI 0) (nI 0) tm x3 x4 path F25 F26 F24 C H = F_Search_explore (S_Search_follow (X_Search_explore_d (e + 2))) (nI G) (nI B) (nI l) put tak X txt lef siz red tgt k 1 (nI d) (nI (cpt st d)) (nI (wr + ctk st d)) (nI (B - csm pc tc wd wr st d)) (nI (cps st d)) bb l7 (nI 0) tm1 x31 x41 path1 F251 F261 F241 C1 H1) →
          ∃ tm' x3' x4' path' F25' F26' F24' C' H', F_Search_explore (S_Search_follow (X_Search_explore_d (e + 2))) (nI G) (nI B) (nI l) put tak X txt lef siz red tgt fuel_ 0 (nI d) (nI (cpt st d)) (nI (wr + ctk st d)) (nI (B - csm pc tc wd wr st d)) (nI (cps st d)) bb (nI 0) (nI 0) tm x3 x4 path F25 F26 F24 C H = some (tm', x3', x4', path', F25', F26', F24', C', H') ∧ CRp B a' tm' x3' x4' F24' F25' F26' ∧ (∀ j, j < d → path' j = nI (st j)) ∧ low C H C' H' (cpt st d) := by
        intro bb l7 tm1 x31 x41 path1 F251 F261 F241 C1 H1 t1 t2 t3 ⟨m, hm, t4⟩
        obtain ⟨w, tm2, x32, x42, path2, F252, F262, F242, C2, H2, v1, v2, v3, v4⟩ := taking l7 bb tm1 x31 x41 path1 F251 F261 F241 C1 H1 t1 t2 (SR_low hSR t3 (Nat.le_refl _))
        obtain ⟨tm3, x33, x43, path3, F253, F263, F243, C3, H3, w1, w2, w3, w4⟩ := passing w bb tm2 x32 x42 path2 F252 F262 F242 C2 H2 v1 v2 (SR_low hSR (low_trans t3 v3) (Nat.le_refl _))
        obtain ⟨k, hk⟩ := fuelled (k := 1 + 1 + m) (by omega)
        refine ⟨tm3, x33, x43, path3, F253, F263, F243, C3, H3, ?_, by rw [← h8]; exact w1, w2, low_trans t3 (low_trans v3 w3)⟩
        have z1 := t4 (k + 1 + 1)
        rw [show k + 1 + 1 + m = fuel_ by omega] at z1
        exact z1.trans ((v4 (k + 1)).trans (w4 k))
      have hx7 : tm = nI 0 := by have := hC.2.1; rwa [if_neg h40] at this
      rw [← h0] at hC
      by_cases hbt : 0 < d ∧ st (d - 1) = 6
      · -- behind a letter that was taken out
        have hA6 : A 6 = A 0 := by
          have sk : ∀ c, c < 6 → A (c + 1) = A c := fun c hc => skip c (by omega) (fun hgd => ((gdc c).mp hgd).2.1 hc hbt.1 hbt.2)
          rw [sk 5 (by omega), sk 4 (by omega), sk 3 (by omega), sk 2 (by omega), sk 1 (by omega), sk 0 (by omega)]
        obtain ⟨tm', x3', x4', path', F25', F26', F24', C', H', r1, r2, r3, r4⟩ := fin (nI 1) (nI 0) tm x3 x4 path F25 F26 F24 C H (by rw [hA6]; exact hC) hpath (low_refl _ _ _) ⟨1, by omega, fun k => by
          show B_Search_explore_0 (S_Search_follow (X_Search_explore_d (e + 2))) (F_Search_explore (S_Search_follow (X_Search_explore_d (e + 2))) (nI G) (nI B) (nI l) put tak X txt lef siz red tgt k) (nI G) (nI B) (nI l) put tak X txt lef siz red tgt (nI d) (nI (cpt st d)) (nI (wr + ctk st d)) (nI (B - csm pc tc wd wr st d)) (nI (cps st d)) (nI 1) (nI 0) (nI 0) tm x3 x4 path F25 F26 F24 C H = _
          simp (disch := omega) only [B_Search_explore_0, i_10, i_lit, nI_ltI, nI_leI, nI_eq, nI_add, pk_mul, pk_sub, nI_clamp, if_pos, if_neg, if_true, if_false, Option.bind_some, true_or, or_true, false_or, or_false, or_self, not_true_eq_false, not_false_eq_true, i_m1lt, i_m1le, i_nlt1, i_nle1, i_ne1, i_1ne]⟩
        refine ⟨tm', x3', x4', path', F25', F26', F24', C', H', ?_, r2, r3, r4⟩
        rw [← r1]
        show S_Search_explore (S_Search_follow (X_Search_explore_d (e + 2))) (nI d) (nI (cpt st d)) (nI (wr + ctk st d)) (nI (B - csm pc tc wd wr st d)) (nI (cps st d)) (nI G) (nI B) tm x3 x4 path (nI l) put tak F25 F26 F24 C H X txt lef siz red tgt = _
        have hp6 := hpath (d - 1) (by omega)
        rw [hbt.2] at hp6
        have hd0 := hbt.1
        subst hx7
        simp (disch := omega) only [S_Search_explore, hp6, i_lit, nI_ltI, nI_leI, nI_eq, nI_add, pk_mul, pk_sub, nI_clamp, if_pos, if_neg, if_true, if_false, Option.bind_some, true_or, or_true, false_or, or_false, or_self, not_true_eq_false, not_false_eq_true, i_m1lt, i_m1le, i_nlt1, i_nle1, i_ne1, i_1ne]
      · obtain ⟨tm1, x31, x41, path1, F251, F261, F241, C1, H1, t1, t2, t3, t4⟩ := letters hbt 6 0 tm x3 x4 path F25 F26 F24 C H (by omega) hC hpath hSR
        obtain ⟨tm', x3', x4', path', F25', F26', F24', C', H', r1, r2, r3, r4⟩ := fin (nI 0) (nI 6) tm1 x31 x41 path1 F251 F261 F241 C1 H1 t1 t2 t3 ⟨7, by omega, t4⟩
        refine ⟨tm', x3', x4', path', F25', F26', F24', C', H', ?_, r2, r3, r4⟩
        rw [← r1]
        show S_Search_explore (S_Search_follow (X_Search_explore_d (e + 2))) (nI d) (nI (cpt st d)) (nI (wr + ctk st d)) (nI (B - csm pc tc wd wr st d)) (nI (cps st d)) (nI G) (nI B) tm x3 x4 path (nI l) put tak F25 F26 F24 C H X txt lef siz red tgt = _
        subst hx7
        by_cases hd0 : d = 0
        · subst hd0
          simp (disch := omega) only [S_Search_explore, i_lit, nI_ltI, nI_leI, nI_eq, nI_add, pk_mul, pk_sub, nI_clamp, if_pos, if_neg, if_true, if_false, Option.bind_some, true_or, or_true, false_or, or_false, or_self, not_true_eq_false, not_false_eq_true, i_m1lt, i_m1le, i_nlt1, i_nle1, i_ne1, i_1ne]
        · have hp6 := hpath (d - 1) (by omega)
          have hne : ¬ nI (st (d - 1)) = nI 6 := by
            have := (hr.1 (d - 1) (by omega)).1
            rw [nI_eq (by omega) (by omega)]
            exact fun h => hbt ⟨by omega, h⟩
          simp (disch := omega) only [S_Search_explore, hp6, hne, i_lit, nI_ltI, nI_leI, nI_eq, nI_add, pk_mul, pk_sub, nI_clamp, if_pos, if_neg, if_true, if_false, Option.bind_some, true_or, or_true, false_or, or_false, or_self, not_true_eq_false, not_false_eq_true, i_m1lt, i_m1le, i_nlt1, i_nle1, i_ne1, i_1ne]
end
