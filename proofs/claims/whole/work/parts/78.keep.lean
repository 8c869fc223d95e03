/-! a whole row of steps: kept by both, or by none -/
def RX (g : LRD) (l : Nat) (wd pc tc : Nat → Nat) (X : Int32) (lef siz red tgt txt put tak lem len fol nxt wrd mput mtak : Nat → Int32) : Prop :=
  g.ok ∧ TC g X lef siz red tgt ∧ TM g lem len fol nxt ∧ l ≤ 16 ∧ (∀ j, j < l → wd j < 6 ∧ txt j = nI (wd j) ∧ wrd j = nI (wd j)) ∧ cst pc tc put tak ∧ cst pc tc mput mtak
def JR (l wr f : Nat) (len : Nat → Nat) (st : Nat → Nat → Nat) (f24 f25 f26 g45 g46 : Nat → Int32) : Prop :=
  ∀ k, k < f → len k ≤ 6 ∧ f25 k = nI (len k) ∧ f26 k = g46 k ∧ (∀ i, i < len k → st k i < 8 ∧ f24 (k * 6 + i) = nI (st k i) ∧ g45 (7 * k + i) = nI (st k i)) ∧ (∀ i, len k ≤ i → i < 7 → g45 (7 * k + i) = -nI 1) ∧ rok l wr (len k) (st k)
def JS (l wr B f mf : Nat) (tm x3 x4 y22 : Int32) (f24 f25 f26 g45 g46 : Nat → Int32) : Prop :=
  f ≤ 40 ∧ x3 = nI f ∧ y22 = nI mf ∧ ((mf = f ∧ tm = nI 0) ∨ (f = 40 ∧ 40 < mf ∧ tm = nI 1)) ∧ ((f = 0 ∧ x4 = nI 0) ∨ (0 < f ∧ x4 = nI B)) ∧ ∃ len st, JR l wr f len st f24 f25 f26 g45 g46
theorem cpt_csm {pc tc wd : Nat → Nat} {l wr n : Nat} {st : Nat → Nat} (hp : ∀ j, j < 6 → 1 ≤ pc j ∧ 1 ≤ tc j) (hw : ∀ j, j < l → wd j < 6) (h : ∀ i, i < n → st i < 8 ∧ (6 ≤ st i → wr + ctk st i < l)) : ∀ i, i ≤ n → cpt st i ≤ ctk st i + csm pc tc wd wr st i ∧ i ≤ cps st i + csm pc tc wd wr st i
  | 0, _ => ⟨Nat.zero_le _, Nat.zero_le _⟩
  | i + 1, hi => by
    obtain ⟨h1, h2⟩ := cpt_csm hp hw h i (by omega)
    obtain ⟨h3, h4⟩ := h i (by omega)
    by_cases h6 : st i < 6
    · have := (hp _ h6).1
      have n6 : ¬ st i = 6 := by omega
      have n66 : ¬ 6 ≤ st i := by omega
      have n7 : ¬ st i = 7 := by omega
      simp only [cpt, ctk, cps, csm, if_pos h6, if_neg n6, if_neg n66, if_neg n7]
      omega
    · have n66 : 6 ≤ st i := by omega
      by_cases h7 : st i = 6
      · have := (hp _ (hw _ (h4 (by omega)))).2
        have n7 : ¬ st i = 7 := by omega
        simp only [cpt, ctk, cps, csm, if_neg h6, if_pos h7, if_pos n66, if_neg n7]
        omega
      · have n7 : st i = 7 := by omega
        simp only [cpt, ctk, cps, csm, if_neg h6, if_neg h7, if_pos n66, if_pos n7]
        omega
theorem LRD.out_ge {g : LRD} (hg : g.ok) {W : Nat → Nat} {z N k : Nat} {S S' : List Nat} (hW : ∀ j, j < N → W j < 6) (hz : z ≤ N) (h1 : g.rdS W z S) (h2 : g.out W N (some k) S') : z ≤ k := by
  rcases h2 with ⟨h2, h3, h4⟩ | ⟨h2, -⟩
  · apply Classical.byContradiction
    intro hlt
    obtain ⟨S1, e1⟩ := LRD.rdS_pre z (k + 1) S (by omega) h1
    obtain ⟨S0, e2, e3⟩ := e1
    have := LRD.rdS_det hg k S0 S' (fun i hi => hW i (by omega)) e2 h3
    subst this
    exact h4 (LRD.cm_fd (hW k h2) e3)
  · omega
theorem fw_rd {g : LRD} {wd : Nat → Nat} {wr n : Nat} {st : Nat → Nat} {S : List Nat} (h : g.rdS (ow wd wr st n) (wr + cpt st n) S) : g.rdS (fw wd wr st n) (wr + cpt st n) S :=
  LRD.rdS_cong _ _ (fun i hi => by simp only [fw]; rw [if_pos hi]) h
theorem fw_hi {wd : Nat → Nat} {wr n i : Nat} {st : Nat → Nat} : fw wd wr st n (wr + cpt st n + i) = wd (wr + ctk st n + i) := by
  simp only [fw]
  rw [if_neg (by omega)]
  congr 1
  omega
/-- only the last stack changes -/
def low (C H C' H' : Nat → Int32) (s : Nat) : Prop := (∀ j, j < s * 512 + 512 → C' j = C j) ∧ ∀ j, j ≤ s → H' j = H j
theorem low_refl (C H : Nat → Int32) (s : Nat) : low C H C H s := ⟨fun _ _ => rfl, fun _ _ => rfl⟩
theorem low_trans {C H C1 H1 C2 H2 : Nat → Int32} {s : Nat} (h1 : low C H C1 H1 s) (h2 : low C1 H1 C2 H2 s) : low C H C2 H2 s := ⟨fun j hj => (h2.1 j hj).trans (h1.1 j hj), fun j hj => (h2.2 j hj).trans (h1.2 j hj)⟩
set_option maxRecDepth 100000 in
theorem low_le {C H C' H' : Nat → Int32} {s s' : Nat} (h : low C H C' H' s) (hs : s' ≤ s) : low C H C' H' s' := ⟨fun j hj => h.1 j (by omega), fun j hj => h.2 j (by omega)⟩
theorem fr_low {C H C' H' : Nat → Int32} {d s : Nat} (h : fr C H C' H' d) (hs : s < d) : low C H C' H' s := ⟨fun j hj => h.1 j (by omega), fun j hj => h.2 j (by omega)⟩
set_option maxRecDepth 100000 in
theorem SR_low {C H C' H' : Nat → Int32} {s d : Nat} {S : List Nat} (h : SR C H d S) (hl : low C H C' H' s) (hd : d ≤ s) : SR C' H' d S := by
  refine ⟨by rw [hl.2 d hd]; exact h.1, h.2.1, sr_cong S (fun j h1 h2 => hl.1 j ?_) h.2.2⟩
  have := h.2.1
  omega
/-- what the class adds -/
theorem c_add {f n : Nat} (hf : f < 40) (hn : n ≤ 6) {path F25 F26 F24 : Nat → Int32} (R Bd x4 : Int32) : S_Finds_add (nI n) R Bd (nI f) x4 F25 F26 F24 path = some (nI 1, nI (f + 1), Bd, upd F25 f (nI n), upd F26 f R, fl F24 (fun j => path (j - f * 6)) (f * 6) n) := by
  have key : ∀ d i k, i + d = n → F_Finds_add path (k + (d + 1)) 0 (nI n) R Bd (nI i) (nI f) x4 F25 F26 (fl F24 (fun j => path (j - f * 6)) (f * 6) i) = some (nI 1, nI (f + 1), Bd, upd F25 f (nI n), upd F26 f R, fl F24 (fun j => path (j - f * 6)) (f * 6) n) := by
    intro d
    induction d with
    | zero =>
      intro i k hi
      have : i = n := by omega
      subst this
      show B_Finds_add_0 (F_Finds_add path k) path (nI i) R Bd (nI i) (nI f) x4 F25 F26 (fl F24 (fun j => path (j - f * 6)) (f * 6) i) = _
      simp (disch := omega) only [B_Finds_add_0, i_lit, nI_ltI, nI_leI, nI_eq, nI_add, pk_mul, pk_sub, nI_clamp, if_pos, if_neg, if_true, if_false, Option.bind_some, true_or, or_true, false_or, or_false, or_self, not_true_eq_false, not_false_eq_true, i_m1lt, i_m1le, i_nlt1, i_nle1, i_ne1, i_1ne]
    | succ d ih =>
      intro i k hi
      rw [← ih (i + 1) k (by omega)]
      have hu := fl_up F24 (fun j => path (j - f * 6)) (f * 6) i
      have e1 : f * 6 + i - f * 6 = i := by omega
      simp only [e1] at hu
      show B_Finds_add_0 (F_Finds_add path (k + (d + 1))) path (nI n) R Bd (nI i) (nI f) x4 F25 F26 (fl F24 (fun j => path (j - f * 6)) (f * 6) i) = _
      simp (disch := omega) only [B_Finds_add_0, hu, i_lit, nI_ltI, nI_leI, nI_eq, nI_add, pk_mul, pk_sub, nI_clamp, if_pos, if_neg, if_true, if_false, Option.bind_some, true_or, or_true, false_or, or_false, or_self, not_true_eq_false, not_false_eq_true, i_m1lt, i_m1le, i_nlt1, i_nle1, i_ne1, i_1ne]
  obtain ⟨k, hk⟩ := fuelled (k := n + 1) (by omega)
  have := key n 0 k (by omega)
  rw [fl_0, ← hk] at this
  simp (disch := omega) only [S_Finds_add, i_lit, nI_ltI, nI_leI, nI_eq, nI_add, pk_mul, pk_sub, nI_clamp, if_pos, if_neg, if_true, if_false, Option.bind_some, true_or, or_true, false_or, or_false, or_self, not_true_eq_false, not_false_eq_true, i_m1lt, i_m1le, i_nlt1, i_nle1, i_ne1, i_1ne]
  exact this
theorem c_add40 {n : Nat} {path F25 F26 F24 : Nat → Int32} (R Bd x4 : Int32) : S_Finds_add (nI n) R Bd (nI 40) x4 F25 F26 F24 path = some (nI 0, nI 40, x4, F25, F26, F24) := by
  simp (disch := omega) only [S_Finds_add, i_lit, nI_ltI, nI_leI, nI_eq, nI_add, pk_mul, pk_sub, nI_clamp, if_pos, if_neg, if_true, if_false, Option.bind_some, true_or, or_true, false_or, or_false, or_self, not_true_eq_false, not_false_eq_true, i_m1lt, i_m1le, i_nlt1, i_nle1, i_ne1, i_1ne]
section
variable {g : LRD} {l : Nat} {wd pc tc : Nat → Nat} {X : Int32} {lef siz red tgt txt put tak lem len fol nxt wrd mput mtak : Nat → Int32} {wr n z rs N R : Nat} {st : Nat → Nat}
/-- how far the text behind the steps is read -/
def rch (z N : Nat) : Option Nat → Nat
  | none => N - z
  | some k => k - z
theorem c_kwalk (hX : RX g l wd pc tc X lef siz red tgt txt put tak lem len fol nxt wrd mput mtak) (hz : z = wr + cpt st n) (hrs : rs = wr + ctk st n) (hrl : rs ≤ l) (hN : N = z + (l - rs)) (hN19 : N ≤ 19) (hW : ∀ j, j < N → fw wd wr st n j < 6) {s : Nat} (hs : s ≤ 6) {S : List Nat} (hS : g.rdS (fw wd wr st n) z S) {C H : Nat → Int32} (hC : SR C H s S) (G B : Int32) (p : Nat) {path F25 F26 F24 : Nat → Int32} {tm x3 x4 : Int32} : ∀ i S', i ≤ l - rs → g.rdS (fw wd wr st n) (z + i) S' →
    ∃ C' H' b, SR C' H' b S' ∧ b < 8 ∧ fr C H C' H' 7 ∧ ∀ k, F_Search_keepIfHelping G B path (nI l) X txt lef siz red tgt (k + i) 0 (nI p) (nI s) (nI rs) (nI 0) (nI s) (nI 0) tm x3 x4 F25 F26 F24 C H = F_Search_keepIfHelping G B path (nI l) X txt lef siz red tgt k 0 (nI p) (nI s) (nI rs) (nI i) (nI b) (nI 0) tm x3 x4 F25 F26 F24 C' H'
  | 0, S', hi, hr => by
    have := LRD.rdS_det hX.1 z S S' (fun i hi => hW i (by omega)) hS hr
    subst this
    exact ⟨C, H, s, hC, by omega, fr_refl _ _ _, fun k => rfl⟩
  | i + 1, S', hi, hr => by
    obtain ⟨S0, h1, h2⟩ := hr
    obtain ⟨C1, H1, b, c1, c2, c3, c4⟩ := c_kwalk hX hz hrs hrl hN hN19 hW hs hS hC G B p (path := path) (F25 := F25) (F26 := F26) (F24 := F24) (tm := tm) (x3 := x3) (x4 := x4) i S0 (by omega) h1
    obtain ⟨hg, hTC, hTM, hl, htx, -, -⟩ := hX
    have hst := LRD.rdS_st hg (z + i) S0 (fun j hj => hW j (by omega)) h1
    have hlt := hW (z + i) (by omega)
    obtain ⟨C2, H2, d1, d2, d3⟩ := (c_feed hg hTC c2 (show 7 < 8 by omega) hlt (by omega) hst c1).1 S' h2
    refine ⟨C2, H2, 7, d2, by omega, fr_trans c3 d3, fun k => ?_⟩
    have hx := htx (rs + i) (by omega)
    have hfw : fw wd wr st n (z + i) = wd (rs + i) := by rw [hz, hrs]; exact fw_hi
    rw [hfw] at d1
    rw [show k + (i + 1) = k + 1 + i by omega, c4]
    show B_Search_keepIfHelping_0 (F_Search_keepIfHelping G B path (nI l) X txt lef siz red tgt k) G B path (nI l) X txt lef siz red tgt (nI p) (nI s) (nI rs) (nI i) (nI b) (nI 0) tm x3 x4 F25 F26 F24 C1 H1 = _
    simp (disch := omega) only [B_Search_keepIfHelping_0, S_Text_size, S_Text_letterAt, hx.2.1, d1, i_10, i_lit, nI_ltI, nI_leI, nI_eq, nI_add, pk_mul, pk_sub, nI_clamp, if_pos, if_neg, if_true, if_false, Option.bind_some, true_or, or_true, false_or, or_false, or_self, not_true_eq_false, not_false_eq_true, i_m1lt, i_m1le, i_nlt1, i_nle1, i_ne1, i_1ne]
/-- keepIfHelping -/
theorem c_keep (hX : RX g l wd pc tc X lef siz red tgt txt put tak lem len fol nxt wrd mput mtak) (hz : z = wr + cpt st n) (hrs : rs = wr + ctk st n) (hrl : rs ≤ l) (hN : N = z + (l - rs)) (hN19 : N ≤ 19) (hW : ∀ j, j < N → fw wd wr st n j < 6) {s : Nat} (hs : s ≤ 6) {S : List Nat} (hS : g.rdS (fw wd wr st n) z S) {C H : Nat → Int32} (hC : SR C H s S) {G B p f : Nat} (hG : G ≤ 3) (hp : p ≤ 6) (hf : f ≤ 40) {o : Option Nat} {S' : List Nat} (ho : g.out (fw wd wr st n) N o S') {path F25 F26 F24 : Nat → Int32} {tm x4 : Int32} (htm : tm = nI 0 ∨ (tm = nI 1 ∧ f = 40)) :
    ∃ C' H', fr C H C' H' 7 ∧ S_Search_keepIfHelping (nI p) (nI s) (nI rs) (nI G) (nI B) tm (nI f) x4 path (nI l) F25 F26 F24 C H X txt lef siz red tgt =
      some (if o = none ∨ G ≤ rch z N o then (if f < 40 then (tm, nI (f + 1), nI B, upd F25 f (nI p), upd F26 f (nI (rch z N o)), fl F24 (fun j => path (j - f * 6)) (f * 6) p, C', H') else (nI 1, nI f, x4, F25, F26, F24, C', H')) else (tm, nI f, x4, F25, F26, F24, C', H')) := by
  have hg := hX.1
  have hTC := hX.2.1
  have htx := hX.2.2.2.2.1
  have hl := hX.2.2.2.1
  have hzN : z ≤ N := by omega
  -- what was read
  have hrd : rch z N o ≤ l - rs ∧ g.rdS (fw wd wr st n) (z + rch z N o) S' ∧ (z + rch z N o < N → ¬ g.cm (fw wd wr st n (z + rch z N o)) S') ∧ (o = none ↔ (z + rch z N o = N ∧ g.cm 6 S')) := by
    cases o with
    | none =>
      simp only [rch]
      rw [show z + (N - z) = N by omega]
      exact ⟨by omega, ho.1, fun h => absurd h (by omega), fun _ => ⟨rfl, ho.2⟩, fun _ => trivial⟩
    | some k =>
      have hk := LRD.out_ge hg hW hzN hS ho
      simp only [rch]
      rw [show z + (k - z) = k by omega]
      rcases ho with ⟨h1, h2, h3⟩ | ⟨h1, h2, h3⟩
      · exact ⟨by omega, h2, fun _ => h3, fun h => (by cases h), fun h => absurd h.1 (by omega)⟩
      · subst h1
        exact ⟨by omega, h2, fun h => absurd h (by omega), fun h => (by cases h), fun h => absurd h.2 h3⟩
  obtain ⟨r1, r2, r3, r4⟩ := hrd
  obtain ⟨C', H', b, c1, c2, c3, c4⟩ := c_kwalk hX hz hrs hrl hN hN19 hW hs hS hC (nI G) (nI B) p (path := path) (F25 := F25) (F26 := F26) (F24 := F24) (tm := tm) (x3 := nI f) (x4 := x4) (rch z N o) S' r1 r2
  refine ⟨C', H', c3, ?_⟩
  generalize hR : rch z N o = R at *
  have hst := LRD.rdS_st hg (z + R) S' (fun j hj => hW j (by omega)) r2
  obtain ⟨k, hk⟩ := fuelled (k := 3 + R) (by omega)
  have stop : ∀ k, F_Search_keepIfHelping (nI G) (nI B) path (nI l) X txt lef siz red tgt (k + 1) 0 (nI p) (nI s) (nI rs) (nI R) (nI b) (nI 0) tm (nI f) x4 F25 F26 F24 C' H' = F_Search_keepIfHelping (nI G) (nI B) path (nI l) X txt lef siz red tgt k 1 (nI p) (nI s) (nI rs) (nI R) (nI b) (nI 0) tm (nI f) x4 F25 F26 F24 C' H' := by
    intro k
    show B_Search_keepIfHelping_0 (F_Search_keepIfHelping (nI G) (nI B) path (nI l) X txt lef siz red tgt k) (nI G) (nI B) path (nI l) X txt lef siz red tgt (nI p) (nI s) (nI rs) (nI R) (nI b) (nI 0) tm (nI f) x4 F25 F26 F24 C' H' = _
    by_cases e : z + R = N
    · simp (disch := omega) only [B_Search_keepIfHelping_0, S_Text_size, i_lit, nI_ltI, nI_leI, nI_eq, nI_add, pk_mul, pk_sub, nI_clamp, if_pos, if_neg, if_true, if_false, Option.bind_some, true_or, or_true, false_or, or_false, or_self, not_true_eq_false, not_false_eq_true, i_m1lt, i_m1le, i_nlt1, i_nle1, i_ne1, i_1ne]
    · have hx := htx (rs + R) (by omega)
      have hfw : fw wd wr st n (z + R) = wd (rs + R) := by rw [hz, hrs]; exact fw_hi
      have hno := r3 (by omega)
      rw [hfw] at hno
      have hfd := (c_feed hg hTC c2 (show 7 < 8 by omega) hx.1 (by omega) hst c1).2 hno
      simp (disch := omega) only [B_Search_keepIfHelping_0, S_Text_size, S_Text_letterAt, hx.2.1, hfd, i_lit, nI_ltI, nI_leI, nI_eq, nI_add, pk_mul, pk_sub, nI_clamp, if_pos, if_neg, if_true, if_false, Option.bind_some, true_or, or_true, false_or, or_false, or_self, not_true_eq_false, not_false_eq_true, i_m1lt, i_m1le, i_nlt1, i_nle1, i_ne1, i_1ne]
  have s0 : S_Search_keepIfHelping (nI p) (nI s) (nI rs) (nI G) (nI B) tm (nI f) x4 path (nI l) F25 F26 F24 C H X txt lef siz red tgt = F_Search_keepIfHelping (nI G) (nI B) path (nI l) X txt lef siz red tgt (k + 2) 1 (nI p) (nI s) (nI rs) (nI R) (nI b) (nI 0) tm (nI f) x4 F25 F26 F24 C' H' := by
    have e0 : S_Search_keepIfHelping (nI p) (nI s) (nI rs) (nI G) (nI B) tm (nI f) x4 path (nI l) F25 F26 F24 C H X txt lef siz red tgt = F_Search_keepIfHelping (nI G) (nI B) path (nI l) X txt lef siz red tgt fuel_ 0 (nI p) (nI s) (nI rs) (nI 0) (nI s) (nI 0) tm (nI f) x4 F25 F26 F24 C H := by simp (disch := omega) only [S_Search_keepIfHelping, i_lit, nI_ltI, nI_leI, nI_eq, nI_add, pk_mul, pk_sub, nI_clamp, if_pos, if_neg, if_true, if_false, Option.bind_some, true_or, or_true, false_or, or_false, or_self, not_true_eq_false, not_false_eq_true, i_m1lt, i_m1le, i_nlt1, i_nle1, i_ne1, i_1ne]
    have e1 : F_Search_keepIfHelping (nI G) (nI B) path (nI l) X txt lef siz red tgt fuel_ 0 (nI p) (nI s) (nI rs) (nI 0) (nI s) (nI 0) tm (nI f) x4 F25 F26 F24 C H = F_Search_keepIfHelping (nI G) (nI B) path (nI l) X txt lef siz red tgt (k + 2 + 1) 0 (nI p) (nI s) (nI rs) (nI R) (nI b) (nI 0) tm (nI f) x4 F25 F26 F24 C' H' := by
      have := c4 (k + 2 + 1)
      rw [show k + 2 + 1 + R = fuel_ by omega] at this
      exact this
    exact e0.trans (e1.trans (stop (k + 2)))
  have s1 : F_Search_keepIfHelping (nI G) (nI B) path (nI l) X txt lef siz red tgt (k + 2) 1 (nI p) (nI s) (nI rs) (nI R) (nI b) (nI 0) tm (nI f) x4 F25 F26 F24 C' H' = F_Search_keepIfHelping (nI G) (nI B) path (nI l) X txt lef siz red tgt (k + 1) 2 (nI p) (nI s) (nI rs) (nI R) (nI b) (nI (if z + R = N then 1 else 0)) tm (nI f) x4 F25 F26 F24 C' H' := by
    show B_Search_keepIfHelping_1 (F_Search_keepIfHelping (nI G) (nI B) path (nI l) X txt lef siz red tgt (k + 1)) (nI G) (nI B) path (nI l) X txt lef siz red tgt (nI p) (nI s) (nI rs) (nI R) (nI b) (nI 0) tm (nI f) x4 F25 F26 F24 C' H' = _
    by_cases e : z + R = N
    · have e1 : rs + R = l := by omega
      simp (disch := omega) only [B_Search_keepIfHelping_1, S_Text_size, e, e1, i_lit, nI_ltI, nI_leI, nI_eq, nI_add, pk_mul, pk_sub, nI_clamp, if_pos, if_neg, if_true, if_false, Option.bind_some, true_or, or_true, false_or, or_false, or_self, not_true_eq_false, not_false_eq_true, i_m1lt, i_m1le, i_nlt1, i_nle1, i_ne1, i_1ne]
    · simp (disch := omega) only [B_Search_keepIfHelping_1, S_Text_size, e, i_lit, nI_ltI, nI_leI, nI_eq, nI_add, pk_mul, pk_sub, nI_clamp, if_pos, if_neg, if_true, if_false, Option.bind_some, true_or, or_true, false_or, or_false, or_self, not_true_eq_false, not_false_eq_true, i_m1lt, i_m1le, i_nlt1, i_nle1, i_ne1, i_1ne]
  rw [s0, s1]
  show B_Search_keepIfHelping_2 (F_Search_keepIfHelping (nI G) (nI B) path (nI l) X txt lef siz red tgt k) (nI G) (nI B) path (nI l) X txt lef siz red tgt (nI p) (nI s) (nI rs) (nI R) (nI b) (nI (if z + R = N then 1 else 0)) tm (nI f) x4 F25 F26 F24 C' H' = _
  have o00 : nI 0 ||| nI 0 = nI 0 := by decide
  have o01 : nI 0 ||| nI 1 = nI 1 := by decide
  have o10 : nI 1 ||| nI 0 = nI 1 := by decide
  have o11 : nI 1 ||| nI 1 = nI 1 := by decide
  have hadd : ∀ (hf40 : f < 40), tm = nI 0 := fun hf40 => htm.resolve_right (fun h => by omega)
  by_cases hkeep : G ≤ R
  · rw [if_pos (Or.inr hkeep)]
    by_cases hf40 : f < 40
    · rw [if_pos hf40]
      have ht0 := hadd hf40
      subst ht0
      have := c_add hf40 hp (path := path) (F25 := F25) (F26 := F26) (F24 := F24) (nI R) (nI B) x4
      simp (disch := omega) only [B_Search_keepIfHelping_2, this, i_10, o00, i_lit, nI_ltI, nI_leI, nI_eq, nI_add, pk_mul, pk_sub, nI_clamp, if_pos, if_neg, if_true, if_false, Option.bind_some, true_or, or_true, false_or, or_false, or_self, not_true_eq_false, not_false_eq_true, i_m1lt, i_m1le, i_nlt1, i_nle1, i_ne1, i_1ne]
    · rw [if_neg hf40]
      have : f = 40 := by omega
      subst this
      have := c_add40 (n := p) (path := path) (F25 := F25) (F26 := F26) (F24 := F24) (nI R) (nI B) x4
      rcases htm with rfl | ⟨rfl, -⟩
      · simp (disch := omega) only [B_Search_keepIfHelping_2, this, o01, i_lit, nI_ltI, nI_leI, nI_eq, nI_add, pk_mul, pk_sub, nI_clamp, if_pos, if_neg, if_true, if_false, Option.bind_some, true_or, or_true, false_or, or_false, or_self, not_true_eq_false, not_false_eq_true, i_m1lt, i_m1le, i_nlt1, i_nle1, i_ne1, i_1ne]
      · simp (disch := omega) only [B_Search_keepIfHelping_2, this, o11, i_lit, nI_ltI, nI_leI, nI_eq, nI_add, pk_mul, pk_sub, nI_clamp, if_pos, if_neg, if_true, if_false, Option.bind_some, true_or, or_true, false_or, or_false, or_self, not_true_eq_false, not_false_eq_true, i_m1lt, i_m1le, i_nlt1, i_nle1, i_ne1, i_1ne]
  · by_cases ho0 : o = none
    · rw [if_pos (Or.inl ho0)]
      obtain ⟨q1, q2⟩ := r4.mp ho0
      have hcan := (c_can hg hTC c2 (show 6 < 7 by omega) (LRD.st_vf hst) c1).1 q2
      by_cases hf40 : f < 40
      · rw [if_pos hf40]
        have ht0 := hadd hf40
        subst ht0
        have := c_add hf40 hp (path := path) (F25 := F25) (F26 := F26) (F24 := F24) (nI R) (nI B) x4
        simp (disch := omega) only [B_Search_keepIfHelping_2, q1, i_10, S_Stacks_isSentence, hcan, this, o00, i_lit, nI_ltI, nI_leI, nI_eq, nI_add, pk_mul, pk_sub, nI_clamp, if_pos, if_neg, if_true, if_false, Option.bind_some, true_or, or_true, false_or, or_false, or_self, not_true_eq_false, not_false_eq_true, i_m1lt, i_m1le, i_nlt1, i_nle1, i_ne1, i_1ne]
      · rw [if_neg hf40]
        have : f = 40 := by omega
        subst this
        have := c_add40 (n := p) (path := path) (F25 := F25) (F26 := F26) (F24 := F24) (nI R) (nI B) x4
        rcases htm with rfl | ⟨rfl, -⟩
        · simp (disch := omega) only [B_Search_keepIfHelping_2, q1, i_10, S_Stacks_isSentence, hcan, this, o01, i_lit, nI_ltI, nI_leI, nI_eq, nI_add, pk_mul, pk_sub, nI_clamp, if_pos, if_neg, if_true, if_false, Option.bind_some, true_or, or_true, false_or, or_false, or_self, not_true_eq_false, not_false_eq_true, i_m1lt, i_m1le, i_nlt1, i_nle1, i_ne1, i_1ne]
        · simp (disch := omega) only [B_Search_keepIfHelping_2, q1, i_10, S_Stacks_isSentence, hcan, this, o11, i_lit, nI_ltI, nI_leI, nI_eq, nI_add, pk_mul, pk_sub, nI_clamp, if_pos, if_neg, if_true, if_false, Option.bind_some, true_or, or_true, false_or, or_false, or_self, not_true_eq_false, not_false_eq_true, i_m1lt, i_m1le, i_nlt1, i_nle1, i_ne1, i_1ne]
    · rw [if_neg (show ¬ (o = none ∨ G ≤ R) from fun h => h.elim ho0 hkeep)]
      by_cases e : z + R = N
      · have hncm : ¬ g.cm 6 S' := fun h => ho0 (r4.mpr ⟨e, h⟩)
        have hcan := (c_can hg hTC c2 (show 6 < 7 by omega) (LRD.st_vf hst) c1).2 hncm
        simp (disch := omega) only [B_Search_keepIfHelping_2, e, i_10, S_Stacks_isSentence, hcan, i_lit, nI_ltI, nI_leI, nI_eq, nI_add, pk_mul, pk_sub, nI_clamp, if_pos, if_neg, if_true, if_false, Option.bind_some, true_or, or_true, false_or, or_false, or_self, not_true_eq_false, not_false_eq_true, i_m1lt, i_m1le, i_nlt1, i_nle1, i_ne1, i_1ne]
      · simp (disch := omega) only [B_Search_keepIfHelping_2, e, i_lit, nI_ltI, nI_leI, nI_eq, nI_add, pk_mul, pk_sub, nI_clamp, if_pos, if_neg, if_true, if_false, Option.bind_some, true_or, or_true, false_or, or_false, or_self, not_true_eq_false, not_false_eq_true, i_m1lt, i_m1le, i_nlt1, i_nle1, i_ne1, i_1ne]
/-- the reference's note -/
theorem m_note (hX : RX g l wd pc tc X lef siz red tgt txt put tak lem len fol nxt wrd mput mtak) (hz : z = wr + cpt st n) (hrs : rs = wr + ctk st n) (hrl : rs ≤ l) (hN : N = z + (l - rs)) (hN19 : N ≤ 19) (hW : ∀ j, j < N → fw wd wr st n j < 6) {S : List Nat} (hS : g.rdS (fw wd wr st n) z S) {G p mf : Nat} (hG : G ≤ 3) (hp : p ≤ 6) (hmf : mf < 2000000) {o : Option Nat} {S' : List Nat} (ho : g.out (fw wd wr st n) N o S') {F g46 row stk g45 : Nat → Int32} (hF : rep F (ow wd wr st n) z) :
    ∃ F' stk' G45, (∀ j, ¬ (7 * mf ≤ j ∧ j < 7 * mf + 7) → G45 j = g45 j) ∧ ((o = none ∨ G ≤ rch z N o) → mf < 40 → (∀ i, i < p → G45 (7 * mf + i) = row i) ∧ ∀ i, p ≤ i → i < 7 → G45 (7 * mf + i) = -nI 1) ∧
      S_Model_note (nI p) (nI G) (nI l) (nI mf) (nI z) (nI rs) fol F lem len nxt g46 row stk g45 wrd =
        some (if o = none ∨ G ≤ rch z N o then (if mf < 40 then (nI (mf + 1), F', upd g46 mf (nI (rch z N o)), stk', G45) else (nI (mf + 1), F', g46, stk', G45)) else (nI mf, F', g46, stk', G45)) := by
  have hg := hX.1
  have hTM := hX.2.2.1
  have htx := hX.2.2.2.2.1
  have hl := hX.2.2.2.1
  have hzN : z ≤ N := by omega
  -- the fresh row
  have hcopy : ∀ d i, i + d = l - rs → ∀ k, F_Model_note (nI l) (nI z) (nI rs) fol lem len nxt row wrd (k + d) 0 (nI p) (nI G) (nI (z + i)) (nI (rs + i)) (nI 0) (nI mf) (fl F (fun j => wrd (j - z + rs)) z i) g46 stk g45 = F_Model_note (nI l) (nI z) (nI rs) fol lem len nxt row wrd k 0 (nI p) (nI G) (nI N) (nI l) (nI 0) (nI mf) (fl F (fun j => wrd (j - z + rs)) z (l - rs)) g46 stk g45 := by
    intro d
    induction d with
    | zero =>
      intro i hi k
      rw [show i = l - rs by omega, show z + (l - rs) = N by omega, show rs + (l - rs) = l by omega]
      rfl
    | succ d ih =>
      intro i hi k
      rw [← ih (i + 1) (by omega) k]
      have hu := fl_up F (fun j => wrd (j - z + rs)) z i
      have e1 : z + i - z + rs = rs + i := by omega
      simp only [e1] at hu
      have e2 : z + i + 1 = z + (i + 1) := by omega
      have e3 : rs + i + 1 = rs + (i + 1) := by omega
      show B_Model_note_0 (F_Model_note (nI l) (nI z) (nI rs) fol lem len nxt row wrd (k + d)) (nI l) (nI z) (nI rs) fol lem len nxt row wrd (nI p) (nI G) (nI (z + i)) (nI (rs + i)) (nI 0) (nI mf) (fl F (fun j => wrd (j - z + rs)) z i) g46 stk g45 = _
      simp (disch := omega) only [B_Model_note_0, hu, e2, e3, i_lit, nI_ltI, nI_leI, nI_eq, nI_add, pk_mul, pk_sub, nI_clamp, if_pos, if_neg, if_true, if_false, Option.bind_some, true_or, or_true, false_or, or_false, or_self, not_true_eq_false, not_false_eq_true, i_m1lt, i_m1le, i_nlt1, i_nle1, i_ne1, i_1ne]
  have hrep : ∀ j, j < N → fw wd wr st n j < 6 ∧ fl F (fun j => wrd (j - z + rs)) z (l - rs) j = nI (fw wd wr st n j) := by
    intro j hj
    refine ⟨hW j hj, ?_⟩
    by_cases e : j < z
    · rw [fl_out (by omega), hF j e]
      simp only [fw]
      rw [if_pos (by omega)]
    · rw [fl_in (by omega) (by omega)]
      simp only [fw]
      rw [if_neg (by omega), ← hz, ← hrs]
      exact (htx (j - z + rs) (by omega)).2.2
  obtain ⟨A, hA⟩ := m_wrongW hg (A := stk) hTM hN19 hrep ho
  obtain ⟨k, hk⟩ := fuelled (k := 9 + (l - rs)) (by omega)
  have s0 : S_Model_note (nI p) (nI G) (nI l) (nI mf) (nI z) (nI rs) fol F lem len nxt g46 row stk g45 wrd = F_Model_note (nI l) (nI z) (nI rs) fol lem len nxt row wrd (k + 9) 0 (nI p) (nI G) (nI N) (nI l) (nI 0) (nI mf) (fl F (fun j => wrd (j - z + rs)) z (l - rs)) g46 stk g45 := by
    have := hcopy (l - rs) 0 (by omega) (k + 9)
    rw [fl_0] at this
    rw [← this, show k + 9 + (l - rs) = k + (9 + (l - rs)) by omega, ← hk]
    rfl
  -- the steps are written
  have hst : ∀ at_ : Int32, mf < 40 → ∀ d i f9, i + d = 7 → (∀ j, ¬ (7 * mf ≤ j ∧ j < 7 * mf + 7) → f9 j = g45 j) → (∀ i', i' < i → i' < p → f9 (7 * mf + i') = row i') → (∀ i', i' < i → p ≤ i' → f9 (7 * mf + i') = -nI 1) →
      ∃ G45, (∀ j, ¬ (7 * mf ≤ j ∧ j < 7 * mf + 7) → G45 j = g45 j) ∧ (∀ i, i < p → G45 (7 * mf + i) = row i) ∧ (∀ i, p ≤ i → i < 7 → G45 (7 * mf + i) = -nI 1) ∧ ∀ k, F_Model_note (nI l) (nI z) (nI rs) fol lem len nxt row wrd (k + d) 1 (nI p) (nI G) (nI N) at_ (nI i) (nI mf) (fl F (fun j => wrd (j - z + rs)) z (l - rs)) g46 A f9 = F_Model_note (nI l) (nI z) (nI rs) fol lem len nxt row wrd k 1 (nI p) (nI G) (nI N) at_ (nI 7) (nI mf) (fl F (fun j => wrd (j - z + rs)) z (l - rs)) g46 A G45 := by
    intro at_ hm40 d
    induction d with
    | zero =>
      intro i f9 hi h1 h2 h3
      have : i = 7 := by omega
      subst this
      exact ⟨f9, h1, fun i' h4 => h2 i' (by omega) h4, fun i' h4 h5 => h3 i' h5 h4, fun k => rfl⟩
    | succ d ih =>
      intro i f9 hi h1 h2 h3
      obtain ⟨G45, c1, c2, c3, c4⟩ := ih (i + 1) (upd f9 (7 * mf + i) (if p ≤ i then -nI 1 else row i)) (by omega) (fun j hj => by rw [pk_un (by omega)]; exact h1 j hj) (fun i' h4 h5 => by
        by_cases e : i' = i
        · subst e; rw [pk_us, if_neg (by omega)]
        · rw [pk_un (by omega)]; exact h2 i' (by omega) h5) (fun i' h4 h5 => by
        by_cases e : i' = i
        · subst e; rw [pk_us, if_pos h5]
        · rw [pk_un (by omega)]; exact h3 i' (by omega) h5)
      refine ⟨G45, c1, c2, c3, fun k => ?_⟩
      rw [← c4 k]
      show B_Model_note_1 (F_Model_note (nI l) (nI z) (nI rs) fol lem len nxt row wrd (k + d)) (nI l) (nI z) (nI rs) fol lem len nxt row wrd (nI p) (nI G) (nI N) at_ (nI i) (nI mf) (fl F (fun j => wrd (j - z + rs)) z (l - rs)) g46 A f9 = _
      by_cases e : p ≤ i
      · simp (disch := omega) only [B_Model_note_1, e, i_lit, nI_ltI, nI_leI, nI_eq, nI_add, pk_mul, pk_sub, nI_clamp, if_pos, if_neg, if_true, if_false, Option.bind_some, true_or, or_true, false_or, or_false, or_self, not_true_eq_false, not_false_eq_true, i_m1lt, i_m1le, i_nlt1, i_nle1, i_ne1, i_1ne]
      · simp (disch := omega) only [B_Model_note_1, e, i_lit, nI_ltI, nI_leI, nI_eq, nI_add, pk_mul, pk_sub, nI_clamp, if_pos, if_neg, if_true, if_false, Option.bind_some, true_or, or_true, false_or, or_false, or_self, not_true_eq_false, not_false_eq_true, i_m1lt, i_m1le, i_nlt1, i_nle1, i_ne1, i_1ne]
  have fin : mf < 40 → ∀ at_ : Int32, (at_ = -nI 1 ∧ o = none ∨ ∃ k, at_ = nI k ∧ o = some k ∧ z ≤ k ∧ k < 2 ^ 31) → ∃ G45, (∀ j, ¬ (7 * mf ≤ j ∧ j < 7 * mf + 7) → G45 j = g45 j) ∧ (∀ i, i < p → G45 (7 * mf + i) = row i) ∧ (∀ i, p ≤ i → i < 7 → G45 (7 * mf + i) = -nI 1) ∧ F_Model_note (nI l) (nI z) (nI rs) fol lem len nxt row wrd (k + 8) 1 (nI p) (nI G) (nI N) at_ (nI 0) (nI mf) (fl F (fun j => wrd (j - z + rs)) z (l - rs)) g46 A g45 = some (nI (mf + 1), fl F (fun j => wrd (j - z + rs)) z (l - rs), upd g46 mf (nI (rch z N o)), A, G45) := by
    intro hm40 at_ hat
    obtain ⟨G45, c1, c2, c3, c4⟩ := hst at_ hm40 7 0 g45 (by omega) (fun _ _ => rfl) (fun i' h => absurd h (by omega)) (fun i' h => absurd h (by omega))
    refine ⟨G45, c1, c2, c3, ?_⟩
    rw [show k + 8 = k + 1 + 7 by omega, c4]
    show B_Model_note_1 (F_Model_note (nI l) (nI z) (nI rs) fol lem len nxt row wrd k) (nI l) (nI z) (nI rs) fol lem len nxt row wrd (nI p) (nI G) (nI N) at_ (nI 7) (nI mf) (fl F (fun j => wrd (j - z + rs)) z (l - rs)) g46 A G45 = _
    rcases hat with ⟨rfl, rfl⟩ | ⟨k', rfl, rfl, hk', hk2⟩
    · simp (disch := omega) only [B_Model_note_1, i_n01, rch, i_lit, nI_ltI, nI_leI, nI_eq, nI_add, pk_mul, pk_sub, nI_clamp, if_pos, if_neg, if_true, if_false, Option.bind_some, true_or, or_true, false_or, or_false, or_self, not_true_eq_false, not_false_eq_true, i_m1lt, i_m1le, i_nlt1, i_nle1, i_ne1, i_1ne]
    · simp (disch := omega) only [B_Model_note_1, rch, i_lit, nI_ltI, nI_leI, nI_eq, nI_add, pk_mul, pk_sub, nI_clamp, if_pos, if_neg, if_true, if_false, Option.bind_some, true_or, or_true, false_or, or_false, or_self, not_true_eq_false, not_false_eq_true, i_m1lt, i_m1le, i_nlt1, i_nle1, i_ne1, i_1ne]
  rw [s0]
  show ∃ F' stk' G45, _ ∧ _ ∧ B_Model_note_0 (F_Model_note (nI l) (nI z) (nI rs) fol lem len nxt row wrd (k + 8)) (nI l) (nI z) (nI rs) fol lem len nxt row wrd (nI p) (nI G) (nI N) (nI l) (nI 0) (nI mf) (fl F (fun j => wrd (j - z + rs)) z (l - rs)) g46 stk g45 = _
  cases o with
  | none =>
    rw [oI_n] at hA
    by_cases hm40 : mf < 40
    · obtain ⟨G45, c1, c2, c3, c4⟩ := fin hm40 (-nI 1) (Or.inl ⟨rfl, rfl⟩)
      refine ⟨fl F (fun j => wrd (j - z + rs)) z (l - rs), A, G45, c1, fun _ _ => ⟨c2, c3⟩, ?_⟩
      rw [if_pos (Or.inl rfl), if_pos hm40]
      simp (disch := omega) only [B_Model_note_0, hA, i_m1neg, c4, i_lit, nI_ltI, nI_leI, nI_eq, nI_add, pk_mul, pk_sub, nI_clamp, if_pos, if_neg, if_true, if_false, Option.bind_some, true_or, or_true, false_or, or_false, or_self, not_true_eq_false, not_false_eq_true, i_m1lt, i_m1le, i_nlt1, i_nle1, i_ne1, i_1ne]
    · refine ⟨fl F (fun j => wrd (j - z + rs)) z (l - rs), A, g45, fun _ _ => rfl, fun _ h => absurd h hm40, ?_⟩
      rw [if_pos (Or.inl rfl), if_neg hm40]
      simp (disch := omega) only [B_Model_note_0, hA, i_m1neg, i_lit, nI_ltI, nI_leI, nI_eq, nI_add, pk_mul, pk_sub, nI_clamp, if_pos, if_neg, if_true, if_false, Option.bind_some, true_or, or_true, false_or, or_false, or_self, not_true_eq_false, not_false_eq_true, i_m1lt, i_m1le, i_nlt1, i_nle1, i_ne1, i_1ne]
  | some k' =>
    rw [oI_s] at hA
    have hk' := LRD.out_ge hg hW hzN hS ho
    have hkN : k' ≤ N := by
      rcases ho with ⟨h1, -⟩ | ⟨h1, -⟩ <;> omega
    have hn0 : ¬ nI k' < nI 0 := nI_pos (by omega)
    by_cases hkeep : G ≤ rch z N (some k')
    · have hkeep' : z + G ≤ k' := by simp only [rch] at hkeep; omega
      by_cases hm40 : mf < 40
      · obtain ⟨G45, c1, c2, c3, c4⟩ := fin hm40 (nI k') (Or.inr ⟨k', rfl, rfl, hk', by omega⟩)
        refine ⟨fl F (fun j => wrd (j - z + rs)) z (l - rs), A, G45, c1, fun _ _ => ⟨c2, c3⟩, ?_⟩
        rw [if_pos (Or.inr hkeep), if_pos hm40]
        simp (disch := omega) only [B_Model_note_0, hA, hn0, c4, i_lit, nI_ltI, nI_leI, nI_eq, nI_add, pk_mul, pk_sub, nI_clamp, if_pos, if_neg, if_true, if_false, Option.bind_some, true_or, or_true, false_or, or_false, or_self, not_true_eq_false, not_false_eq_true, i_m1lt, i_m1le, i_nlt1, i_nle1, i_ne1, i_1ne]
      · refine ⟨fl F (fun j => wrd (j - z + rs)) z (l - rs), A, g45, fun _ _ => rfl, fun _ h => absurd h hm40, ?_⟩
        rw [if_pos (Or.inr hkeep), if_neg hm40]
        simp (disch := omega) only [B_Model_note_0, hA, hn0, i_lit, nI_ltI, nI_leI, nI_eq, nI_add, pk_mul, pk_sub, nI_clamp, if_pos, if_neg, if_true, if_false, Option.bind_some, true_or, or_true, false_or, or_false, or_self, not_true_eq_false, not_false_eq_true, i_m1lt, i_m1le, i_nlt1, i_nle1, i_ne1, i_1ne]
    · have hkeep' : ¬ z + G ≤ k' := by simp only [rch] at hkeep; omega
      refine ⟨fl F (fun j => wrd (j - z + rs)) z (l - rs), A, g45, fun _ _ => rfl, fun h => absurd h (fun h => h.elim (fun h => by cases h) hkeep), ?_⟩
      rw [if_neg (fun h => h.elim (fun h => by cases h) hkeep)]
      simp (disch := omega) only [B_Model_note_0, hA, hn0, i_lit, nI_ltI, nI_leI, nI_eq, nI_add, pk_mul, pk_sub, nI_clamp, if_pos, if_neg, if_true, if_false, Option.bind_some, true_or, or_true, false_or, or_false, or_self, not_true_eq_false, not_false_eq_true, i_m1lt, i_m1le, i_nlt1, i_nle1, i_ne1, i_1ne]
end
