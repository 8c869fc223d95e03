/-! the call compile -/
def lnx (n : Nat) (ln : Nat → Nat) (r : Nat) : Nat := if r = 10 then 1 else if r < n then ln r else 0
def syx (lf : Nat → Nat) (sy : Nat → Nat → Nat) (r k : Nat) : Nat := if r = 10 then 6 + lf 0 else sy r k
section
variable {n : Nat} {lf ln : Nat → Nat} {sy : Nat → Nat → Nat}
theorem lnx_r {r : Nat} (hn : n ≤ 10) (hr : r < n) : lnx n ln r = ln r := by simp only [lnx]; rw [if_neg (by omega), if_pos hr]
theorem lnx_10 : lnx n ln 10 = 1 := by simp only [lnx, if_true]
theorem lnx_0 {r : Nat} (hr : n ≤ r) (hr2 : r < 10) : lnx n ln r = 0 := by simp only [lnx]; rw [if_neg (by omega), if_neg (by omega)]
theorem syx_r {r : Nat} (hr : r < 10) (k : Nat) : syx lf sy r k = sy r k := by simp only [syx]; rw [if_neg (by omega)]
theorem syx_10 (k : Nat) : syx lf sy 10 k = 6 + lf 0 := by simp only [syx, if_true]
theorem ir_g {a b : Int32} {f1 f2 f3 g1 g2 g3 : Nat → Int32} (h : IR n lf ln sy a f1 f2 f3 b g1 g2 g3) : GL n lf f1 ∧ GS n (lnx n ln) (syx lf sy) f2 f3 ∧ GLm n lf g1 ∧ GSm n (lnx n ln) (syx lf sy) g3 g2 := by
  obtain ⟨hn, -, -, hr, -⟩ := h
  refine ⟨fun r h1 => ⟨(hr r h1).1, (hr r h1).2.2.1⟩, fun r h1 => ?_, fun r h1 => ⟨(hr r h1).1, (hr r h1).2.2.2.1⟩, fun r h1 => ?_⟩
  · obtain ⟨c1, c2, c3, c4, c5, c6, c7⟩ := hr r h1
    rw [lnx_r hn h1]
    exact ⟨c2, c5, fun k hk => by rw [syx_r (by omega)]; exact ⟨(c7 k hk).1, (c7 k hk).2.1⟩⟩
  · obtain ⟨c1, c2, c3, c4, c5, c6, c7⟩ := hr r h1
    rw [lnx_r hn h1]
    exact ⟨c2, c6, fun k hk => by rw [syx_r (by omega)]; exact ⟨(c7 k hk).1, (c7 k hk).2.2⟩⟩
theorem p_compile {a b : Int32} {f4 f5 f6 f7 f8 f9 f10 f11 f12 g1 g2 g3 g4 g5 g6 g7 g8 g9 : Nat → Int32} {x13 x14 x15 x33 x34 y0 y11 y12 y22 y23 : Int32} (h : IR n lf ln sy a f6 f7 f8 b g5 g6 g8) :
    ∃ (k e r x3' x4' z11 z12 : Int32) (F4 F5 F6 F7 F8 F9 F10 F11 F12 G1 G2 G3 G4 G5 G6 G7 G8 G9 : Nat → Int32),
      S_Desk_compile x13 x14 x15 a x33 x34 f4 f5 f6 f7 f8 f9 f10 f11 f12 = some (k, r, nI 0, nI 0, nI 0, x3', x4', F4, F5, F6, F7, F8, F9, F10, F11, F12) ∧
      S_Model_compile y0 b y11 y12 y22 y23 g1 g2 g3 g4 g5 g6 g7 g8 g9 = some (r, e, z11, z12, nI 0, nI 0, G1, G2, G3, G4, G5, G6, G7, G8, G9) ∧
      ((k = nI 2 ∧ e = nI 1 ∧ r = nI 0) ∨ (k = nI 3 ∧ e = nI 2 ∧ r = nI 0) ∨ (k = nI 0 ∧ e = nI 0)) ∧ IR n lf ln sy a F6 F7 F8 b G5 G6 G8 ∧ IM x3' x4' F6 F8 F10 F12 z12 G5 G6 G4 G7 := by
  obtain ⟨hGL, hGS, hGLm, hGSm⟩ := ir_g h
  have h' := h
  obtain ⟨hn, rfl, rfl, hr, hz⟩ := h
  by_cases h0 : n = 0
  · subst h0
    refine ⟨nI 2, nI 1, nI 0, nI 0, nI 0, y11, nI 0, f4, f5, f6, f7, f8, f9, f10, f11, f12, g1, g2, g3, g4, g5, g6, g7, g8, g9, ?_, ?_, Or.inl ⟨rfl, rfl, rfl⟩, h', Or.inl ⟨rfl, rfl, rfl⟩⟩
    · simp (disch := omega) only [S_Desk_compile, S_Finds_forget, S_States_forget, S_Grammar_ruleCount, i_lit, nI_ltI, nI_leI, nI_eq, nI_add, pk_mul, pk_sub, nI_clamp, if_pos, if_neg, if_true, if_false, Option.bind_some, true_or, or_true, false_or, or_false, or_self, not_true_eq_false, not_false_eq_true, i_m1lt, i_m1le, i_nlt1, i_nle1, i_ne1, i_1ne]
    · simp (disch := omega) only [S_Model_compile, S_Model_forget, S_Model_fails, i_lit, nI_ltI, nI_leI, nI_eq, nI_add, pk_mul, pk_sub, nI_clamp, if_pos, if_neg, if_true, if_false, Option.bind_some, true_or, or_true, false_or, or_false, or_self, not_true_eq_false, not_false_eq_true, i_m1lt, i_m1le, i_nlt1, i_nle1, i_ne1, i_1ne]
  · have hn0 : 0 < n := by omega
    obtain ⟨l1, l2, l3, l4, -⟩ := hr 0 hn0
    -- which rules are used
    obtain ⟨fru, usd, a1, a2, a3⟩ := c_fu hn (f1 := f5) (f5 := f9) hGL hGS
    obtain ⟨g1', g2', g3', g9', b1, frm, b2, b3, b4, b5⟩ := m_prep hn (f1 := g1) (f2 := g2) (f3 := g3) (f7 := g9) hGLm hGSm
    obtain ⟨cJ, cF, cU⟩ := cu_end (n := n) (lf := lf) (ln := lnx n ln) (sy := syx lf sy) 11 (fun _ => false, fun _ => false) (by omega) ⟨fun x hx => (by cases hx), fun r hx => (by cases hx)⟩
    generalize hlim : lim (cuR n lf (lnx n ln) (syx lf sy)) 11 (fun _ => false, fun _ => false) = L at *
    have hfr : L.1 = frm := by
      funext x
      have := (cF x).trans (b3 x).symm
      cases e1 : L.1 x <;> cases e2 : frm x <;> simp_all
    have hus0 : ∀ r, r < n → L.2 r = hfd (syx lf sy) frm r (lnx n ln r) 0 := by
      intro r hr'
      have e1 : L.2 r = true ↔ hfd (syx lf sy) frm r (lnx n ln r) 0 = true := by
        rw [← hfr]
        exact ⟨fun h1 => (cJ.2 r h1).2.1, fun h1 => cU r hr' h1⟩
      cases e2 : L.2 r <;> cases e3 : hfd (syx lf sy) frm r (lnx n ln r) 0 <;> simp_all
    have husn : ∀ r, r < n → upB L.2 10 r = L.2 r := fun r hr' => upB_n _ (by omega)
    obtain ⟨fir, d1, d2⟩ := c_ff (us := upB L.2 10) hn (f1 := f4) (f5 := usd) hGL hGS (fun r hr' => by rw [husn r hr']; exact a3 r (by omega))
    have d3 := b5 (upB L.2 10) (fun r hr' => by rw [husn r hr']; exact hus0 r hr')
    -- the root
    have hF6 : upd f6 10 (-nI 1) 0 = nI (6 + lf 0) := by rw [pk_un (by omega)]; exact l3
    have hisf : S_Grammar_isFruitful (nI (6 + lf 0)) fru = some (bI (L.1 (lf 0))) := by
      have := a2 (lf 0) l1
      have e6 : 6 + lf 0 - 6 = lf 0 := by omega
      cases hc : L.1 (lf 0) with
      | true =>
        rw [hc, bI_t] at this
        simp (disch := omega) only [S_Grammar_isFruitful, e6, this, i_10, bI_t, i_lit, nI_ltI, nI_leI, nI_eq, nI_add, pk_mul, pk_sub, nI_clamp, if_pos, if_neg, if_true, if_false, Option.bind_some, true_or, or_true, false_or, or_false, or_self, not_true_eq_false, not_false_eq_true, i_m1lt, i_m1le, i_nlt1, i_nle1, i_ne1, i_1ne]
      | false =>
        rw [hc, bI_f] at this
        simp (disch := omega) only [S_Grammar_isFruitful, e6, this, bI_f, i_lit, nI_ltI, nI_leI, nI_eq, nI_add, pk_mul, pk_sub, nI_clamp, if_pos, if_neg, if_true, if_false, Option.bind_some, true_or, or_true, false_or, or_false, or_self, not_true_eq_false, not_false_eq_true, i_m1lt, i_m1le, i_nlt1, i_nle1, i_ne1, i_1ne]
    have hbb : bI (L.1 (lf 0)) = nI 0 ∨ bI (L.1 (lf 0)) = nI 1 := by
      cases L.1 (lf 0)
      · exact Or.inl rfl
      · exact Or.inr rfl
    have hprep : S_Grammar_prepare (nI n) f4 f5 f6 f7 f8 f9 = some (bI (L.1 (lf 0)), fir, fru, upd f6 10 (-nI 1), upd f7 40 (nI (6 + lf 0)), upd f8 10 (nI 1), upd usd 10 (nI 1)) := by
      simp (disch := omega) only [S_Grammar_prepare, a1, d1, hF6, hisf, hbb, i_nb1, i_lit, nI_ltI, nI_leI, nI_eq, nI_add, pk_mul, pk_sub, nI_clamp, if_pos, if_neg, if_true, if_false, Option.bind_some, true_or, or_true, false_or, or_false, or_self, not_true_eq_false, not_false_eq_true, i_m1lt, i_m1le, i_nlt1, i_nle1, i_ne1, i_1ne]
    have hcm : g1' (lf 0) = bI (L.1 (lf 0)) := by rw [hfr]; exact b2 (lf 0) l1
    -- what stays of the rules
    have hIRc : ∀ r, r < n → upd f6 10 (-nI 1) r = f6 r ∧ upd f8 10 (nI 1) r = f8 r ∧ ∀ k, k < 4 → upd f7 40 (nI (6 + lf 0)) (r * 4 + k) = f7 (r * 4 + k) := fun r hr' => ⟨pk_un (by omega), pk_un (by omega), fun k hk => pk_un (by omega)⟩
    cases hc : L.1 (lf 0) with
    | false =>
      rw [hc, bI_f] at hprep hcm
      refine ⟨nI 3, nI 2, nI 0, nI 0, nI 0, y11, nI 0, fir, fru, upd f6 10 (-nI 1), upd f7 40 (nI (6 + lf 0)), upd f8 10 (nI 1), upd usd 10 (nI 1), f10, f11, f12, g1', g2', g3', g4, g5, g6, g7, g8, g9', ?_, ?_, Or.inr (Or.inl ⟨rfl, rfl, rfl⟩), ⟨hn, rfl, rfl, fun r hr' => ?_, fun r h1 h2 => ?_⟩, Or.inl ⟨rfl, rfl, rfl⟩⟩
      · simp (disch := omega) only [S_Desk_compile, S_Finds_forget, S_States_forget, S_Grammar_ruleCount, hprep, i_lit, nI_ltI, nI_leI, nI_eq, nI_add, pk_mul, pk_sub, nI_clamp, if_pos, if_neg, if_true, if_false, Option.bind_some, true_or, or_true, false_or, or_false, or_self, not_true_eq_false, not_false_eq_true, i_m1lt, i_m1le, i_nlt1, i_nle1, i_ne1, i_1ne]
      · simp (disch := omega) only [S_Model_compile, S_Model_forget, S_Model_fails, b1, l4, hcm, i_lit, nI_ltI, nI_leI, nI_eq, nI_add, pk_mul, pk_sub, nI_clamp, if_pos, if_neg, if_true, if_false, Option.bind_some, true_or, or_true, false_or, or_false, or_self, not_true_eq_false, not_false_eq_true, i_m1lt, i_m1le, i_nlt1, i_nle1, i_ne1, i_1ne]
      · obtain ⟨c1, c2, c3, c4, c5, c6, c7⟩ := hr r hr'
        obtain ⟨e1, e2, e3⟩ := hIRc r hr'
        exact ⟨c1, c2, e1.trans c3, c4, e2.trans c5, c6, fun k hk => ⟨(c7 k hk).1, (e3 k (by omega)).trans (c7 k hk).2.1, (c7 k hk).2.2⟩⟩
      · rw [pk_un (by omega)]; exact hz r h1 h2
    | true =>
      rw [hc, bI_t] at hprep hcm
      -- the arrays of the reference
      have hG6 : ∀ r, r < 11 → fl (upd g6 10 (nI 1)) (fun _ => nI 0) n (10 - n) r = nI (lnx n ln r) := by
        intro r hr'
        by_cases e : r = 10
        · rw [e, fl_out (by omega), pk_us, lnx_10]
        · by_cases e2 : r < n
          · rw [fl_out (by omega), pk_un e, lnx_r hn e2]; exact (hr r e2).2.2.2.2.2.1
          · rw [fl_in (by omega) (by omega), lnx_0 (by omega) (by omega)]
      have hb10 : ∀ r, r < 11 → lnx n ln r ≤ 4 := by
        intro r hr'
        by_cases e : r = 10
        · rw [e, lnx_10]; omega
        · by_cases e2 : r < n
          · rw [lnx_r hn e2]; exact (hr r e2).2.1
          · rw [lnx_0 (by omega) (by omega)]; omega
      have hsym : ∀ r, r < 11 → ∀ k, k < lnx n ln r → syx lf sy r k < 12 ∧ upd f7 40 (nI (6 + lf 0)) (r * 4 + k) = nI (syx lf sy r k) ∧ upd g8 40 (nI (6 + lf 0)) (4 * r + k) = nI (syx lf sy r k) := by
        intro r hr' k hk
        by_cases e : r = 10
        · subst e
          rw [lnx_10] at hk
          have : k = 0 := by omega
          subst this
          rw [syx_10, pk_us, pk_us]
          exact ⟨by omega, rfl, rfl⟩
        · by_cases e2 : r < n
          · rw [lnx_r hn e2] at hk
            obtain ⟨c1, c2, c3, c4, c5, c6, c7⟩ := hr r e2
            obtain ⟨i1, i2, i3⟩ := c7 k hk
            rw [syx_r (by omega), pk_un (by omega), pk_un (by omega)]
            exact ⟨i1, i2, i3⟩
          · rw [lnx_0 (by omega) (by omega)] at hk; omega
      have hCC : CC n lf (lnx n ln) (syx lf sy) (upB L.2 10) (lim (fiR n lf (lnx n ln) (syx lf sy) (upB L.2 10)) 43 (fun _ => 0)) fir (upd f6 10 (-nI 1)) (upd f7 40 (nI (6 + lf 0))) (upd f8 10 (nI 1)) (upd usd 10 (nI 1)) := by
        refine ⟨hn, (fi_end (fun r hr' => (hr r hr').1) 43 (fun _ => 0) (by omega) (fun x => (by decide : (0 : Nat) < 128))).1, d2, fun r hr' => ⟨(hr r hr').1, (hIRc r hr').1.trans (hr r hr').2.2.1⟩, fun r hr' => ⟨hb10 r hr', ?_, fun k hk => ⟨(hsym r hr' k hk).1, (hsym r hr' k hk).2.1⟩⟩, RB_up a3 10, fun r h1 h2 => ?_⟩
        · by_cases e : r = 10
          · rw [e, pk_us, lnx_10]
          · rw [pk_un e]
            by_cases e2 : r < n
            · rw [lnx_r hn e2]; exact (hr r e2).2.2.2.2.1
            · rw [lnx_0 (by omega) (by omega)]; exact hz r (by omega) (by omega)
        · rw [upB_n _ (by omega)] at h2; exact (cJ.2 r h2).1
      have hCM : CM n lf (lnx n ln) (syx lf sy) (upB L.2 10) (lim (fiR n lf (lnx n ln) (syx lf sy) (upB L.2 10)) 43 (fun _ => 0)) g2' g3' (upd g5 10 (nI 6)) (fl (upd g6 10 (nI 1)) (fun _ => nI 0) n (10 - n)) (upd g8 40 (nI (6 + lf 0))) (upd g9' 10 (nI 1)) := by
        refine ⟨d3, fun r hr' => ⟨(hr r hr').1, by rw [pk_un (by omega)]; exact (hr r hr').2.2.2.1⟩, fun r hr' => ⟨hb10 r hr', hG6 r hr', fun k hk => ⟨(hsym r hr' k hk).1, (hsym r hr' k hk).2.2⟩⟩, fun r hr' => ?_⟩
        rw [pk_un (by omega), husn r hr', hus0 r hr']
        exact b4 r hr'
      have hGD : GD n lf (lnx n ln) (syx lf sy) (upB L.2 10) (lim (fiR n lf (lnx n ln) (syx lf sy) (upB L.2 10)) 43 (fun _ => 0)) := by
        refine ⟨hn, fun r hr' => ⟨(hr r hr').1, hb10 r (by omega), fun k hk => (hsym r (by omega) k hk).1⟩, ⟨lnx_10, syx_10 0, l1⟩, fun r h1 h2 => lnx_0 h1 h2, ⟨upB_s _ _, fun r hr' => ?_⟩, (cF (lf 0)).mp hc, rfl⟩
        rw [upB_n _ (by omega)]
        constructor
        · intro h1
          obtain ⟨j1, j2, j3⟩ := cJ.2 r h1
          exact ⟨j1, fun k hk => (hfd_0.mp j2 k hk).imp id (fun j4 => (cF _).mp j4)⟩
        · rintro ⟨j1, j2⟩
          exact cU r j1 (hfd_0.mpr (fun k hk => (j2 k hk).imp id (fun j4 => (cF _).mpr j4)))
      have k0 : ∀ d i k G4, i + d = 10 → n ≤ i → F_Model_compile (nI n) (k + (d + 1)) 0 (nI i) (nI 0) (nI 0) y11 (nI 0) (nI 0) (nI 0) g1' g2' g3' G4 (upd g5 10 (nI 6)) (fl (upd g6 10 (nI 1)) (fun _ => nI 0) n (i - n)) g7 (upd g8 40 (nI (6 + lf 0))) (upd g9' 10 (nI 1)) = F_Model_compile (nI n) k 1 (nI 0) (nI 0) (nI 0) y11 (nI 0) (nI 0) (nI 0) g1' g2' g3' G4 (upd g5 10 (nI 6)) (fl (upd g6 10 (nI 1)) (fun _ => nI 0) n (10 - n)) g7 (upd g8 40 (nI (6 + lf 0))) (upd g9' 10 (nI 1)) := by
        intro d
        induction d with
        | zero =>
          intro i k G4 hi hni
          have : i = 10 := by omega
          subst this
          show B_Model_compile_0 (F_Model_compile (nI n) k) (nI n) (nI 10) (nI 0) (nI 0) y11 (nI 0) (nI 0) (nI 0) g1' g2' g3' G4 (upd g5 10 (nI 6)) (fl (upd g6 10 (nI 1)) (fun _ => nI 0) n (10 - n)) g7 (upd g8 40 (nI (6 + lf 0))) (upd g9' 10 (nI 1)) = _
          simp (disch := omega) only [B_Model_compile_0, i_lit, nI_ltI, nI_leI, nI_eq, nI_add, pk_mul, pk_sub, nI_clamp, if_pos, if_neg, if_true, if_false, Option.bind_some, true_or, or_true, false_or, or_false, or_self, not_true_eq_false, not_false_eq_true, i_m1lt, i_m1le, i_nlt1, i_nle1, i_ne1, i_1ne]
        | succ d ih =>
          intro i k G4 hi hni
          rw [← ih (i + 1) k G4 (by omega) (by omega)]
          have hu := fl_up (upd g6 10 (nI 1)) (fun _ => nI 0) n (i - n)
          rw [show n + (i - n) = i by omega, show i - n + 1 = i + 1 - n by omega] at hu
          show B_Model_compile_0 (F_Model_compile (nI n) (k + (d + 1))) (nI n) (nI i) (nI 0) (nI 0) y11 (nI 0) (nI 0) (nI 0) g1' g2' g3' G4 (upd g5 10 (nI 6)) (fl (upd g6 10 (nI 1)) (fun _ => nI 0) n (i - n)) g7 (upd g8 40 (nI (6 + lf 0))) (upd g9' 10 (nI 1)) = _
          simp (disch := omega) only [B_Model_compile_0, hu, i_lit, nI_ltI, nI_leI, nI_eq, nI_add, pk_mul, pk_sub, nI_clamp, if_pos, if_neg, if_true, if_false, Option.bind_some, true_or, or_true, false_or, or_false, or_self, not_true_eq_false, not_false_eq_true, i_m1lt, i_m1le, i_nlt1, i_nle1, i_ne1, i_1ne]
      have hG5 : upd g5 10 (nI 6) 0 = nI (lf 0) := by rw [pk_un (by omega)]; exact l4
      have hmod : ∀ C k, fuel_ = k + C + (10 - n + 1) → S_Model_compile y0 (nI n) y11 y12 y22 y23 g1 g2 g3 g4 g5 g6 g7 g8 g9 = F_Model_compile (nI n) (k + C) 1 (nI 0) (nI 0) (nI 0) y11 (nI 0) (nI 0) (nI 0) g1' g2' g3' g4 (upd g5 10 (nI 6)) (fl (upd g6 10 (nI 1)) (fun _ => nI 0) n (10 - n)) g7 (upd g8 40 (nI (6 + lf 0))) (upd g9' 10 (nI 1)) := by
        intro C k hk
        have := k0 (10 - n) n (k + C) g4 (by omega) (Nat.le_refl _)
        rw [Nat.sub_self, fl_0] at this
        rw [← this, ← hk]
        simp (disch := omega) only [S_Model_compile, S_Model_forget, b1, l4, hcm, i_10, i_nb1, hG5, i_lit, nI_ltI, nI_leI, nI_eq, nI_add, pk_mul, pk_sub, nI_clamp, if_pos, if_neg, if_true, if_false, Option.bind_some, true_or, or_true, false_or, or_false, or_self, not_true_eq_false, not_false_eq_true, i_m1lt, i_m1le, i_nlt1, i_nle1, i_ne1, i_1ne]
      have hIR' : IR n lf ln sy (nI n) (upd f6 10 (-nI 1)) (upd f7 40 (nI (6 + lf 0))) (upd f8 10 (nI 1)) (nI n) (upd g5 10 (nI 6)) (fl (upd g6 10 (nI 1)) (fun _ => nI 0) n (10 - n)) (upd g8 40 (nI (6 + lf 0))) := by
        refine ⟨hn, rfl, rfl, fun r hr' => ?_, fun r h1 h2 => ?_⟩
        · obtain ⟨c1, c2, c3, c4, c5, c6, c7⟩ := hr r hr'
          obtain ⟨e1, e2, e3⟩ := hIRc r hr'
          refine ⟨c1, c2, e1.trans c3, ?_, e2.trans c5, ?_, fun k hk => ⟨(c7 k hk).1, (e3 k (by omega)).trans (c7 k hk).2.1, ?_⟩⟩
          · rw [pk_un (by omega)]; exact c4
          · rw [hG6 r (by omega), lnx_r hn hr']
          · rw [pk_un (by omega)]; exact (c7 k hk).2.2
        · rw [pk_un (by omega)]; exact hz r h1 h2
      rcases j_build (h1 := g1') (y0 := nI 0) (y11 := y11) (y12 := nI 0) (y22 := nI 0) (y23 := nI 0) (x3 := nI 0) (x4 := nI 0) hCC hCM hGD f10 f11 f12 g4 g7 with ⟨m, x4', red, sets, tgt, fol, nxt, C, j1, j2, j3, j4⟩ | ⟨red, sets, tgt, z11, fol, nxt, C, j1, j2, j3⟩
      · obtain ⟨k, hk⟩ := fuelled (k := C + (10 - n + 1)) (by omega)
        have hM := (hmod C k (by omega)).trans (j3 k)
        refine ⟨nI 0, nI 0, nI m, nI m, x4', nI m, nI m, fir, fru, _, _, _, upd usd 10 (nI 1), red, sets, tgt, g1', g2', g3', fol, _, _, nxt, _, upd g9' 10 (nI 1), ?_, hM, Or.inr (Or.inr ⟨rfl, rfl⟩), hIR', j4⟩
        simp (disch := omega) only [S_Desk_compile, S_Finds_forget, S_States_forget, S_Grammar_ruleCount, hprep, i_10, j1, S_States_stateCount, i_lit, nI_ltI, nI_leI, nI_eq, nI_add, pk_mul, pk_sub, nI_clamp, if_pos, if_neg, if_true, if_false, Option.bind_some, true_or, or_true, false_or, or_false, or_self, not_true_eq_false, not_false_eq_true, i_m1lt, i_m1le, i_nlt1, i_nle1, i_ne1, i_1ne]
      · obtain ⟨k, hk⟩ := fuelled (k := C + (10 - n + 1)) (by omega)
        have hM := (hmod C k (by omega)).trans (j3 k)
        refine ⟨nI 3, nI 2, nI 0, nI 0, nI 0, z11, nI 0, fir, fru, _, _, _, upd usd 10 (nI 1), red, sets, tgt, g1', g2', g3', fol, _, _, nxt, _, upd g9' 10 (nI 1), ?_, hM, Or.inr (Or.inl ⟨rfl, rfl, rfl⟩), hIR', Or.inl ⟨rfl, rfl, rfl⟩⟩
        simp (disch := omega) only [S_Desk_compile, S_Finds_forget, S_States_forget, S_Grammar_ruleCount, hprep, i_10, j1, i_lit, nI_ltI, nI_leI, nI_eq, nI_add, pk_mul, pk_sub, nI_clamp, if_pos, if_neg, if_true, if_false, Option.bind_some, true_or, or_true, false_or, or_false, or_self, not_true_eq_false, not_false_eq_true, i_m1lt, i_m1le, i_nlt1, i_nle1, i_ne1, i_1ne]
end
