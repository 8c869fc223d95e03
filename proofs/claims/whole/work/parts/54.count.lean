/-! how many moves there are between two letters -/
theorem stp6 : stp 6 = 1365 := rfl
def LRD.lp (g : LRD) (B t q0 : Nat) (T0 : List Nat) (q1 V : Nat) : Prop := ∃ i qV, 0 < i ∧ g.tg q0 (6 + V) = some qV ∧ g.rn B t i (qV :: q0 :: T0) = some (q1 :: q0 :: T0)
def LRD.ab (g : LRD) (T : List Nat) (b V : Nat) : Prop := ∃ SV c, g.vf c SV ∧ g.op V SV ∧ T.length < SV.length ∧ ∃ B k, g.rc B b k T SV
def LRD.ga (g : LRD) (B t q0 : Nat) (T0 : List Nat) (q1 Z : Nat) (U : List Nat) : Prop := U.Nodup ∧ (∀ V ∈ U, V < 6) ∧
  (((∀ r p u, g.I q0 r (p + 1) u → g.sy r p < 6) ∧ ∀ V ∈ U, g.lp B t q0 T0 q1 V) ∨ ∃ b, b < 6 ∧ g.fi Z b ∧ ∀ V ∈ U, g.fi V b ∧ (g.lp B t q0 T0 q1 V ∨ g.ab (q0 :: T0) b V))
theorem LRD.op_tg {g : LRD} (h : g.ok) {q V qV : Nat} {T : List Nat} (hq : q < g.m) (hV : V < 6) (ht : g.tg q (6 + V) = some qV) : g.op V (q :: T) := by
  rcases h.2.2.2.2.1 q (6 + V) hq (by omega) with ⟨h5, _⟩ | ⟨q3, h5, _, h6, ⟨r, p, u, a1, a2, a3⟩, _⟩
  · rw [h5] at ht; cases ht
  · exact ⟨r, p, u, a1, a2, a3⟩
theorem LRD.cb {g : LRD} (h : g.ok) {B t : Nat} (ht : t ≤ 6) : ∀ K k q0 (T0 : List Nat) r q1 U E, g.vf k (q0 :: T0) → g.I q0 r 0 t → r < 10 → g.tg q0 (6 + g.lf r) = some q1 → T0.length + 42 ≤ B → g.rn B t K (q1 :: q0 :: T0) = some E → g.mv B t E = none → g.ga B t q0 T0 q1 (g.lf r) U →
    U.length ≤ 5 ∧ K ≤ (6 * k + (5 - U.length)) * 4096 + 28665 := by
  intro K
  induction K using Nat.strongRecOn with
  | _ K ih =>
    intro k q0 T0 r q1 U E hv hi hr hq1 hB hK hE hG
    obtain ⟨g1, g2, g3⟩ := hG
    have hq := LRD.vf_m h _ _ _ hv
    have hu := h.2.1 q0 r 0 t hq hi
    have hlr := (h.1.1 r hu.1 hr).1
    obtain ⟨r', p', u', a1, a2, a3, a4⟩ := LRD.par h hq hi hr
    have hur := h.2.1 q0 r' p' u' hq a1
    have hop : g.op (g.lf r) (q0 :: T0) := ⟨r', p', u', a1, a2, a3⟩
    have nl : ¬ g.lp B t q0 T0 q1 (g.lf r) := by
      rintro ⟨i, qV, b1, b2, b3⟩
      rw [hq1] at b2
      cases b2
      exact LRD.no_loop b1 b3 hE K hK
    have hni : g.lf r ∉ U := by
      intro hm
      rcases g3 with ⟨_, g4⟩ | ⟨b, hb, g4, g5⟩
      · exact nl (g4 _ hm)
      · rcases (g5 _ hm).2 with g6 | ⟨SV, c, b1, b2, b3, B2, k2, b4⟩
        · exact nl g6
        · have := LRD.uq h hb g4 hv b1 hop b2 b4
          omega
    have hlen := nodup_lt 6 (g.lf r :: U) (List.nodup_cons.mpr ⟨hni, g1⟩) (fun x hx => by
      rcases List.mem_cons.mp hx with rfl | hx
      · exact hlr
      · exact g2 x hx)
    simp only [List.length_cons] at hlen
    refine ⟨by omega, ?_⟩
    obtain ⟨c1, hv1⟩ := LRD.vf_go h hv a1 a2 (by rw [a3]; exact hq1)
    rcases LRD.next h hv a1 a2 a3 a4 ht hq1 hB with ⟨q', S', ⟨j, hj, ej⟩, b2⟩ | ⟨b0, b1, b2, q00, T00, q11, d, d1, d2, d3, d4, d5, d6⟩
    · have hq' := LRD.vf_m h _ _ _ (LRD.rc_vf h ht j _ _ hv1 ej)
      have := (LRD.rn_end hK ej (LRD.at_mv h hq' b2)).1
      rw [stp6] at hj
      omega
    · obtain ⟨e1, e2⟩ := LRD.rn_end d6 hK hE
      rw [stp6] at d2
      have hnod : (g.lf r :: U).Nodup := List.nodup_cons.mpr ⟨hni, g1⟩
      have hlt6 : ∀ V ∈ (g.lf r :: U), V < 6 := fun x hx => by
        rcases List.mem_cons.mp hx with rfl | hx
        · exact hlr
        · exact g2 x hx
      have hl4 := (h.1.1 r' b2 b1).2.1
      by_cases e : p' = 0
      · subst e
        have d3' : q0 :: T0 = q00 :: T00 := d3
        cases d3'
        have lpn : ∀ V, g.lp B t q0 T0 q1 V → g.lp B t q0 T0 q11 V := by
          rintro V ⟨i, qV, f1, f2, f3⟩
          exact ⟨i + d, qV, by omega, f2, by rw [g.rn_add, f3]; exact d6⟩
        have lpz : g.lp B t q0 T0 q11 (g.lf r) := ⟨d, q1, d1, hq1, d6⟩
        have hG' : g.ga B t q0 T0 q11 (g.lf r') (g.lf r :: U) := by
          refine ⟨hnod, hlt6, ?_⟩
          rcases g3 with ⟨g3, g4⟩ | ⟨b, hb, g4, g5⟩
          · left
            refine ⟨g3, fun V hV => ?_⟩
            rcases List.mem_cons.mp hV with rfl | hV
            · exact lpz
            · exact lpn V (g4 V hV)
          · right
            refine ⟨b, hb, h.1.2.2.2.2.1 b r' hb b2 b1 (LRD.la_of a2 a3 g4 (fun i hi => absurd hi (by omega))), fun V hV => ?_⟩
            rcases List.mem_cons.mp hV with rfl | hV
            · exact ⟨g4, Or.inl lpz⟩
            · exact ⟨(g5 V hV).1, (g5 V hV).2.imp (lpn V) id⟩
        obtain ⟨f1, f2⟩ := ih (K - d) (by omega) k q0 T0 r' q11 (g.lf r :: U) E hv d4 b1 d5 hB e2 hE hG'
        simp only [List.length_cons] at f1 f2
        omega
      · obtain ⟨q0', T0', k0, h1, h2, h3, h4, h5⟩ := LRD.bt h p' k T0 q0 r' u' hv a1
        rw [h1] at d3
        cases d3
        rcases h5 with ⟨h5, h6⟩ | ⟨h5, i, b0', h6, h7, h8, h9⟩
        · subst h5
          rcases g3 with ⟨g3, g4⟩ | ⟨b, hb, g4, g5⟩
          · exfalso
            obtain ⟨p2, rfl⟩ : ∃ p2, p' = p2 + 1 := ⟨p' - 1, by omega⟩
            have := g3 r' p2 u' a1
            have := (h6 p2 (by omega)).1
            omega
          · obtain ⟨B2, j2, hre⟩ := LRD.reach h hb hv a1 a2 h1 h2 h3 h4 h6 (show g.fS (g.sy r' p') b from Or.inr ⟨by omega, by rw [a3, show 6 + g.lf r - 6 = g.lf r by omega]; exact g4⟩)
            have hG' : g.ga B t q00 T00 q11 (g.lf r') (g.lf r :: U) := by
              refine ⟨hnod, hlt6, Or.inr ⟨b, hb, h.1.2.2.2.2.1 b r' hb b2 b1 (LRD.la_of a2 a3 g4 h6), fun V hV => ?_⟩⟩
              rcases List.mem_cons.mp hV with rfl | hV
              · exact ⟨g4, Or.inr ⟨q0 :: T0, k0, hv, hop, by simp only [List.length_cons]; omega, B2, j2, hre⟩⟩
              · refine ⟨(g5 V hV).1, Or.inr ?_⟩
                rcases (g5 V hV).2 with ⟨i, qV, f1, f2, f3⟩ | ⟨SV, c, f1, f2, f3, B3, k3, f4⟩
                · exact ⟨q0 :: T0, k0, hv, LRD.op_tg h hq (g2 V hV) f2, by simp only [List.length_cons]; omega, B2, j2, hre⟩
                · exact ⟨SV, c, f1, f2, by simp only [List.length_cons] at f3 ⊢; omega, LRD.rc_trB hre f4⟩
            obtain ⟨f1, f2⟩ := ih (K - d) (by omega) k0 q00 T00 r' q11 (g.lf r :: U) E h3 d4 b1 d5 (by omega) e2 hE hG'
            simp only [List.length_cons] at f1 f2
            omega
        · have hG' : g.ga B t q00 T00 q11 (g.lf r') [] :=
            ⟨List.nodup_nil, fun V hV => (by cases hV), Or.inr ⟨b0', h7, h.1.2.2.2.2.1 b0' r' h7 b2 b1 ⟨i, by omega, by omega, fun j _ hj => h9 j hj, h8⟩, fun V hV => (by cases hV)⟩⟩
          obtain ⟨f1, f2⟩ := ih (K - d) (by omega) k0 q00 T00 r' q11 [] E h3 d4 b1 d5 (by omega) e2 hE hG'
          simp only [List.length_nil] at f1 f2
          omega
/-- the moves before one letter: from a stack whose top was read, or the first one; k letters were read -/
theorem LRD.moves {g : LRD} (h : g.ok) {k q t r : Nat} {S : List Nat} (hv : g.vf k (q :: S)) (htop : ∀ r p u, g.I q r (p + 1) u → g.sy r p < 6) (hk : k ≤ 19) (ht : t ≤ 6) (hr : g.rd q t = some r) (h10 : r ≠ 10) (hB : S.length + 42 ≤ 399) :
    ∃ K q' S', K ≤ 520000 ∧ g.rn 399 t K (q :: S) = some (q' :: S') ∧ g.at_ t q' ∧ g.vf k (q' :: S') := by
  obtain ⟨K, q', S', ⟨j, hj, ej⟩, ha⟩ := LRD.fin_all h hv ht hr h10 hB
  have hv' := LRD.rc_vf h ht j _ _ hv ej
  have hmv := LRD.at_mv (B := 399) (S := S') h (LRD.vf_m h _ _ _ hv') ha
  refine ⟨j, q', S', ?_, ej, ha, hv'⟩
  have hq := LRD.vf_m h _ _ _ hv
  have hi := (h.2.2.2.2.2.2.1 q t r hq ht).mp hr
  have hu := h.2.1 q r _ t hq hi
  obtain ⟨q0, T0, k0, b1, b2, b3, b4, b5⟩ := LRD.bt h (g.ln r) k S q r t hv hi
  obtain ⟨q0', T0', q1, d1, d2, d3, d4, d5, d6, -⟩ := LRD.red h hv ht hi h10
  rw [b1] at d1
  cases d1
  have e1 : g.rn 399 t 1 (q :: S) = some (q1 :: q0 :: T0) := by
    show (g.mv 399 t (q :: S)).bind (g.rn 399 t 0) = _
    rw [d5 399 (by omega)]; rfl
  obtain ⟨f1, f2⟩ := LRD.rn_end e1 ej hmv
  have hk0 : k0 ≤ k := by rcases b5 with ⟨b5, _⟩ | ⟨b5, _⟩ <;> omega
  have hG : g.ga 399 t q0 T0 q1 (g.lf r) [] := by
    refine ⟨List.nodup_nil, fun V hV => (by cases hV), ?_⟩
    rcases b5 with ⟨b5, b6⟩ | ⟨b5, i, b, b6, b7, b8, b9⟩
    · left
      refine ⟨?_, fun V hV => (by cases hV)⟩
      have hl0 : g.ln r = 0 := by
        apply Classical.byContradiction
        intro hne
        obtain ⟨p2, hp2⟩ : ∃ p2, g.ln r = p2 + 1 := ⟨g.ln r - 1, by omega⟩
        rw [hp2] at hi
        have := htop r p2 t hi
        have := (b6 p2 (by omega)).1
        omega
      rw [hl0] at b1
      have b1' : q :: S = q0 :: T0 := b1
      cases b1'
      exact htop
    · right
      exact ⟨b, b7, h.1.2.2.2.2.1 b r b7 hu.1 (by omega) ⟨i, by omega, b6, fun j _ hj => b9 j hj, b8⟩, fun V hV => (by cases hV)⟩
  obtain ⟨-, f3⟩ := LRD.cb h ht (j - 1) k0 q0 T0 r q1 [] (q' :: S') b3 b4 (by omega) d4 (by omega) f2 hmv hG
  simp only [List.length_nil] at f3
  omega
