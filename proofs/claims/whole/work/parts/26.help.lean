/-! the rows that the law's helpers need: a call that may throw, caught -/
theorem rd_tab {l : List ExceptionTableEntry} {h : List (Nat × Nat × Nat × Nat)} (e : l.map (fun h => (h.startPc, h.endPc, h.handlerPc, h.catchType)) = h) : l = h.map (fun q => ⟨q.1, q.2.1, q.2.2.1, q.2.2.2⟩) := by
  rw [← e, List.map_map]
  exact (List.map_id l).symm
theorem rd_keep {st₀ t : State} {H H1 H0 : Heap} {locs L : List Loc} {A0 A1 : Nat → Prop} (h0 : st₀.heap = H) (e1 : t.heap = H1) (hS : va_S A0 H0 H locs) (hA : ∀ q, A1 q → A0 q) (hL : ∀ z ∈ L, A1 z.base) (hF : va_F A1 st₀ t) :
    H.size ≤ H1.size ∧ (∀ q : Nat, q < H.size → ¬ A1 q → H1[q]? = H[q]?) ∧ va_S A0 H0 H1 (locs ++ L) := by
  obtain ⟨hz, hk⟩ := hF
  rw [h0, e1] at hz hk
  refine ⟨hz, hk, Nat.le_trans hS.1 hz, fun q h1 h2 => ?_, fun z hz2 => ?_⟩
  · rw [hk q (Nat.lt_of_lt_of_le h1 hS.1) (fun y => h2 (hA q y))]
    exact hS.2.1 q h1 h2
  · rcases List.mem_append.mp hz2 with h | h
    · exact hS.2.2 z h
    · exact hA _ (hL z h)
theorem rd_self {sa : Nat → Nat} {s : State} {args : Array Value} (hX : rd_X sa s) {E : String} (h : (.castable E E : Cond) ∈ xwl_) : (Cond.castable E E).before args s = true := by
  have h1 := hX.1 _ h rfl
  have e9 := Cond.onTables_vm (A := #[]) (A' := args) (U := s) (U' := s) s.vm (.castable E E) rfl
  rw [State.setVm_self] at e9
  rw [← e9]; exact h1
theorem rd_k0 (E : String) : ¬ ((0 : Int32), E) ∈ xk_ := by
  simp only [xk_, List.mem_cons, Prod.mk.injEq, List.not_mem_nil, or_false]
  rintro (⟨h, -⟩ | ⟨h, -⟩ | ⟨h, -⟩ | ⟨h, -⟩) <;> exact absurd h (by decide)
theorem rd_k1 {E : String} (h : ((1 : Int32), E) ∈ xk_) : E = xI := by
  simp only [xk_, List.mem_cons, Prod.mk.injEq, List.not_mem_nil, or_false] at h
  rcases h with ⟨-, h⟩ | ⟨h, -⟩ | ⟨h, -⟩ | ⟨h, -⟩
  · exact h
  all_goals exact absurd h (by decide)
theorem rd_k2 {E : String} (h : ((2 : Int32), E) ∈ xk_) : E = xS := by
  simp only [xk_, List.mem_cons, Prod.mk.injEq, List.not_mem_nil, or_false] at h
  rcases h with ⟨h, -⟩ | ⟨-, h⟩ | ⟨h, -⟩ | ⟨h, -⟩
  · exact absurd h (by decide)
  · exact h
  all_goals exact absurd h (by decide)
theorem rd_k3 {E : String} (h : ((3 : Int32), E) ∈ xk_) : E = xU := by
  simp only [xk_, List.mem_cons, Prod.mk.injEq, List.not_mem_nil, or_false] at h
  rcases h with ⟨h, -⟩ | ⟨h, -⟩ | ⟨-, h⟩ | ⟨h, -⟩
  · exact absurd h (by decide)
  · exact absurd h (by decide)
  · exact h
  · exact absurd h (by decide)
theorem rd_k4 {E : String} (h : ((4 : Int32), E) ∈ xk_) : E = xN := by
  simp only [xk_, List.mem_cons, Prod.mk.injEq, List.not_mem_nil, or_false] at h
  rcases h with ⟨h, -⟩ | ⟨h, -⟩ | ⟨h, -⟩ | ⟨-, h⟩
  · exact absurd h (by decide)
  · exact absurd h (by decide)
  · exact absurd h (by decide)
  · exact h
-- ===== RepairDeskLaw.rule(LRepairDesk;[J)I
def w_Law_rule : List Cond := .codeWith y_Law_rule b_Law_rule 3 (some .int) [(0, 8, 11, 13), (0, 8, 14, 15)] :: gw
abbrev rm_Law_rule : Room := { frames := 7, cells := 1, slots := 6, locals := 112 }
set_option maxHeartbeats 4000000 in
set_option maxRecDepth 100000 in
theorem c_Law_rule (l : Launch) (hlt : l.stackTraces = false) (dC : Nat → ClassId) (dI : Nat → Nat → Nat) (kA : Nat → ClassId) (sa : Nat → Nat) (sz : Nat) (a0 a1 a2 a3 a4 a5 a6 a7 a8 a9 : Nat) (v0_3 v0_4 v0_5 v0_7 v1_0 v1_1 v1_2 v2_3 v2_4 v2_5 v4_0 v4_1 v4_2 : Value) (x1_3 : Int32) (x1_4 : Int32) (x1_5 : Int32) (x2_6 : Int32) (x3_1 : Int32) (x4_3 : Int32) (x4_4 : Int32) (f5 : (Nat → Int32)) (f6 : (Nat → Int32)) (f7 : (Nat → Int32)) (f8 : (Nat → Int32)) (gl : Nat → Int64) (k r : Int32) (ox1_3 : Int32) (ox1_4 : Int32) (ox1_5 : Int32) (ox2_6 : Int32) (ox3_1 : Int32) (ox4_3 : Int32) (ox4_4 : Int32) (of5 : (Nat → Int32)) (of6 : (Nat → Int32)) (of7 : (Nat → Int32)) (cd : Int32) (hF : S_Desk_rule x1_3 x1_4 x1_5 x2_6 x3_1 x4_3 x4_4 f5 f6 f7 f8 = some (k, r, ox1_3, ox1_4, ox1_5, ox2_6, ox3_1, ox4_3, ox4_4, of5, of6, of7)) (hk : k = 0 ∧ cd = 0 ∨ k = 1 ∧ cd = 1 ∨ k = 2 ∧ cd = 2) : Met l y_Law_rule w_Law_rule rm_Law_rule (va_Pc [.ref a0, .ref a9] (fun U => U.heap.size = sz ∧ va_P (dC, dI) classes (wd_Desk_rule kA a0 a1 a2 a3 a4 a5 a6 a7 a8 v0_3 v0_4 v0_5 v0_7 v1_0 v1_1 v1_2 v2_3 v2_4 v2_5 v4_0 v4_1 v4_2 x1_3 x1_4 x1_5 x2_6 x3_1 x4_3 x4_4 f5 f6 f7 f8 ++ [(a9, .inl (kA 3, 1, .inr (.inl gl)))]) U.heap ∧ va_K (dC, dI) classes (tys_ kA) U ∧ va_D (fun _ => True) (wd_Desk_rule kA a0 a1 a2 a3 a4 a5 a6 a7 a8 v0_3 v0_4 v0_5 v0_7 v1_0 v1_1 v1_2 v2_3 v2_4 v2_5 v4_0 v4_1 v4_2 x1_3 x1_4 x1_5 x2_6 x3_1 x4_3 x4_4 f5 f6 f7 f8 ++ [(a9, .inl (kA 3, 1, .inr (.inl gl)))]) ∧ rd_X sa U ∧ rd_St (va_A (wd_Desk_rule kA a0 a1 a2 a3 a4 a5 a6 a7 a8 v0_3 v0_4 v0_5 v0_7 v1_0 v1_1 v1_2 v2_3 v2_4 v2_5 v4_0 v4_1 v4_2 x1_3 x1_4 x1_5 x2_6 x3_1 x4_3 x4_4 f5 f6 f7 f8 ++ [(a9, .inl (kA 3, 1, .inr (.inl gl)))]) sz) U U.heap)) (va_Qi (fun (r1 : Int32) (_ : Unit) => r1 = cd) (fun _ t => va_P (dC, dI) classes (wd_Desk_rule kA a0 a1 a2 a3 a4 a5 a6 a7 a8 v0_3 v0_4 v0_5 v0_7 v1_0 v1_1 v1_2 v2_3 v2_4 v2_5 v4_0 v4_1 v4_2 ox1_3 ox1_4 ox1_5 ox2_6 ox3_1 ox4_3 ox4_4 of5 of6 of7 f8 ++ [(a9, .inl (kA 3, 1, .inr (.inl (if k = 0 then vp_updL gl 0 r.toInt64 else gl))))]) t.heap ∧ va_K (dC, dI) classes (tys_ kA) t ∧ va_D (va_A (wd_Desk_rule kA a0 a1 a2 a3 a4 a5 a6 a7 a8 v0_3 v0_4 v0_5 v0_7 v1_0 v1_1 v1_2 v2_3 v2_4 v2_5 v4_0 v4_1 v4_2 x1_3 x1_4 x1_5 x2_6 x3_1 x4_3 x4_4 f5 f6 f7 f8 ++ [(a9, .inl (kA 3, 1, .inr (.inl gl)))]) sz) (wd_Desk_rule kA a0 a1 a2 a3 a4 a5 a6 a7 a8 v0_3 v0_4 v0_5 v0_7 v1_0 v1_1 v1_2 v2_3 v2_4 v2_5 v4_0 v4_1 v4_2 ox1_3 ox1_4 ox1_5 ox2_6 ox3_1 ox4_3 ox4_4 of5 of6 of7 f8 ++ [(a9, .inl (kA 3, 1, .inr (.inl (if k = 0 then vp_updL gl 0 r.toInt64 else gl))))])) (va_A (wd_Desk_rule kA a0 a1 a2 a3 a4 a5 a6 a7 a8 v0_3 v0_4 v0_5 v0_7 v1_0 v1_1 v1_2 v2_3 v2_4 v2_5 v4_0 v4_1 v4_2 x1_3 x1_4 x1_5 x2_6 x3_1 x4_3 x4_4 f5 f6 f7 f8 ++ [(a9, .inl (kA 3, 1, .inr (.inl gl)))]) sz)) 1 6 (va_A (wd_Desk_rule kA a0 a1 a2 a3 a4 a5 a6 a7 a8 v0_3 v0_4 v0_5 v0_7 v1_0 v1_1 v1_2 v2_3 v2_4 v2_5 v4_0 v4_1 v4_2 x1_3 x1_4 x1_5 x2_6 x3_1 x4_3 x4_4 f5 f6 f7 f8 ++ [(a9, .inl (kA 3, 1, .inr (.inl gl)))]) sz) := by
  refine va_MetW (cc := b_Law_rule) (maxL := 3) (ret := some .int) (hh := [(0, 8, 11, 13), (0, 8, 14, 15)]) (by decide) rfl ?_
  intro p e s m args below meth c s₁ B hml hv
  obtain ⟨rfl, hsz, hP, hK, hD0, hX, hSt⟩ := hv
  have hx := B.exec
  have hb := B.bytes
  have hr := B.returns
  have hts := atoms_spec (ws := w_Law_rule) B.pre
  have hown : s.vm.findClass R_Law = some m.cls := findClass_of_methodNamed B.named
  have hg := fun (w : Cond) (h : w ∈ gw) => hts w (List.mem_cons_of_mem _ h)
  have htab : c.exceptionTable.toList = [⟨0, 8, 11, 13⟩, ⟨0, 8, 14, 15⟩] := by
    obtain ⟨m9, meth9, c9, hn9, g1, g2, -, -, g5, -⟩ := Cond.codeWith_spec (hts _ List.mem_cons_self)
    cases B.named.symm.trans hn9; cases B.method.symm.trans g1; cases (Stand.of_body B).code.symm.trans g2
    exact rd_tab g5
  have hlocks := B.notSynchronized
  subst hsz
  have hD := hD0.self (sz := s.heap.size)
  generalize hAe : va_A (wd_Desk_rule kA a0 a1 a2 a3 a4 a5 a6 a7 a8 v0_3 v0_4 v0_5 v0_7 v1_0 v1_1 v1_2 v2_3 v2_4 v2_5 v4_0 v4_1 v4_2 x1_3 x1_4 x1_5 x2_6 x3_1 x4_3 x4_4 f5 f6 f7 f8 ++ [(a9, .inl (kA 3, 1, .inr (.inl gl)))]) s.heap.size = A at hD hSt ⊢
  have hA : ∀ q : Nat, s.heap.size ≤ q → A q := fun q h => by rw [← hAe]; exact Or.inr h
  have hS : va_S A s.heap s.heap [] := va_S.rf
  have hl := lv_entry ([.ref a0, .ref a9]) (n := 3) (Nat.le_of_ble_eq_true rfl)
  rw [lg_entry_eq]
  generalize (lg_sl ([.ref a0, .ref a9]) ++ List.replicate (3 - (lg_sl ([.ref a0, .ref a9])).length) Slot.unset).toArray = ls at hl ⊢
  have hl : lv_has ls 3 [(0, .ref a0), (1, .ref a9)] := hl
  refine lv_aload_n hx hb d_Law_rule_0 rfl (lv_at hl 1 rfl) ?_
  refine lv_iconst (v := 0) hx hb d_Law_rule_1 (by decide) ?_
  refine lv_aload_n hx hb d_Law_rule_2 rfl (lv_at hl 0 rfl) ?_
  have hPc := hP.sub (ws' := (wd_Desk_rule kA a0 a1 a2 a3 a4 a5 a6 a7 a8 v0_3 v0_4 v0_5 v0_7 v1_0 v1_1 v1_2 v2_3 v2_4 v2_5 v4_0 v4_1 v4_2 x1_3 x1_4 x1_5 x2_6 x3_1 x4_3 x4_4 f5 f6 f7 f8)) [0, 1, 2, 3, 4, 5, 6, 7, 8] rfl
  have hDc := hD.sub (ws' := (wd_Desk_rule kA a0 a1 a2 a3 a4 a5 a6 a7 a8 v0_3 v0_4 v0_5 v0_7 v1_0 v1_1 v1_2 v2_3 v2_4 v2_5 v4_0 v4_1 v4_2 x1_3 x1_4 x1_5 x2_6 x3_1 x4_3 x4_4 f5 f6 f7 f8)) [0, 1, 2, 3, 4, 5, 6, 7, 8] (by decide) rfl
  have hFc := va_free (wc := (wd_Desk_rule kA a0 a1 a2 a3 a4 a5 a6 a7 a8 v0_3 v0_4 v0_5 v0_7 v1_0 v1_1 v1_2 v2_3 v2_4 v2_5 v4_0 v4_1 v4_2 x1_3 x1_4 x1_5 x2_6 x3_1 x4_3 x4_4 f5 f6 f7 f8)) hD hS hA [0, 1, 2, 3, 4, 5, 6, 7, 8] rfl
  refine rd_callV (As := []) (rest := [.int 0, .ref a9]) ⟨hx, hb, hml, hown, hts⟩ (c_Desk_rule l hlt dC dI kA sa s.heap.size a0 a1 a2 a3 a4 a5 a6 a7 a8 v0_3 v0_4 v0_5 v0_7 v1_0 v1_1 v1_2 v2_3 v2_4 v2_5 v4_0 v4_1 v4_2 x1_3 x1_4 x1_5 x2_6 x3_1 x4_3 x4_4 f5 f6 f7 f8 k r ox1_3 ox1_4 ox1_5 ox2_6 ox3_1 ox4_3 ox4_4 of5 of6 of7 hF) (cwV 0 hts (gw_V gw_529 gw_530 gw_531 gw_418 gw_532) rfl rfl rfl (by decide +kernel) ⟨Nat.le_of_ble_eq_true rfl, Nat.le_of_ble_eq_true rfl⟩) ⟨fun a U g mk q => by obtain ⟨q0, q1, qP, qK, qD, qX, qS⟩ := q; exact ⟨q0, q1, qP, va_K.moved (u := U) (U := U.calling g mk a) (Vm.Alike.refl U.vm) qK, qD, rd_X.same (s := U) rfl qX, rd_St.moved (u := U) (U := U.calling g mk a) (Vm.Alike.refl U.vm) qS⟩, va_recv hK hP (ci := 8) (q0 := 0) rfl rfl, fun U hU hW => ⟨rfl, by rw [hU], by rw [hU]; exact hPc, va_K.moved hW.alike hK, hDc.weaken (fun _ _ _ _ => trivial), rd_X.warm hW hX, by rw [hU]; exact rd_St.moved hW.alike (rd_St.narrow (fun q _ h => hFc q h) hSt)⟩⟩ rfl hl.1 rfl (lv_room (Nat.le_of_ble_eq_true rfl)) d_Law_rule_3 ⟨Nat.le_of_ble_eq_true rfl, Nat.le_of_ble_eq_true rfl⟩ ?_ ?_
  · intro v st₀ t H1 L h0 ht hal hL hQ
    obtain ⟨hk0, hv, hB, hF9⟩ := hQ
    subst hv
    obtain ⟨hP1, hK1, hD1⟩ := hB
    obtain ⟨hz1, hk1, hS⟩ := rd_keep h0 ht hS hFc hL hF9
    rw [ht] at hP1
    obtain ⟨hP, hD⟩ := va_join (wr := [(a9, .inl (kA 3, 1, .inr (.inl gl)))]) (w1 := (wd_Desk_rule kA a0 a1 a2 a3 a4 a5 a6 a7 a8 v0_3 v0_4 v0_5 v0_7 v1_0 v1_1 v1_2 v2_3 v2_4 v2_5 v4_0 v4_1 v4_2 ox1_3 ox1_4 ox1_5 ox2_6 ox3_1 ox4_3 ox4_4 of5 of6 of7 f8)) hP hD [0, 1, 2, 3, 4, 5, 6, 7, 8] [9] rfl rfl (by decide) (by decide) hk1 hFc hP1 hD1
    have hP := hP.sub (ws' := (wd_Desk_rule kA a0 a1 a2 a3 a4 a5 a6 a7 a8 v0_3 v0_4 v0_5 v0_7 v1_0 v1_1 v1_2 v2_3 v2_4 v2_5 v4_0 v4_1 v4_2 ox1_3 ox1_4 ox1_5 ox2_6 ox3_1 ox4_3 ox4_4 of5 of6 of7 f8 ++ [(a9, .inl (kA 3, 1, .inr (.inl gl)))])) [1, 2, 3, 4, 5, 6, 7, 8, 9, 0] rfl
    have hD := hD.sub (ws' := (wd_Desk_rule kA a0 a1 a2 a3 a4 a5 a6 a7 a8 v0_3 v0_4 v0_5 v0_7 v1_0 v1_1 v1_2 v2_3 v2_4 v2_5 v4_0 v4_1 v4_2 ox1_3 ox1_4 ox1_5 ox2_6 ox3_1 ox4_3 ox4_4 of5 of6 of7 f8 ++ [(a9, .inl (kA 3, 1, .inr (.inl gl)))])) [1, 2, 3, 4, 5, 6, 7, 8, 9, 0] (by decide) rfl
    have hcd : cd = 0 := by rcases hk with ⟨h1, h2⟩ | ⟨h1, h2⟩ | ⟨h1, h2⟩ <;> first | exact h2 | (rw [h1] at hk0; exact absurd hk0 (by decide))
    rw [show (Option.some (Value.int r)).toList ++ [.int 0, .ref a9] = .int r :: [.int 0, .ref a9] from rfl]
    refine lv_i2l (v := r.toInt64) hx hb d_Law_rule_6 rfl ?_
    refine va_last hx hb hK hP hD hS 9 3 rfl rfl (by unfold vp_in; decide) d_Law_rule_7 (fun H locs hP hD hS => ?_)
    have hP : va_P (dC, dI) classes (wd_Desk_rule kA a0 a1 a2 a3 a4 a5 a6 a7 a8 v0_3 v0_4 v0_5 v0_7 v1_0 v1_1 v1_2 v2_3 v2_4 v2_5 v4_0 v4_1 v4_2 ox1_3 ox1_4 ox1_5 ox2_6 ox3_1 ox4_3 ox4_4 of5 of6 of7 f8 ++ [(a9, .inl (kA 3, 1, .inr (.inl (vp_updL gl 0 r.toInt64))))]) H := hP
    have hD : va_D A (wd_Desk_rule kA a0 a1 a2 a3 a4 a5 a6 a7 a8 v0_3 v0_4 v0_5 v0_7 v1_0 v1_1 v1_2 v2_3 v2_4 v2_5 v4_0 v4_1 v4_2 ox1_3 ox1_4 ox1_5 ox2_6 ox3_1 ox4_3 ox4_4 of5 of6 of7 f8 ++ [(a9, .inl (kA 3, 1, .inr (.inl (vp_updL gl 0 r.toInt64))))]) := hD
    refine lv_goto (tgt := 17) hx hb d_Law_rule_8 (by decide) ?_
    refine lv_iconst (v := 0) hx hb d_Law_rule_17 (by decide) ?_
    exact W.iret (v := 0) hx hb hr (fun t ht hW => ⟨⟨0, (), rfl, hcd.symm, by rw [ht, if_pos hk0]; exact hP, va_K.moved hW.alike hK, (by rw [if_pos hk0]; exact hD)⟩, hS.F ht⟩) hS.2.2 d_Law_rule_18 hlocks
  · intro q E ce st₀ t H1 L h0 ht hal hL hce hcv hcl hQ
    obtain ⟨hkE, hB, hF9⟩ := hQ
    obtain ⟨hP1, hK1, hD1⟩ := hB
    obtain ⟨hz1, hk1, hS⟩ := rd_keep h0 ht hS hFc hL hF9
    rw [ht] at hP1
    obtain ⟨hP, hD⟩ := va_join (wr := [(a9, .inl (kA 3, 1, .inr (.inl gl)))]) (w1 := (wd_Desk_rule kA a0 a1 a2 a3 a4 a5 a6 a7 a8 v0_3 v0_4 v0_5 v0_7 v1_0 v1_1 v1_2 v2_3 v2_4 v2_5 v4_0 v4_1 v4_2 ox1_3 ox1_4 ox1_5 ox2_6 ox3_1 ox4_3 ox4_4 of5 of6 of7 f8)) hP hD [0, 1, 2, 3, 4, 5, 6, 7, 8] [9] rfl rfl (by decide) (by decide) hk1 hFc hP1 hD1
    have hP := hP.sub (ws' := (wd_Desk_rule kA a0 a1 a2 a3 a4 a5 a6 a7 a8 v0_3 v0_4 v0_5 v0_7 v1_0 v1_1 v1_2 v2_3 v2_4 v2_5 v4_0 v4_1 v4_2 ox1_3 ox1_4 ox1_5 ox2_6 ox3_1 ox4_3 ox4_4 of5 of6 of7 f8 ++ [(a9, .inl (kA 3, 1, .inr (.inl gl)))])) [1, 2, 3, 4, 5, 6, 7, 8, 9, 0] rfl
    have hD := hD.sub (ws' := (wd_Desk_rule kA a0 a1 a2 a3 a4 a5 a6 a7 a8 v0_3 v0_4 v0_5 v0_7 v1_0 v1_1 v1_2 v2_3 v2_4 v2_5 v4_0 v4_1 v4_2 ox1_3 ox1_4 ox1_5 ox2_6 ox3_1 ox4_3 ox4_4 of5 of6 of7 f8 ++ [(a9, .inl (kA 3, 1, .inr (.inl gl)))])) [1, 2, 3, 4, 5, 6, 7, 8, 9, 0] (by decide) rfl
    rcases hk with ⟨hk1, hk2⟩ | ⟨hk1, hk2⟩ | ⟨hk1, hk2⟩
    · rw [hk1] at hkE; exact absurd hkE (rd_k0 E)
    · have hE : E = xI := rd_k1 (by rw [← hk1]; exact hkE)
      subst hE
      have hk0 : ¬ k = 0 := by rw [hk1]; decide
      refine rd_catch (own := R_Law) (name := xI) (E := xI) hown [] ⟨0, 8, 11, 13⟩ [⟨0, 8, 14, 15⟩] htab (fun y hy => nomatch hy) (by decide) (by decide) (hg _ gw_527) (rd_self hX (by decide +kernel)) hce hcv hcl ?_
      refine lv_astore_n (lv' := [(2, .ref q), (0, .ref a0), (1, .ref a9)]) hx hb d_Law_rule_11 rfl hl (by decide) rfl (fun ls hl => ?_)
      refine lv_iconst (v := 1) hx hb d_Law_rule_12 (by decide) ?_
      exact W.iret (v := 1) hx hb hr (fun t ht hW => ⟨⟨1, (), rfl, hk2.symm, by rw [ht, if_neg hk0]; exact hP, va_K.moved hW.alike hK, (by rw [if_neg hk0]; exact hD)⟩, hS.F ht⟩) hS.2.2 d_Law_rule_13 hlocks
    · have hE : E = xS := rd_k2 (by rw [← hk1]; exact hkE)
      subst hE
      have hk0 : ¬ k = 0 := by rw [hk1]; decide
      refine rd_catch (own := R_Law) (name := xS) (E := xS) hown [⟨0, 8, 11, 13⟩] ⟨0, 8, 14, 15⟩ [] htab (fun y hy => by
        simp only [List.mem_cons, List.not_mem_nil, or_false] at hy
        rcases hy with rfl
        · exact ⟨by decide, by decide, xI, hg _ gw_527, hX.2.2 (xS, xI) (by decide +kernel)⟩) (by decide) (by decide) (hg _ gw_528) (rd_self hX (by decide +kernel)) hce hcv hcl ?_
      refine lv_astore_n (lv' := [(2, .ref q), (0, .ref a0), (1, .ref a9)]) hx hb d_Law_rule_14 rfl hl (by decide) rfl (fun ls hl => ?_)
      refine lv_iconst (v := 2) hx hb d_Law_rule_15 (by decide) ?_
      exact W.iret (v := 2) hx hb hr (fun t ht hW => ⟨⟨2, (), rfl, hk2.symm, by rw [ht, if_neg hk0]; exact hP, va_K.moved hW.alike hK, (by rw [if_neg hk0]; exact hD)⟩, hS.F ht⟩) hS.2.2 d_Law_rule_16 hlocks
-- ===== RepairDeskLaw.compile(LRepairDesk;[J)I
def w_Law_compile : List Cond := .codeWith y_Law_compile b_Law_compile 3 (some .int) [(0, 8, 11, 15), (0, 8, 14, 20)] :: gw
abbrev rm_Law_compile : Room := { frames := 8, cells := 1, slots := 6, locals := 188 }
set_option maxHeartbeats 4000000 in
set_option maxRecDepth 100000 in
theorem c_Law_compile (l : Launch) (hlt : l.stackTraces = false) (dC : Nat → ClassId) (dI : Nat → Nat → Nat) (kA : Nat → ClassId) (sa : Nat → Nat) (sz : Nat) (a0 a1 a2 a3 a4 a5 a6 a7 a8 a9 a10 a11 a12 a13 : Nat) (v0_0 v0_3 v0_4 v0_5 v0_7 v1_0 v1_1 v1_2 : Value) (x1_3 : Int32) (x1_4 : Int32) (x1_5 : Int32) (x2_6 : Int32) (x3_3 : Int32) (x3_4 : Int32) (f4 : (Nat → Int32)) (f5 : (Nat → Int32)) (f6 : (Nat → Int32)) (f7 : (Nat → Int32)) (f8 : (Nat → Int32)) (f9 : (Nat → Int32)) (f10 : (Nat → Int32)) (f11 : (Nat → Int32)) (f12 : (Nat → Int32)) (gl : Nat → Int64) (k r : Int32) (ox1_3 : Int32) (ox1_4 : Int32) (ox1_5 : Int32) (ox3_3 : Int32) (ox3_4 : Int32) (of4 : (Nat → Int32)) (of5 : (Nat → Int32)) (of6 : (Nat → Int32)) (of7 : (Nat → Int32)) (of8 : (Nat → Int32)) (of9 : (Nat → Int32)) (of10 : (Nat → Int32)) (of11 : (Nat → Int32)) (of12 : (Nat → Int32)) (cd : Int32) (hF : S_Desk_compile x1_3 x1_4 x1_5 x2_6 x3_3 x3_4 f4 f5 f6 f7 f8 f9 f10 f11 f12 = some (k, r, ox1_3, ox1_4, ox1_5, ox3_3, ox3_4, of4, of5, of6, of7, of8, of9, of10, of11, of12)) (hk : k = 0 ∧ cd = 0 ∨ k = 2 ∧ cd = 1 ∨ k = 3 ∧ cd = 2) : Met l y_Law_compile w_Law_compile rm_Law_compile (va_Pc [.ref a0, .ref a13] (fun U => U.heap.size = sz ∧ va_P (dC, dI) classes (wd_Desk_compile kA a0 a1 a2 a3 a4 a5 a6 a7 a8 a9 a10 a11 a12 v0_0 v0_3 v0_4 v0_5 v0_7 v1_0 v1_1 v1_2 x1_3 x1_4 x1_5 x2_6 x3_3 x3_4 f4 f5 f6 f7 f8 f9 f10 f11 f12 ++ [(a13, .inl (kA 3, 1, .inr (.inl gl)))]) U.heap ∧ va_K (dC, dI) classes (tys_ kA) U ∧ va_D (fun _ => True) (wd_Desk_compile kA a0 a1 a2 a3 a4 a5 a6 a7 a8 a9 a10 a11 a12 v0_0 v0_3 v0_4 v0_5 v0_7 v1_0 v1_1 v1_2 x1_3 x1_4 x1_5 x2_6 x3_3 x3_4 f4 f5 f6 f7 f8 f9 f10 f11 f12 ++ [(a13, .inl (kA 3, 1, .inr (.inl gl)))]) ∧ rd_X sa U ∧ rd_St (va_A (wd_Desk_compile kA a0 a1 a2 a3 a4 a5 a6 a7 a8 a9 a10 a11 a12 v0_0 v0_3 v0_4 v0_5 v0_7 v1_0 v1_1 v1_2 x1_3 x1_4 x1_5 x2_6 x3_3 x3_4 f4 f5 f6 f7 f8 f9 f10 f11 f12 ++ [(a13, .inl (kA 3, 1, .inr (.inl gl)))]) sz) U U.heap)) (va_Qi (fun (r1 : Int32) (_ : Unit) => r1 = cd) (fun _ t => va_P (dC, dI) classes (wd_Desk_compile kA a0 a1 a2 a3 a4 a5 a6 a7 a8 a9 a10 a11 a12 v0_0 v0_3 v0_4 v0_5 v0_7 v1_0 v1_1 v1_2 ox1_3 ox1_4 ox1_5 x2_6 ox3_3 ox3_4 of4 of5 of6 of7 of8 of9 of10 of11 of12 ++ [(a13, .inl (kA 3, 1, .inr (.inl (if k = 0 then vp_updL gl 0 r.toInt64 else gl))))]) t.heap ∧ va_K (dC, dI) classes (tys_ kA) t ∧ va_D (va_A (wd_Desk_compile kA a0 a1 a2 a3 a4 a5 a6 a7 a8 a9 a10 a11 a12 v0_0 v0_3 v0_4 v0_5 v0_7 v1_0 v1_1 v1_2 x1_3 x1_4 x1_5 x2_6 x3_3 x3_4 f4 f5 f6 f7 f8 f9 f10 f11 f12 ++ [(a13, .inl (kA 3, 1, .inr (.inl gl)))]) sz) (wd_Desk_compile kA a0 a1 a2 a3 a4 a5 a6 a7 a8 a9 a10 a11 a12 v0_0 v0_3 v0_4 v0_5 v0_7 v1_0 v1_1 v1_2 ox1_3 ox1_4 ox1_5 x2_6 ox3_3 ox3_4 of4 of5 of6 of7 of8 of9 of10 of11 of12 ++ [(a13, .inl (kA 3, 1, .inr (.inl (if k = 0 then vp_updL gl 0 r.toInt64 else gl))))])) (va_A (wd_Desk_compile kA a0 a1 a2 a3 a4 a5 a6 a7 a8 a9 a10 a11 a12 v0_0 v0_3 v0_4 v0_5 v0_7 v1_0 v1_1 v1_2 x1_3 x1_4 x1_5 x2_6 x3_3 x3_4 f4 f5 f6 f7 f8 f9 f10 f11 f12 ++ [(a13, .inl (kA 3, 1, .inr (.inl gl)))]) sz)) 1 6 (va_A (wd_Desk_compile kA a0 a1 a2 a3 a4 a5 a6 a7 a8 a9 a10 a11 a12 v0_0 v0_3 v0_4 v0_5 v0_7 v1_0 v1_1 v1_2 x1_3 x1_4 x1_5 x2_6 x3_3 x3_4 f4 f5 f6 f7 f8 f9 f10 f11 f12 ++ [(a13, .inl (kA 3, 1, .inr (.inl gl)))]) sz) := by
  refine va_MetW (cc := b_Law_compile) (maxL := 3) (ret := some .int) (hh := [(0, 8, 11, 15), (0, 8, 14, 20)]) (by decide) rfl ?_
  intro p e s m args below meth c s₁ B hml hv
  obtain ⟨rfl, hsz, hP, hK, hD0, hX, hSt⟩ := hv
  have hx := B.exec
  have hb := B.bytes
  have hr := B.returns
  have hts := atoms_spec (ws := w_Law_compile) B.pre
  have hown : s.vm.findClass R_Law = some m.cls := findClass_of_methodNamed B.named
  have hg := fun (w : Cond) (h : w ∈ gw) => hts w (List.mem_cons_of_mem _ h)
  have htab : c.exceptionTable.toList = [⟨0, 8, 11, 15⟩, ⟨0, 8, 14, 20⟩] := by
    obtain ⟨m9, meth9, c9, hn9, g1, g2, -, -, g5, -⟩ := Cond.codeWith_spec (hts _ List.mem_cons_self)
    cases B.named.symm.trans hn9; cases B.method.symm.trans g1; cases (Stand.of_body B).code.symm.trans g2
    exact rd_tab g5
  have hlocks := B.notSynchronized
  subst hsz
  have hD := hD0.self (sz := s.heap.size)
  generalize hAe : va_A (wd_Desk_compile kA a0 a1 a2 a3 a4 a5 a6 a7 a8 a9 a10 a11 a12 v0_0 v0_3 v0_4 v0_5 v0_7 v1_0 v1_1 v1_2 x1_3 x1_4 x1_5 x2_6 x3_3 x3_4 f4 f5 f6 f7 f8 f9 f10 f11 f12 ++ [(a13, .inl (kA 3, 1, .inr (.inl gl)))]) s.heap.size = A at hD hSt ⊢
  have hA : ∀ q : Nat, s.heap.size ≤ q → A q := fun q h => by rw [← hAe]; exact Or.inr h
  have hS : va_S A s.heap s.heap [] := va_S.rf
  have hl := lv_entry ([.ref a0, .ref a13]) (n := 3) (Nat.le_of_ble_eq_true rfl)
  rw [lg_entry_eq]
  generalize (lg_sl ([.ref a0, .ref a13]) ++ List.replicate (3 - (lg_sl ([.ref a0, .ref a13])).length) Slot.unset).toArray = ls at hl ⊢
  have hl : lv_has ls 3 [(0, .ref a0), (1, .ref a13)] := hl
  refine lv_aload_n hx hb d_Law_compile_0 rfl (lv_at hl 1 rfl) ?_
  refine lv_iconst (v := 0) hx hb d_Law_compile_1 (by decide) ?_
  refine lv_aload_n hx hb d_Law_compile_2 rfl (lv_at hl 0 rfl) ?_
  have hPc := hP.sub (ws' := (wd_Desk_compile kA a0 a1 a2 a3 a4 a5 a6 a7 a8 a9 a10 a11 a12 v0_0 v0_3 v0_4 v0_5 v0_7 v1_0 v1_1 v1_2 x1_3 x1_4 x1_5 x2_6 x3_3 x3_4 f4 f5 f6 f7 f8 f9 f10 f11 f12)) [0, 1, 2, 3, 4, 5, 6, 7, 8, 9, 10, 11, 12] rfl
  have hDc := hD.sub (ws' := (wd_Desk_compile kA a0 a1 a2 a3 a4 a5 a6 a7 a8 a9 a10 a11 a12 v0_0 v0_3 v0_4 v0_5 v0_7 v1_0 v1_1 v1_2 x1_3 x1_4 x1_5 x2_6 x3_3 x3_4 f4 f5 f6 f7 f8 f9 f10 f11 f12)) [0, 1, 2, 3, 4, 5, 6, 7, 8, 9, 10, 11, 12] (by decide) rfl
  have hFc := va_free (wc := (wd_Desk_compile kA a0 a1 a2 a3 a4 a5 a6 a7 a8 a9 a10 a11 a12 v0_0 v0_3 v0_4 v0_5 v0_7 v1_0 v1_1 v1_2 x1_3 x1_4 x1_5 x2_6 x3_3 x3_4 f4 f5 f6 f7 f8 f9 f10 f11 f12)) hD hS hA [0, 1, 2, 3, 4, 5, 6, 7, 8, 9, 10, 11, 12] rfl
  refine rd_callV (As := []) (rest := [.int 0, .ref a13]) ⟨hx, hb, hml, hown, hts⟩ (c_Desk_compile l hlt dC dI kA sa s.heap.size a0 a1 a2 a3 a4 a5 a6 a7 a8 a9 a10 a11 a12 v0_0 v0_3 v0_4 v0_5 v0_7 v1_0 v1_1 v1_2 x1_3 x1_4 x1_5 x2_6 x3_3 x3_4 f4 f5 f6 f7 f8 f9 f10 f11 f12 k r ox1_3 ox1_4 ox1_5 ox3_3 ox3_4 of4 of5 of6 of7 of8 of9 of10 of11 of12 hF) (cwV 0 hts (gw_V gw_560 gw_561 gw_562 gw_418 gw_563) rfl rfl rfl (by decide +kernel) ⟨Nat.le_of_ble_eq_true rfl, Nat.le_of_ble_eq_true rfl⟩) ⟨fun a U g mk q => by obtain ⟨q0, q1, qP, qK, qD, qX, qS⟩ := q; exact ⟨q0, q1, qP, va_K.moved (u := U) (U := U.calling g mk a) (Vm.Alike.refl U.vm) qK, qD, rd_X.same (s := U) rfl qX, rd_St.moved (u := U) (U := U.calling g mk a) (Vm.Alike.refl U.vm) qS⟩, va_recv hK hP (ci := 8) (q0 := 0) rfl rfl, fun U hU hW => ⟨rfl, by rw [hU], by rw [hU]; exact hPc, va_K.moved hW.alike hK, hDc.weaken (fun _ _ _ _ => trivial), rd_X.warm hW hX, by rw [hU]; exact rd_St.moved hW.alike (rd_St.narrow (fun q _ h => hFc q h) hSt)⟩⟩ rfl hl.1 rfl (lv_room (Nat.le_of_ble_eq_true rfl)) d_Law_compile_3 ⟨Nat.le_of_ble_eq_true rfl, Nat.le_of_ble_eq_true rfl⟩ ?_ ?_
  · intro v st₀ t H1 L h0 ht hal hL hQ
    obtain ⟨hk0, hv, hB, hF9⟩ := hQ
    subst hv
    obtain ⟨hP1, hK1, hD1⟩ := hB
    obtain ⟨hz1, hk1, hS⟩ := rd_keep h0 ht hS hFc hL hF9
    rw [ht] at hP1
    obtain ⟨hP, hD⟩ := va_join (wr := [(a13, .inl (kA 3, 1, .inr (.inl gl)))]) (w1 := (wd_Desk_compile kA a0 a1 a2 a3 a4 a5 a6 a7 a8 a9 a10 a11 a12 v0_0 v0_3 v0_4 v0_5 v0_7 v1_0 v1_1 v1_2 ox1_3 ox1_4 ox1_5 x2_6 ox3_3 ox3_4 of4 of5 of6 of7 of8 of9 of10 of11 of12)) hP hD [0, 1, 2, 3, 4, 5, 6, 7, 8, 9, 10, 11, 12] [13] rfl rfl (by decide) (by decide) hk1 hFc hP1 hD1
    have hP := hP.sub (ws' := (wd_Desk_compile kA a0 a1 a2 a3 a4 a5 a6 a7 a8 a9 a10 a11 a12 v0_0 v0_3 v0_4 v0_5 v0_7 v1_0 v1_1 v1_2 ox1_3 ox1_4 ox1_5 x2_6 ox3_3 ox3_4 of4 of5 of6 of7 of8 of9 of10 of11 of12 ++ [(a13, .inl (kA 3, 1, .inr (.inl gl)))])) [1, 2, 3, 4, 5, 6, 7, 8, 9, 10, 11, 12, 13, 0] rfl
    have hD := hD.sub (ws' := (wd_Desk_compile kA a0 a1 a2 a3 a4 a5 a6 a7 a8 a9 a10 a11 a12 v0_0 v0_3 v0_4 v0_5 v0_7 v1_0 v1_1 v1_2 ox1_3 ox1_4 ox1_5 x2_6 ox3_3 ox3_4 of4 of5 of6 of7 of8 of9 of10 of11 of12 ++ [(a13, .inl (kA 3, 1, .inr (.inl gl)))])) [1, 2, 3, 4, 5, 6, 7, 8, 9, 10, 11, 12, 13, 0] (by decide) rfl
    have hcd : cd = 0 := by rcases hk with ⟨h1, h2⟩ | ⟨h1, h2⟩ | ⟨h1, h2⟩ <;> first | exact h2 | (rw [h1] at hk0; exact absurd hk0 (by decide))
    rw [show (Option.some (Value.int r)).toList ++ [.int 0, .ref a13] = .int r :: [.int 0, .ref a13] from rfl]
    refine lv_i2l (v := r.toInt64) hx hb d_Law_compile_6 rfl ?_
    refine va_last hx hb hK hP hD hS 13 3 rfl rfl (by unfold vp_in; decide) d_Law_compile_7 (fun H locs hP hD hS => ?_)
    have hP : va_P (dC, dI) classes (wd_Desk_compile kA a0 a1 a2 a3 a4 a5 a6 a7 a8 a9 a10 a11 a12 v0_0 v0_3 v0_4 v0_5 v0_7 v1_0 v1_1 v1_2 ox1_3 ox1_4 ox1_5 x2_6 ox3_3 ox3_4 of4 of5 of6 of7 of8 of9 of10 of11 of12 ++ [(a13, .inl (kA 3, 1, .inr (.inl (vp_updL gl 0 r.toInt64))))]) H := hP
    have hD : va_D A (wd_Desk_compile kA a0 a1 a2 a3 a4 a5 a6 a7 a8 a9 a10 a11 a12 v0_0 v0_3 v0_4 v0_5 v0_7 v1_0 v1_1 v1_2 ox1_3 ox1_4 ox1_5 x2_6 ox3_3 ox3_4 of4 of5 of6 of7 of8 of9 of10 of11 of12 ++ [(a13, .inl (kA 3, 1, .inr (.inl (vp_updL gl 0 r.toInt64))))]) := hD
    refine lv_goto (tgt := 17) hx hb d_Law_compile_8 (by decide) ?_
    refine lv_iconst (v := 0) hx hb d_Law_compile_17 (by decide) ?_
    exact W.iret (v := 0) hx hb hr (fun t ht hW => ⟨⟨0, (), rfl, hcd.symm, by rw [ht, if_pos hk0]; exact hP, va_K.moved hW.alike hK, (by rw [if_pos hk0]; exact hD)⟩, hS.F ht⟩) hS.2.2 d_Law_compile_18 hlocks
  · intro q E ce st₀ t H1 L h0 ht hal hL hce hcv hcl hQ
    obtain ⟨hkE, hB, hF9⟩ := hQ
    obtain ⟨hP1, hK1, hD1⟩ := hB
    obtain ⟨hz1, hk1, hS⟩ := rd_keep h0 ht hS hFc hL hF9
    rw [ht] at hP1
    obtain ⟨hP, hD⟩ := va_join (wr := [(a13, .inl (kA 3, 1, .inr (.inl gl)))]) (w1 := (wd_Desk_compile kA a0 a1 a2 a3 a4 a5 a6 a7 a8 a9 a10 a11 a12 v0_0 v0_3 v0_4 v0_5 v0_7 v1_0 v1_1 v1_2 ox1_3 ox1_4 ox1_5 x2_6 ox3_3 ox3_4 of4 of5 of6 of7 of8 of9 of10 of11 of12)) hP hD [0, 1, 2, 3, 4, 5, 6, 7, 8, 9, 10, 11, 12] [13] rfl rfl (by decide) (by decide) hk1 hFc hP1 hD1
    have hP := hP.sub (ws' := (wd_Desk_compile kA a0 a1 a2 a3 a4 a5 a6 a7 a8 a9 a10 a11 a12 v0_0 v0_3 v0_4 v0_5 v0_7 v1_0 v1_1 v1_2 ox1_3 ox1_4 ox1_5 x2_6 ox3_3 ox3_4 of4 of5 of6 of7 of8 of9 of10 of11 of12 ++ [(a13, .inl (kA 3, 1, .inr (.inl gl)))])) [1, 2, 3, 4, 5, 6, 7, 8, 9, 10, 11, 12, 13, 0] rfl
    have hD := hD.sub (ws' := (wd_Desk_compile kA a0 a1 a2 a3 a4 a5 a6 a7 a8 a9 a10 a11 a12 v0_0 v0_3 v0_4 v0_5 v0_7 v1_0 v1_1 v1_2 ox1_3 ox1_4 ox1_5 x2_6 ox3_3 ox3_4 of4 of5 of6 of7 of8 of9 of10 of11 of12 ++ [(a13, .inl (kA 3, 1, .inr (.inl gl)))])) [1, 2, 3, 4, 5, 6, 7, 8, 9, 10, 11, 12, 13, 0] (by decide) rfl
    rcases hk with ⟨hk1, hk2⟩ | ⟨hk1, hk2⟩ | ⟨hk1, hk2⟩
    · rw [hk1] at hkE; exact absurd hkE (rd_k0 E)
    · have hE : E = xS := rd_k2 (by rw [← hk1]; exact hkE)
      subst hE
      have hk0 : ¬ k = 0 := by rw [hk1]; decide
      refine rd_catch (own := R_Law) (name := xS) (E := xS) hown [] ⟨0, 8, 11, 15⟩ [⟨0, 8, 14, 20⟩] htab (fun y hy => nomatch hy) (by decide) (by decide) (hg _ gw_528) (rd_self hX (by decide +kernel)) hce hcv hcl ?_
      refine lv_astore_n (lv' := [(2, .ref q), (0, .ref a0), (1, .ref a13)]) hx hb d_Law_compile_11 rfl hl (by decide) rfl (fun ls hl => ?_)
      refine lv_iconst (v := 1) hx hb d_Law_compile_12 (by decide) ?_
      exact W.iret (v := 1) hx hb hr (fun t ht hW => ⟨⟨1, (), rfl, hk2.symm, by rw [ht, if_neg hk0]; exact hP, va_K.moved hW.alike hK, (by rw [if_neg hk0]; exact hD)⟩, hS.F ht⟩) hS.2.2 d_Law_compile_13 hlocks
    · have hE : E = xU := rd_k3 (by rw [← hk1]; exact hkE)
      subst hE
      have hk0 : ¬ k = 0 := by rw [hk1]; decide
      refine rd_catch (own := R_Law) (name := xU) (E := xU) hown [⟨0, 8, 11, 15⟩] ⟨0, 8, 14, 20⟩ [] htab (fun y hy => by
        simp only [List.mem_cons, List.not_mem_nil, or_false] at hy
        rcases hy with rfl
        · exact ⟨by decide, by decide, xS, hg _ gw_528, hX.2.2 (xU, xS) (by decide +kernel)⟩) (by decide) (by decide) (hg _ gw_559) (rd_self hX (by decide +kernel)) hce hcv hcl ?_
      refine lv_astore_n (lv' := [(2, .ref q), (0, .ref a0), (1, .ref a13)]) hx hb d_Law_compile_14 rfl hl (by decide) rfl (fun ls hl => ?_)
      refine lv_iconst (v := 2) hx hb d_Law_compile_15 (by decide) ?_
      exact W.iret (v := 2) hx hb hr (fun t ht hW => ⟨⟨2, (), rfl, hk2.symm, by rw [ht, if_neg hk0]; exact hP, va_K.moved hW.alike hK, (by rw [if_neg hk0]; exact hD)⟩, hS.F ht⟩) hS.2.2 d_Law_compile_16 hlocks
-- ===== RepairDeskLaw.text(LRepairDesk;[J)I
def w_Law_text : List Cond := .codeWith y_Law_text b_Law_text 3 (some .int) [(0, 8, 11, 13)] :: gw
abbrev rm_Law_text : Room := { frames := 7, cells := 1, slots := 6, locals := 111 }
set_option maxHeartbeats 4000000 in
set_option maxRecDepth 100000 in
theorem c_Law_text (l : Launch) (hlt : l.stackTraces = false) (dC : Nat → ClassId) (dI : Nat → Nat → Nat) (kA : Nat → ClassId) (sa : Nat → Nat) (sz : Nat) (a0 a1 a2 a3 a4 a5 a6 : Nat) (v0_1 v0_2 v0_4 v0_5 v0_7 v1_0 v1_1 v1_2 v3_1 : Value) (x1_3 : Int32) (x1_4 : Int32) (x1_5 : Int32) (x2_1 : Int32) (x3_2 : Int32) (f4 : (Nat → Int32)) (f5 : (Nat → Int32)) (gl : Nat → Int64) (k r : Int32) (ox1_3 : Int32) (ox1_4 : Int32) (ox1_5 : Int32) (ox2_1 : Int32) (ox3_2 : Int32) (of5 : (Nat → Int32)) (cd : Int32) (hF : S_Desk_text x1_3 x1_4 x1_5 x2_1 x3_2 f4 f5 = some (k, r, ox1_3, ox1_4, ox1_5, ox2_1, ox3_2, of5)) (hk : k = 0 ∧ cd = 0 ∨ k = 1 ∧ cd = 1) : Met l y_Law_text w_Law_text rm_Law_text (va_Pc [.ref a0, .ref a6] (fun U => U.heap.size = sz ∧ va_P (dC, dI) classes (wd_Desk_text kA a0 a1 a2 a3 a4 a5 v0_1 v0_2 v0_4 v0_5 v0_7 v1_0 v1_1 v1_2 v3_1 x1_3 x1_4 x1_5 x2_1 x3_2 f4 f5 ++ [(a6, .inl (kA 3, 1, .inr (.inl gl)))]) U.heap ∧ va_K (dC, dI) classes (tys_ kA) U ∧ va_D (fun _ => True) (wd_Desk_text kA a0 a1 a2 a3 a4 a5 v0_1 v0_2 v0_4 v0_5 v0_7 v1_0 v1_1 v1_2 v3_1 x1_3 x1_4 x1_5 x2_1 x3_2 f4 f5 ++ [(a6, .inl (kA 3, 1, .inr (.inl gl)))]) ∧ rd_X sa U ∧ rd_St (va_A (wd_Desk_text kA a0 a1 a2 a3 a4 a5 v0_1 v0_2 v0_4 v0_5 v0_7 v1_0 v1_1 v1_2 v3_1 x1_3 x1_4 x1_5 x2_1 x3_2 f4 f5 ++ [(a6, .inl (kA 3, 1, .inr (.inl gl)))]) sz) U U.heap)) (va_Qi (fun (r1 : Int32) (_ : Unit) => r1 = cd) (fun _ t => va_P (dC, dI) classes (wd_Desk_text kA a0 a1 a2 a3 a4 a5 v0_1 v0_2 v0_4 v0_5 v0_7 v1_0 v1_1 v1_2 v3_1 ox1_3 ox1_4 ox1_5 ox2_1 ox3_2 f4 of5 ++ [(a6, .inl (kA 3, 1, .inr (.inl (if k = 0 then vp_updL gl 0 r.toInt64 else gl))))]) t.heap ∧ va_K (dC, dI) classes (tys_ kA) t ∧ va_D (va_A (wd_Desk_text kA a0 a1 a2 a3 a4 a5 v0_1 v0_2 v0_4 v0_5 v0_7 v1_0 v1_1 v1_2 v3_1 x1_3 x1_4 x1_5 x2_1 x3_2 f4 f5 ++ [(a6, .inl (kA 3, 1, .inr (.inl gl)))]) sz) (wd_Desk_text kA a0 a1 a2 a3 a4 a5 v0_1 v0_2 v0_4 v0_5 v0_7 v1_0 v1_1 v1_2 v3_1 ox1_3 ox1_4 ox1_5 ox2_1 ox3_2 f4 of5 ++ [(a6, .inl (kA 3, 1, .inr (.inl (if k = 0 then vp_updL gl 0 r.toInt64 else gl))))])) (va_A (wd_Desk_text kA a0 a1 a2 a3 a4 a5 v0_1 v0_2 v0_4 v0_5 v0_7 v1_0 v1_1 v1_2 v3_1 x1_3 x1_4 x1_5 x2_1 x3_2 f4 f5 ++ [(a6, .inl (kA 3, 1, .inr (.inl gl)))]) sz)) 1 6 (va_A (wd_Desk_text kA a0 a1 a2 a3 a4 a5 v0_1 v0_2 v0_4 v0_5 v0_7 v1_0 v1_1 v1_2 v3_1 x1_3 x1_4 x1_5 x2_1 x3_2 f4 f5 ++ [(a6, .inl (kA 3, 1, .inr (.inl gl)))]) sz) := by
  refine va_MetW (cc := b_Law_text) (maxL := 3) (ret := some .int) (hh := [(0, 8, 11, 13)]) (by decide) rfl ?_
  intro p e s m args below meth c s₁ B hml hv
  obtain ⟨rfl, hsz, hP, hK, hD0, hX, hSt⟩ := hv
  have hx := B.exec
  have hb := B.bytes
  have hr := B.returns
  have hts := atoms_spec (ws := w_Law_text) B.pre
  have hown : s.vm.findClass R_Law = some m.cls := findClass_of_methodNamed B.named
  have hg := fun (w : Cond) (h : w ∈ gw) => hts w (List.mem_cons_of_mem _ h)
  have htab : c.exceptionTable.toList = [⟨0, 8, 11, 13⟩] := by
    obtain ⟨m9, meth9, c9, hn9, g1, g2, -, -, g5, -⟩ := Cond.codeWith_spec (hts _ List.mem_cons_self)
    cases B.named.symm.trans hn9; cases B.method.symm.trans g1; cases (Stand.of_body B).code.symm.trans g2
    exact rd_tab g5
  have hlocks := B.notSynchronized
  subst hsz
  have hD := hD0.self (sz := s.heap.size)
  generalize hAe : va_A (wd_Desk_text kA a0 a1 a2 a3 a4 a5 v0_1 v0_2 v0_4 v0_5 v0_7 v1_0 v1_1 v1_2 v3_1 x1_3 x1_4 x1_5 x2_1 x3_2 f4 f5 ++ [(a6, .inl (kA 3, 1, .inr (.inl gl)))]) s.heap.size = A at hD hSt ⊢
  have hA : ∀ q : Nat, s.heap.size ≤ q → A q := fun q h => by rw [← hAe]; exact Or.inr h
  have hS : va_S A s.heap s.heap [] := va_S.rf
  have hl := lv_entry ([.ref a0, .ref a6]) (n := 3) (Nat.le_of_ble_eq_true rfl)
  rw [lg_entry_eq]
  generalize (lg_sl ([.ref a0, .ref a6]) ++ List.replicate (3 - (lg_sl ([.ref a0, .ref a6])).length) Slot.unset).toArray = ls at hl ⊢
  have hl : lv_has ls 3 [(0, .ref a0), (1, .ref a6)] := hl
  refine lv_aload_n hx hb d_Law_text_0 rfl (lv_at hl 1 rfl) ?_
  refine lv_iconst (v := 0) hx hb d_Law_text_1 (by decide) ?_
  refine lv_aload_n hx hb d_Law_text_2 rfl (lv_at hl 0 rfl) ?_
  have hPc := hP.sub (ws' := (wd_Desk_text kA a0 a1 a2 a3 a4 a5 v0_1 v0_2 v0_4 v0_5 v0_7 v1_0 v1_1 v1_2 v3_1 x1_3 x1_4 x1_5 x2_1 x3_2 f4 f5)) [0, 1, 2, 3, 4, 5] rfl
  have hDc := hD.sub (ws' := (wd_Desk_text kA a0 a1 a2 a3 a4 a5 v0_1 v0_2 v0_4 v0_5 v0_7 v1_0 v1_1 v1_2 v3_1 x1_3 x1_4 x1_5 x2_1 x3_2 f4 f5)) [0, 1, 2, 3, 4, 5] (by decide) rfl
  have hFc := va_free (wc := (wd_Desk_text kA a0 a1 a2 a3 a4 a5 v0_1 v0_2 v0_4 v0_5 v0_7 v1_0 v1_1 v1_2 v3_1 x1_3 x1_4 x1_5 x2_1 x3_2 f4 f5)) hD hS hA [0, 1, 2, 3, 4, 5] rfl
  refine rd_callV (As := []) (rest := [.int 0, .ref a6]) ⟨hx, hb, hml, hown, hts⟩ (c_Desk_text l hlt dC dI kA sa s.heap.size a0 a1 a2 a3 a4 a5 v0_1 v0_2 v0_4 v0_5 v0_7 v1_0 v1_1 v1_2 v3_1 x1_3 x1_4 x1_5 x2_1 x3_2 f4 f5 k r ox1_3 ox1_4 ox1_5 ox2_1 ox3_2 of5 hF) (cwV 0 hts (gw_V gw_575 gw_576 gw_577 gw_418 gw_578) rfl rfl rfl (by decide +kernel) ⟨Nat.le_of_ble_eq_true rfl, Nat.le_of_ble_eq_true rfl⟩) ⟨fun a U g mk q => by obtain ⟨q0, q1, qP, qK, qD, qX, qS⟩ := q; exact ⟨q0, q1, qP, va_K.moved (u := U) (U := U.calling g mk a) (Vm.Alike.refl U.vm) qK, qD, rd_X.same (s := U) rfl qX, rd_St.moved (u := U) (U := U.calling g mk a) (Vm.Alike.refl U.vm) qS⟩, va_recv hK hP (ci := 8) (q0 := 0) rfl rfl, fun U hU hW => ⟨rfl, by rw [hU], by rw [hU]; exact hPc, va_K.moved hW.alike hK, hDc.weaken (fun _ _ _ _ => trivial), rd_X.warm hW hX, by rw [hU]; exact rd_St.moved hW.alike (rd_St.narrow (fun q _ h => hFc q h) hSt)⟩⟩ rfl hl.1 rfl (lv_room (Nat.le_of_ble_eq_true rfl)) d_Law_text_3 ⟨Nat.le_of_ble_eq_true rfl, Nat.le_of_ble_eq_true rfl⟩ ?_ ?_
  · intro v st₀ t H1 L h0 ht hal hL hQ
    obtain ⟨hk0, hv, hB, hF9⟩ := hQ
    subst hv
    obtain ⟨hP1, hK1, hD1⟩ := hB
    obtain ⟨hz1, hk1, hS⟩ := rd_keep h0 ht hS hFc hL hF9
    rw [ht] at hP1
    obtain ⟨hP, hD⟩ := va_join (wr := [(a6, .inl (kA 3, 1, .inr (.inl gl)))]) (w1 := (wd_Desk_text kA a0 a1 a2 a3 a4 a5 v0_1 v0_2 v0_4 v0_5 v0_7 v1_0 v1_1 v1_2 v3_1 ox1_3 ox1_4 ox1_5 ox2_1 ox3_2 f4 of5)) hP hD [0, 1, 2, 3, 4, 5] [6] rfl rfl (by decide) (by decide) hk1 hFc hP1 hD1
    have hP := hP.sub (ws' := (wd_Desk_text kA a0 a1 a2 a3 a4 a5 v0_1 v0_2 v0_4 v0_5 v0_7 v1_0 v1_1 v1_2 v3_1 ox1_3 ox1_4 ox1_5 ox2_1 ox3_2 f4 of5 ++ [(a6, .inl (kA 3, 1, .inr (.inl gl)))])) [1, 2, 3, 4, 5, 6, 0] rfl
    have hD := hD.sub (ws' := (wd_Desk_text kA a0 a1 a2 a3 a4 a5 v0_1 v0_2 v0_4 v0_5 v0_7 v1_0 v1_1 v1_2 v3_1 ox1_3 ox1_4 ox1_5 ox2_1 ox3_2 f4 of5 ++ [(a6, .inl (kA 3, 1, .inr (.inl gl)))])) [1, 2, 3, 4, 5, 6, 0] (by decide) rfl
    have hcd : cd = 0 := by rcases hk with ⟨h1, h2⟩ | ⟨h1, h2⟩ <;> first | exact h2 | (rw [h1] at hk0; exact absurd hk0 (by decide))
    rw [show (Option.some (Value.int r)).toList ++ [.int 0, .ref a6] = .int r :: [.int 0, .ref a6] from rfl]
    refine lv_i2l (v := r.toInt64) hx hb d_Law_text_6 rfl ?_
    refine va_last hx hb hK hP hD hS 6 3 rfl rfl (by unfold vp_in; decide) d_Law_text_7 (fun H locs hP hD hS => ?_)
    have hP : va_P (dC, dI) classes (wd_Desk_text kA a0 a1 a2 a3 a4 a5 v0_1 v0_2 v0_4 v0_5 v0_7 v1_0 v1_1 v1_2 v3_1 ox1_3 ox1_4 ox1_5 ox2_1 ox3_2 f4 of5 ++ [(a6, .inl (kA 3, 1, .inr (.inl (vp_updL gl 0 r.toInt64))))]) H := hP
    have hD : va_D A (wd_Desk_text kA a0 a1 a2 a3 a4 a5 v0_1 v0_2 v0_4 v0_5 v0_7 v1_0 v1_1 v1_2 v3_1 ox1_3 ox1_4 ox1_5 ox2_1 ox3_2 f4 of5 ++ [(a6, .inl (kA 3, 1, .inr (.inl (vp_updL gl 0 r.toInt64))))]) := hD
    refine lv_goto (tgt := 14) hx hb d_Law_text_8 (by decide) ?_
    refine lv_iconst (v := 0) hx hb d_Law_text_14 (by decide) ?_
    exact W.iret (v := 0) hx hb hr (fun t ht hW => ⟨⟨0, (), rfl, hcd.symm, by rw [ht, if_pos hk0]; exact hP, va_K.moved hW.alike hK, (by rw [if_pos hk0]; exact hD)⟩, hS.F ht⟩) hS.2.2 d_Law_text_15 hlocks
  · intro q E ce st₀ t H1 L h0 ht hal hL hce hcv hcl hQ
    obtain ⟨hkE, hB, hF9⟩ := hQ
    obtain ⟨hP1, hK1, hD1⟩ := hB
    obtain ⟨hz1, hk1, hS⟩ := rd_keep h0 ht hS hFc hL hF9
    rw [ht] at hP1
    obtain ⟨hP, hD⟩ := va_join (wr := [(a6, .inl (kA 3, 1, .inr (.inl gl)))]) (w1 := (wd_Desk_text kA a0 a1 a2 a3 a4 a5 v0_1 v0_2 v0_4 v0_5 v0_7 v1_0 v1_1 v1_2 v3_1 ox1_3 ox1_4 ox1_5 ox2_1 ox3_2 f4 of5)) hP hD [0, 1, 2, 3, 4, 5] [6] rfl rfl (by decide) (by decide) hk1 hFc hP1 hD1
    have hP := hP.sub (ws' := (wd_Desk_text kA a0 a1 a2 a3 a4 a5 v0_1 v0_2 v0_4 v0_5 v0_7 v1_0 v1_1 v1_2 v3_1 ox1_3 ox1_4 ox1_5 ox2_1 ox3_2 f4 of5 ++ [(a6, .inl (kA 3, 1, .inr (.inl gl)))])) [1, 2, 3, 4, 5, 6, 0] rfl
    have hD := hD.sub (ws' := (wd_Desk_text kA a0 a1 a2 a3 a4 a5 v0_1 v0_2 v0_4 v0_5 v0_7 v1_0 v1_1 v1_2 v3_1 ox1_3 ox1_4 ox1_5 ox2_1 ox3_2 f4 of5 ++ [(a6, .inl (kA 3, 1, .inr (.inl gl)))])) [1, 2, 3, 4, 5, 6, 0] (by decide) rfl
    rcases hk with ⟨hk1, hk2⟩ | ⟨hk1, hk2⟩
    · rw [hk1] at hkE; exact absurd hkE (rd_k0 E)
    · have hE : E = xI := rd_k1 (by rw [← hk1]; exact hkE)
      subst hE
      have hk0 : ¬ k = 0 := by rw [hk1]; decide
      refine rd_catch (own := R_Law) (name := xI) (E := xI) hown [] ⟨0, 8, 11, 13⟩ [] htab (fun y hy => nomatch hy) (by decide) (by decide) (hg _ gw_527) (rd_self hX (by decide +kernel)) hce hcv hcl ?_
      refine lv_astore_n (lv' := [(2, .ref q), (0, .ref a0), (1, .ref a6)]) hx hb d_Law_text_11 rfl hl (by decide) rfl (fun ls hl => ?_)
      refine lv_iconst (v := 1) hx hb d_Law_text_12 (by decide) ?_
      exact W.iret (v := 1) hx hb hr (fun t ht hW => ⟨⟨1, (), rfl, hk2.symm, by rw [ht, if_neg hk0]; exact hP, va_K.moved hW.alike hK, (by rw [if_neg hk0]; exact hD)⟩, hS.F ht⟩) hS.2.2 d_Law_text_13 hlocks
-- ===== RepairDeskLaw.parse(LRepairDesk;[J)I
def w_Law_parse : List Cond := .codeWith y_Law_parse b_Law_parse 3 (some .int) [(0, 8, 11, 15)] :: gw
abbrev rm_Law_parse : Room := { frames := 7, cells := 1, slots := 6, locals := 150 }
set_option maxHeartbeats 4000000 in
set_option maxRecDepth 100000 in
theorem c_Law_parse (l : Launch) (hlt : l.stackTraces = false) (dC : Nat → ClassId) (dI : Nat → Nat → Nat) (kA : Nat → ClassId) (sa : Nat → Nat) (sz : Nat) (a0 a1 a2 a3 a4 a5 a6 a7 a8 a9 a10 a11 a12 : Nat) (v0_0 v0_4 v0_6 v0_7 v1_2 v1_3 v1_4 v1_5 v1_6 v3_0 v3_4 v4_1 : Value) (x3_3 : Int32) (x4_2 : Int32) (f5 : (Nat → Int32)) (f6 : (Nat → Int32)) (f7 : (Nat → Int32)) (f8 : (Nat → Int32)) (f9 : (Nat → Int32)) (f10 : (Nat → Int32)) (f11 : (Nat → Int32)) (gl : Nat → Int64) (k r : Int32) (of7 : (Nat → Int32)) (of8 : (Nat → Int32)) (cd : Int32) (hF : S_Desk_parse x3_3 x4_2 f5 f6 f7 f8 f9 f10 f11 = some (k, r, of7, of8)) (hk : k = 0 ∧ cd = 0 ∨ k = 2 ∧ cd = 1) : Met l y_Law_parse w_Law_parse rm_Law_parse (va_Pc [.ref a0, .ref a12] (fun U => U.heap.size = sz ∧ va_P (dC, dI) classes (wd_Desk_parse kA a0 a1 a2 a3 a4 a5 a6 a7 a8 a9 a10 a11 v0_0 v0_4 v0_6 v0_7 v1_2 v1_3 v1_4 v1_5 v1_6 v3_0 v3_4 v4_1 x3_3 x4_2 f5 f6 f7 f8 f9 f10 f11 ++ [(a12, .inl (kA 3, 1, .inr (.inl gl)))]) U.heap ∧ va_K (dC, dI) classes (tys_ kA) U ∧ va_D (fun _ => True) (wd_Desk_parse kA a0 a1 a2 a3 a4 a5 a6 a7 a8 a9 a10 a11 v0_0 v0_4 v0_6 v0_7 v1_2 v1_3 v1_4 v1_5 v1_6 v3_0 v3_4 v4_1 x3_3 x4_2 f5 f6 f7 f8 f9 f10 f11 ++ [(a12, .inl (kA 3, 1, .inr (.inl gl)))]) ∧ rd_X sa U ∧ rd_St (va_A (wd_Desk_parse kA a0 a1 a2 a3 a4 a5 a6 a7 a8 a9 a10 a11 v0_0 v0_4 v0_6 v0_7 v1_2 v1_3 v1_4 v1_5 v1_6 v3_0 v3_4 v4_1 x3_3 x4_2 f5 f6 f7 f8 f9 f10 f11 ++ [(a12, .inl (kA 3, 1, .inr (.inl gl)))]) sz) U U.heap)) (va_Qi (fun (r1 : Int32) (_ : Unit) => r1 = cd) (fun _ t => va_P (dC, dI) classes (wd_Desk_parse kA a0 a1 a2 a3 a4 a5 a6 a7 a8 a9 a10 a11 v0_0 v0_4 v0_6 v0_7 v1_2 v1_3 v1_4 v1_5 v1_6 v3_0 v3_4 v4_1 x3_3 x4_2 f5 f6 of7 of8 f9 f10 f11 ++ [(a12, .inl (kA 3, 1, .inr (.inl (if k = 0 then vp_updL gl 0 r.toInt64 else gl))))]) t.heap ∧ va_K (dC, dI) classes (tys_ kA) t ∧ va_D (va_A (wd_Desk_parse kA a0 a1 a2 a3 a4 a5 a6 a7 a8 a9 a10 a11 v0_0 v0_4 v0_6 v0_7 v1_2 v1_3 v1_4 v1_5 v1_6 v3_0 v3_4 v4_1 x3_3 x4_2 f5 f6 f7 f8 f9 f10 f11 ++ [(a12, .inl (kA 3, 1, .inr (.inl gl)))]) sz) (wd_Desk_parse kA a0 a1 a2 a3 a4 a5 a6 a7 a8 a9 a10 a11 v0_0 v0_4 v0_6 v0_7 v1_2 v1_3 v1_4 v1_5 v1_6 v3_0 v3_4 v4_1 x3_3 x4_2 f5 f6 of7 of8 f9 f10 f11 ++ [(a12, .inl (kA 3, 1, .inr (.inl (if k = 0 then vp_updL gl 0 r.toInt64 else gl))))])) (va_A (wd_Desk_parse kA a0 a1 a2 a3 a4 a5 a6 a7 a8 a9 a10 a11 v0_0 v0_4 v0_6 v0_7 v1_2 v1_3 v1_4 v1_5 v1_6 v3_0 v3_4 v4_1 x3_3 x4_2 f5 f6 f7 f8 f9 f10 f11 ++ [(a12, .inl (kA 3, 1, .inr (.inl gl)))]) sz)) 1 6 (va_A (wd_Desk_parse kA a0 a1 a2 a3 a4 a5 a6 a7 a8 a9 a10 a11 v0_0 v0_4 v0_6 v0_7 v1_2 v1_3 v1_4 v1_5 v1_6 v3_0 v3_4 v4_1 x3_3 x4_2 f5 f6 f7 f8 f9 f10 f11 ++ [(a12, .inl (kA 3, 1, .inr (.inl gl)))]) sz) := by
  refine va_MetW (cc := b_Law_parse) (maxL := 3) (ret := some .int) (hh := [(0, 8, 11, 15)]) (by decide) rfl ?_
  intro p e s m args below meth c s₁ B hml hv
  obtain ⟨rfl, hsz, hP, hK, hD0, hX, hSt⟩ := hv
  have hx := B.exec
  have hb := B.bytes
  have hr := B.returns
  have hts := atoms_spec (ws := w_Law_parse) B.pre
  have hown : s.vm.findClass R_Law = some m.cls := findClass_of_methodNamed B.named
  have hg := fun (w : Cond) (h : w ∈ gw) => hts w (List.mem_cons_of_mem _ h)
  have htab : c.exceptionTable.toList = [⟨0, 8, 11, 15⟩] := by
    obtain ⟨m9, meth9, c9, hn9, g1, g2, -, -, g5, -⟩ := Cond.codeWith_spec (hts _ List.mem_cons_self)
    cases B.named.symm.trans hn9; cases B.method.symm.trans g1; cases (Stand.of_body B).code.symm.trans g2
    exact rd_tab g5
  have hlocks := B.notSynchronized
  subst hsz
  have hD := hD0.self (sz := s.heap.size)
  generalize hAe : va_A (wd_Desk_parse kA a0 a1 a2 a3 a4 a5 a6 a7 a8 a9 a10 a11 v0_0 v0_4 v0_6 v0_7 v1_2 v1_3 v1_4 v1_5 v1_6 v3_0 v3_4 v4_1 x3_3 x4_2 f5 f6 f7 f8 f9 f10 f11 ++ [(a12, .inl (kA 3, 1, .inr (.inl gl)))]) s.heap.size = A at hD hSt ⊢
  have hA : ∀ q : Nat, s.heap.size ≤ q → A q := fun q h => by rw [← hAe]; exact Or.inr h
  have hS : va_S A s.heap s.heap [] := va_S.rf
  have hl := lv_entry ([.ref a0, .ref a12]) (n := 3) (Nat.le_of_ble_eq_true rfl)
  rw [lg_entry_eq]
  generalize (lg_sl ([.ref a0, .ref a12]) ++ List.replicate (3 - (lg_sl ([.ref a0, .ref a12])).length) Slot.unset).toArray = ls at hl ⊢
  have hl : lv_has ls 3 [(0, .ref a0), (1, .ref a12)] := hl
  refine lv_aload_n hx hb d_Law_parse_0 rfl (lv_at hl 1 rfl) ?_
  refine lv_iconst (v := 0) hx hb d_Law_parse_1 (by decide) ?_
  refine lv_aload_n hx hb d_Law_parse_2 rfl (lv_at hl 0 rfl) ?_
  have hPc := hP.sub (ws' := (wd_Desk_parse kA a0 a1 a2 a3 a4 a5 a6 a7 a8 a9 a10 a11 v0_0 v0_4 v0_6 v0_7 v1_2 v1_3 v1_4 v1_5 v1_6 v3_0 v3_4 v4_1 x3_3 x4_2 f5 f6 f7 f8 f9 f10 f11)) [0, 1, 2, 3, 4, 5, 6, 7, 8, 9, 10, 11] rfl
  have hDc := hD.sub (ws' := (wd_Desk_parse kA a0 a1 a2 a3 a4 a5 a6 a7 a8 a9 a10 a11 v0_0 v0_4 v0_6 v0_7 v1_2 v1_3 v1_4 v1_5 v1_6 v3_0 v3_4 v4_1 x3_3 x4_2 f5 f6 f7 f8 f9 f10 f11)) [0, 1, 2, 3, 4, 5, 6, 7, 8, 9, 10, 11] (by decide) rfl
  have hFc := va_free (wc := (wd_Desk_parse kA a0 a1 a2 a3 a4 a5 a6 a7 a8 a9 a10 a11 v0_0 v0_4 v0_6 v0_7 v1_2 v1_3 v1_4 v1_5 v1_6 v3_0 v3_4 v4_1 x3_3 x4_2 f5 f6 f7 f8 f9 f10 f11)) hD hS hA [0, 1, 2, 3, 4, 5, 6, 7, 8, 9, 10, 11] rfl
  refine rd_callV (As := []) (rest := [.int 0, .ref a12]) ⟨hx, hb, hml, hown, hts⟩ (c_Desk_parse l hlt dC dI kA sa s.heap.size a0 a1 a2 a3 a4 a5 a6 a7 a8 a9 a10 a11 v0_0 v0_4 v0_6 v0_7 v1_2 v1_3 v1_4 v1_5 v1_6 v3_0 v3_4 v4_1 x3_3 x4_2 f5 f6 f7 f8 f9 f10 f11 k r of7 of8 hF) (cwV 0 hts (gw_V gw_586 gw_587 gw_588 gw_418 gw_589) rfl rfl rfl (by decide +kernel) ⟨Nat.le_of_ble_eq_true rfl, Nat.le_of_ble_eq_true rfl⟩) ⟨fun a U g mk q => by obtain ⟨q0, q1, qP, qK, qD, qX, qS⟩ := q; exact ⟨q0, q1, qP, va_K.moved (u := U) (U := U.calling g mk a) (Vm.Alike.refl U.vm) qK, qD, rd_X.same (s := U) rfl qX, rd_St.moved (u := U) (U := U.calling g mk a) (Vm.Alike.refl U.vm) qS⟩, va_recv hK hP (ci := 8) (q0 := 0) rfl rfl, fun U hU hW => ⟨rfl, by rw [hU], by rw [hU]; exact hPc, va_K.moved hW.alike hK, hDc.weaken (fun _ _ _ _ => trivial), rd_X.warm hW hX, by rw [hU]; exact rd_St.moved hW.alike (rd_St.narrow (fun q _ h => hFc q h) hSt)⟩⟩ rfl hl.1 rfl (lv_room (Nat.le_of_ble_eq_true rfl)) d_Law_parse_3 ⟨Nat.le_of_ble_eq_true rfl, Nat.le_of_ble_eq_true rfl⟩ ?_ ?_
  · intro v st₀ t H1 L h0 ht hal hL hQ
    obtain ⟨hk0, hv, hB, hF9⟩ := hQ
    subst hv
    obtain ⟨hP1, hK1, hD1⟩ := hB
    obtain ⟨hz1, hk1, hS⟩ := rd_keep h0 ht hS hFc hL hF9
    rw [ht] at hP1
    obtain ⟨hP, hD⟩ := va_join (wr := [(a12, .inl (kA 3, 1, .inr (.inl gl)))]) (w1 := (wd_Desk_parse kA a0 a1 a2 a3 a4 a5 a6 a7 a8 a9 a10 a11 v0_0 v0_4 v0_6 v0_7 v1_2 v1_3 v1_4 v1_5 v1_6 v3_0 v3_4 v4_1 x3_3 x4_2 f5 f6 of7 of8 f9 f10 f11)) hP hD [0, 1, 2, 3, 4, 5, 6, 7, 8, 9, 10, 11] [12] rfl rfl (by decide) (by decide) hk1 hFc hP1 hD1
    have hP := hP.sub (ws' := (wd_Desk_parse kA a0 a1 a2 a3 a4 a5 a6 a7 a8 a9 a10 a11 v0_0 v0_4 v0_6 v0_7 v1_2 v1_3 v1_4 v1_5 v1_6 v3_0 v3_4 v4_1 x3_3 x4_2 f5 f6 of7 of8 f9 f10 f11 ++ [(a12, .inl (kA 3, 1, .inr (.inl gl)))])) [1, 2, 3, 4, 5, 6, 7, 8, 9, 10, 11, 12, 0] rfl
    have hD := hD.sub (ws' := (wd_Desk_parse kA a0 a1 a2 a3 a4 a5 a6 a7 a8 a9 a10 a11 v0_0 v0_4 v0_6 v0_7 v1_2 v1_3 v1_4 v1_5 v1_6 v3_0 v3_4 v4_1 x3_3 x4_2 f5 f6 of7 of8 f9 f10 f11 ++ [(a12, .inl (kA 3, 1, .inr (.inl gl)))])) [1, 2, 3, 4, 5, 6, 7, 8, 9, 10, 11, 12, 0] (by decide) rfl
    have hcd : cd = 0 := by rcases hk with ⟨h1, h2⟩ | ⟨h1, h2⟩ <;> first | exact h2 | (rw [h1] at hk0; exact absurd hk0 (by decide))
    rw [show (Option.some (Value.int r)).toList ++ [.int 0, .ref a12] = .int r :: [.int 0, .ref a12] from rfl]
    refine lv_i2l (v := r.toInt64) hx hb d_Law_parse_6 rfl ?_
    refine va_last hx hb hK hP hD hS 12 3 rfl rfl (by unfold vp_in; decide) d_Law_parse_7 (fun H locs hP hD hS => ?_)
    have hP : va_P (dC, dI) classes (wd_Desk_parse kA a0 a1 a2 a3 a4 a5 a6 a7 a8 a9 a10 a11 v0_0 v0_4 v0_6 v0_7 v1_2 v1_3 v1_4 v1_5 v1_6 v3_0 v3_4 v4_1 x3_3 x4_2 f5 f6 of7 of8 f9 f10 f11 ++ [(a12, .inl (kA 3, 1, .inr (.inl (vp_updL gl 0 r.toInt64))))]) H := hP
    have hD : va_D A (wd_Desk_parse kA a0 a1 a2 a3 a4 a5 a6 a7 a8 a9 a10 a11 v0_0 v0_4 v0_6 v0_7 v1_2 v1_3 v1_4 v1_5 v1_6 v3_0 v3_4 v4_1 x3_3 x4_2 f5 f6 of7 of8 f9 f10 f11 ++ [(a12, .inl (kA 3, 1, .inr (.inl (vp_updL gl 0 r.toInt64))))]) := hD
    refine lv_goto (tgt := 14) hx hb d_Law_parse_8 (by decide) ?_
    refine lv_iconst (v := 0) hx hb d_Law_parse_14 (by decide) ?_
    exact W.iret (v := 0) hx hb hr (fun t ht hW => ⟨⟨0, (), rfl, hcd.symm, by rw [ht, if_pos hk0]; exact hP, va_K.moved hW.alike hK, (by rw [if_pos hk0]; exact hD)⟩, hS.F ht⟩) hS.2.2 d_Law_parse_15 hlocks
  · intro q E ce st₀ t H1 L h0 ht hal hL hce hcv hcl hQ
    obtain ⟨hkE, hB, hF9⟩ := hQ
    obtain ⟨hP1, hK1, hD1⟩ := hB
    obtain ⟨hz1, hk1, hS⟩ := rd_keep h0 ht hS hFc hL hF9
    rw [ht] at hP1
    obtain ⟨hP, hD⟩ := va_join (wr := [(a12, .inl (kA 3, 1, .inr (.inl gl)))]) (w1 := (wd_Desk_parse kA a0 a1 a2 a3 a4 a5 a6 a7 a8 a9 a10 a11 v0_0 v0_4 v0_6 v0_7 v1_2 v1_3 v1_4 v1_5 v1_6 v3_0 v3_4 v4_1 x3_3 x4_2 f5 f6 of7 of8 f9 f10 f11)) hP hD [0, 1, 2, 3, 4, 5, 6, 7, 8, 9, 10, 11] [12] rfl rfl (by decide) (by decide) hk1 hFc hP1 hD1
    have hP := hP.sub (ws' := (wd_Desk_parse kA a0 a1 a2 a3 a4 a5 a6 a7 a8 a9 a10 a11 v0_0 v0_4 v0_6 v0_7 v1_2 v1_3 v1_4 v1_5 v1_6 v3_0 v3_4 v4_1 x3_3 x4_2 f5 f6 of7 of8 f9 f10 f11 ++ [(a12, .inl (kA 3, 1, .inr (.inl gl)))])) [1, 2, 3, 4, 5, 6, 7, 8, 9, 10, 11, 12, 0] rfl
    have hD := hD.sub (ws' := (wd_Desk_parse kA a0 a1 a2 a3 a4 a5 a6 a7 a8 a9 a10 a11 v0_0 v0_4 v0_6 v0_7 v1_2 v1_3 v1_4 v1_5 v1_6 v3_0 v3_4 v4_1 x3_3 x4_2 f5 f6 of7 of8 f9 f10 f11 ++ [(a12, .inl (kA 3, 1, .inr (.inl gl)))])) [1, 2, 3, 4, 5, 6, 7, 8, 9, 10, 11, 12, 0] (by decide) rfl
    rcases hk with ⟨hk1, hk2⟩ | ⟨hk1, hk2⟩
    · rw [hk1] at hkE; exact absurd hkE (rd_k0 E)
    · have hE : E = xS := rd_k2 (by rw [← hk1]; exact hkE)
      subst hE
      have hk0 : ¬ k = 0 := by rw [hk1]; decide
      refine rd_catch (own := R_Law) (name := xS) (E := xS) hown [] ⟨0, 8, 11, 15⟩ [] htab (fun y hy => nomatch hy) (by decide) (by decide) (hg _ gw_528) (rd_self hX (by decide +kernel)) hce hcv hcl ?_
      refine lv_astore_n (lv' := [(2, .ref q), (0, .ref a0), (1, .ref a12)]) hx hb d_Law_parse_11 rfl hl (by decide) rfl (fun ls hl => ?_)
      refine lv_iconst (v := 1) hx hb d_Law_parse_12 (by decide) ?_
      exact W.iret (v := 1) hx hb hr (fun t ht hW => ⟨⟨1, (), rfl, hk2.symm, by rw [ht, if_neg hk0]; exact hP, va_K.moved hW.alike hK, (by rw [if_neg hk0]; exact hD)⟩, hS.F ht⟩) hS.2.2 d_Law_parse_13 hlocks
-- ===== RepairDeskLaw.repair(LRepairDesk;I[J)I
def w_Law_repair : List Cond := .codeWith y_Law_repair b_Law_repair 4 (some .int) [(0, 9, 12, 15), (0, 9, 15, 13), (0, 9, 18, 20)] :: gw
abbrev rm_Law_repair : Room := { frames := 29, cells := 1, slots := 6, locals := 752 }
set_option maxHeartbeats 4000000 in
set_option maxRecDepth 100000 in
theorem c_Law_repair (l : Launch) (hlt : l.stackTraces = false) (dC : Nat → ClassId) (dI : Nat → Nat → Nat) (kA : Nat → ClassId) (sa : Nat → Nat) (sz : Nat) (a0 a1 a2 a3 a4 a5 a6 a7 a8 a9 a10 a11 a12 a13 a14 a15 a16 a17 a18 a19 a20 a21 : Nat) (v0_0 v3_2 v3_3 v3_4 v3_5 v3_6 v6_0 v6_4 v7_1 : Value) (p1 : Int32) (x2_3 : Int32) (x2_4 : Int32) (x2_5 : Int32) (x4_5 : Int32) (x4_6 : Int32) (x4_7 : Int32) (x6_3 : Int32) (x7_2 : Int32) (f8 : (Nat → Int32)) (f9 : (Nat → Int32)) (f10 : (Nat → Int32)) (f11 : (Nat → Int32)) (f12 : (Nat → Int32)) (f13 : (Nat → Int32)) (f14 : (Nat → Int32)) (f15 : (Nat → Int32)) (f16 : (Nat → Int32)) (f17 : (Nat → Int32)) (f18 : (Nat → Int32)) (f19 : (Nat → Int32)) (f20 : (Nat → Int32)) (gl : Nat → Int64) (k r : Int32) (ox2_3 : Int32) (ox2_4 : Int32) (ox2_5 : Int32) (ox4_5 : Int32) (ox4_6 : Int32) (ox4_7 : Int32) (of10 : (Nat → Int32)) (of11 : (Nat → Int32)) (of12 : (Nat → Int32)) (of15 : (Nat → Int32)) (of16 : (Nat → Int32)) (of17 : (Nat → Int32)) (cd : Int32) (hF : S_Desk_repair p1 x2_3 x2_4 x2_5 x4_5 x4_6 x4_7 x6_3 x7_2 f8 f9 f10 f11 f12 f13 f14 f15 f16 f17 f18 f19 f20 = some (k, r, ox2_3, ox2_4, ox2_5, ox4_5, ox4_6, ox4_7, of10, of11, of12, of15, of16, of17)) (hk : k = 0 ∧ cd = 0 ∨ k = 2 ∧ cd = 1 ∨ k = 1 ∧ cd = 2 ∨ k = 3 ∧ cd = 3) : Met l y_Law_repair w_Law_repair rm_Law_repair (va_Pc [.ref a0, .int p1, .ref a21] (fun U => U.heap.size = sz ∧ va_P (dC, dI) classes (wd_Desk_repair kA a0 a1 a2 a3 a4 a5 a6 a7 a8 a9 a10 a11 a12 a13 a14 a15 a16 a17 a18 a19 a20 v0_0 v3_2 v3_3 v3_4 v3_5 v3_6 v6_0 v6_4 v7_1 x2_3 x2_4 x2_5 x4_5 x4_6 x4_7 x6_3 x7_2 f8 f9 f10 f11 f12 f13 f14 f15 f16 f17 f18 f19 f20 ++ [(a21, .inl (kA 3, 1, .inr (.inl gl)))]) U.heap ∧ va_K (dC, dI) classes (tys_ kA) U ∧ va_D (fun _ => True) (wd_Desk_repair kA a0 a1 a2 a3 a4 a5 a6 a7 a8 a9 a10 a11 a12 a13 a14 a15 a16 a17 a18 a19 a20 v0_0 v3_2 v3_3 v3_4 v3_5 v3_6 v6_0 v6_4 v7_1 x2_3 x2_4 x2_5 x4_5 x4_6 x4_7 x6_3 x7_2 f8 f9 f10 f11 f12 f13 f14 f15 f16 f17 f18 f19 f20 ++ [(a21, .inl (kA 3, 1, .inr (.inl gl)))]) ∧ rd_X sa U ∧ rd_St (va_A (wd_Desk_repair kA a0 a1 a2 a3 a4 a5 a6 a7 a8 a9 a10 a11 a12 a13 a14 a15 a16 a17 a18 a19 a20 v0_0 v3_2 v3_3 v3_4 v3_5 v3_6 v6_0 v6_4 v7_1 x2_3 x2_4 x2_5 x4_5 x4_6 x4_7 x6_3 x7_2 f8 f9 f10 f11 f12 f13 f14 f15 f16 f17 f18 f19 f20 ++ [(a21, .inl (kA 3, 1, .inr (.inl gl)))]) sz) U U.heap)) (va_Qi (fun (r1 : Int32) (_ : Unit) => r1 = cd) (fun _ t => va_P (dC, dI) classes (wd_Desk_repair kA a0 a1 a2 a3 a4 a5 a6 a7 a8 a9 a10 a11 a12 a13 a14 a15 a16 a17 a18 a19 a20 v0_0 v3_2 v3_3 v3_4 v3_5 v3_6 v6_0 v6_4 v7_1 ox2_3 ox2_4 ox2_5 ox4_5 ox4_6 ox4_7 x6_3 x7_2 f8 f9 of10 of11 of12 f13 f14 of15 of16 of17 f18 f19 f20 ++ [(a21, .inl (kA 3, 1, .inr (.inl (if k = 0 then vp_updL gl 0 r.toInt64 else gl))))]) t.heap ∧ va_K (dC, dI) classes (tys_ kA) t ∧ va_D (va_A (wd_Desk_repair kA a0 a1 a2 a3 a4 a5 a6 a7 a8 a9 a10 a11 a12 a13 a14 a15 a16 a17 a18 a19 a20 v0_0 v3_2 v3_3 v3_4 v3_5 v3_6 v6_0 v6_4 v7_1 x2_3 x2_4 x2_5 x4_5 x4_6 x4_7 x6_3 x7_2 f8 f9 f10 f11 f12 f13 f14 f15 f16 f17 f18 f19 f20 ++ [(a21, .inl (kA 3, 1, .inr (.inl gl)))]) sz) (wd_Desk_repair kA a0 a1 a2 a3 a4 a5 a6 a7 a8 a9 a10 a11 a12 a13 a14 a15 a16 a17 a18 a19 a20 v0_0 v3_2 v3_3 v3_4 v3_5 v3_6 v6_0 v6_4 v7_1 ox2_3 ox2_4 ox2_5 ox4_5 ox4_6 ox4_7 x6_3 x7_2 f8 f9 of10 of11 of12 f13 f14 of15 of16 of17 f18 f19 f20 ++ [(a21, .inl (kA 3, 1, .inr (.inl (if k = 0 then vp_updL gl 0 r.toInt64 else gl))))])) (va_A (wd_Desk_repair kA a0 a1 a2 a3 a4 a5 a6 a7 a8 a9 a10 a11 a12 a13 a14 a15 a16 a17 a18 a19 a20 v0_0 v3_2 v3_3 v3_4 v3_5 v3_6 v6_0 v6_4 v7_1 x2_3 x2_4 x2_5 x4_5 x4_6 x4_7 x6_3 x7_2 f8 f9 f10 f11 f12 f13 f14 f15 f16 f17 f18 f19 f20 ++ [(a21, .inl (kA 3, 1, .inr (.inl gl)))]) sz)) 1 6 (va_A (wd_Desk_repair kA a0 a1 a2 a3 a4 a5 a6 a7 a8 a9 a10 a11 a12 a13 a14 a15 a16 a17 a18 a19 a20 v0_0 v3_2 v3_3 v3_4 v3_5 v3_6 v6_0 v6_4 v7_1 x2_3 x2_4 x2_5 x4_5 x4_6 x4_7 x6_3 x7_2 f8 f9 f10 f11 f12 f13 f14 f15 f16 f17 f18 f19 f20 ++ [(a21, .inl (kA 3, 1, .inr (.inl gl)))]) sz) := by
  refine va_MetW (cc := b_Law_repair) (maxL := 4) (ret := some .int) (hh := [(0, 9, 12, 15), (0, 9, 15, 13), (0, 9, 18, 20)]) (by decide) rfl ?_
  intro p e s m args below meth c s₁ B hml hv
  obtain ⟨rfl, hsz, hP, hK, hD0, hX, hSt⟩ := hv
  have hx := B.exec
  have hb := B.bytes
  have hr := B.returns
  have hts := atoms_spec (ws := w_Law_repair) B.pre
  have hown : s.vm.findClass R_Law = some m.cls := findClass_of_methodNamed B.named
  have hg := fun (w : Cond) (h : w ∈ gw) => hts w (List.mem_cons_of_mem _ h)
  have htab : c.exceptionTable.toList = [⟨0, 9, 12, 15⟩, ⟨0, 9, 15, 13⟩, ⟨0, 9, 18, 20⟩] := by
    obtain ⟨m9, meth9, c9, hn9, g1, g2, -, -, g5, -⟩ := Cond.codeWith_spec (hts _ List.mem_cons_self)
    cases B.named.symm.trans hn9; cases B.method.symm.trans g1; cases (Stand.of_body B).code.symm.trans g2
    exact rd_tab g5
  have hlocks := B.notSynchronized
  subst hsz
  have hD := hD0.self (sz := s.heap.size)
  generalize hAe : va_A (wd_Desk_repair kA a0 a1 a2 a3 a4 a5 a6 a7 a8 a9 a10 a11 a12 a13 a14 a15 a16 a17 a18 a19 a20 v0_0 v3_2 v3_3 v3_4 v3_5 v3_6 v6_0 v6_4 v7_1 x2_3 x2_4 x2_5 x4_5 x4_6 x4_7 x6_3 x7_2 f8 f9 f10 f11 f12 f13 f14 f15 f16 f17 f18 f19 f20 ++ [(a21, .inl (kA 3, 1, .inr (.inl gl)))]) s.heap.size = A at hD hSt ⊢
  have hA : ∀ q : Nat, s.heap.size ≤ q → A q := fun q h => by rw [← hAe]; exact Or.inr h
  have hS : va_S A s.heap s.heap [] := va_S.rf
  have hl := lv_entry ([.ref a0, .int p1, .ref a21]) (n := 4) (Nat.le_of_ble_eq_true rfl)
  rw [lg_entry_eq]
  generalize (lg_sl ([.ref a0, .int p1, .ref a21]) ++ List.replicate (4 - (lg_sl ([.ref a0, .int p1, .ref a21])).length) Slot.unset).toArray = ls at hl ⊢
  have hl : lv_has ls 4 [(0, .ref a0), (1, .int p1), (2, .ref a21)] := hl
  refine lv_aload_n hx hb d_Law_repair_0 rfl (lv_at hl 2 rfl) ?_
  refine lv_iconst (v := 0) hx hb d_Law_repair_1 (by decide) ?_
  refine lv_aload_n hx hb d_Law_repair_2 rfl (lv_at hl 0 rfl) ?_
  refine lv_iload_n hx hb d_Law_repair_3 rfl (lv_at hl 1 rfl) ?_
  have hPc := hP.sub (ws' := (wd_Desk_repair kA a0 a1 a2 a3 a4 a5 a6 a7 a8 a9 a10 a11 a12 a13 a14 a15 a16 a17 a18 a19 a20 v0_0 v3_2 v3_3 v3_4 v3_5 v3_6 v6_0 v6_4 v7_1 x2_3 x2_4 x2_5 x4_5 x4_6 x4_7 x6_3 x7_2 f8 f9 f10 f11 f12 f13 f14 f15 f16 f17 f18 f19 f20)) [0, 1, 2, 3, 4, 5, 6, 7, 8, 9, 10, 11, 12, 13, 14, 15, 16, 17, 18, 19, 20] rfl
  have hDc := hD.sub (ws' := (wd_Desk_repair kA a0 a1 a2 a3 a4 a5 a6 a7 a8 a9 a10 a11 a12 a13 a14 a15 a16 a17 a18 a19 a20 v0_0 v3_2 v3_3 v3_4 v3_5 v3_6 v6_0 v6_4 v7_1 x2_3 x2_4 x2_5 x4_5 x4_6 x4_7 x6_3 x7_2 f8 f9 f10 f11 f12 f13 f14 f15 f16 f17 f18 f19 f20)) [0, 1, 2, 3, 4, 5, 6, 7, 8, 9, 10, 11, 12, 13, 14, 15, 16, 17, 18, 19, 20] (by decide) rfl
  have hFc := va_free (wc := (wd_Desk_repair kA a0 a1 a2 a3 a4 a5 a6 a7 a8 a9 a10 a11 a12 a13 a14 a15 a16 a17 a18 a19 a20 v0_0 v3_2 v3_3 v3_4 v3_5 v3_6 v6_0 v6_4 v7_1 x2_3 x2_4 x2_5 x4_5 x4_6 x4_7 x6_3 x7_2 f8 f9 f10 f11 f12 f13 f14 f15 f16 f17 f18 f19 f20)) hD hS hA [0, 1, 2, 3, 4, 5, 6, 7, 8, 9, 10, 11, 12, 13, 14, 15, 16, 17, 18, 19, 20] rfl
  refine rd_callV (As := [.int p1]) (rest := [.int 0, .ref a21]) ⟨hx, hb, hml, hown, hts⟩ (c_Desk_repair l hlt dC dI kA sa s.heap.size a0 a1 a2 a3 a4 a5 a6 a7 a8 a9 a10 a11 a12 a13 a14 a15 a16 a17 a18 a19 a20 v0_0 v3_2 v3_3 v3_4 v3_5 v3_6 v6_0 v6_4 v7_1 p1 x2_3 x2_4 x2_5 x4_5 x4_6 x4_7 x6_3 x7_2 f8 f9 f10 f11 f12 f13 f14 f15 f16 f17 f18 f19 f20 k r ox2_3 ox2_4 ox2_5 ox4_5 ox4_6 ox4_7 of10 of11 of12 of15 of16 of17 hF) (cwV 1 hts (gw_V gw_593 gw_594 gw_595 gw_418 gw_596) rfl rfl rfl (by decide +kernel) ⟨Nat.le_of_ble_eq_true rfl, Nat.le_of_ble_eq_true rfl⟩) ⟨fun a U g mk q => by obtain ⟨q0, q1, qP, qK, qD, qX, qS⟩ := q; exact ⟨q0, q1, qP, va_K.moved (u := U) (U := U.calling g mk a) (Vm.Alike.refl U.vm) qK, qD, rd_X.same (s := U) rfl qX, rd_St.moved (u := U) (U := U.calling g mk a) (Vm.Alike.refl U.vm) qS⟩, va_recv hK hP (ci := 8) (q0 := 0) rfl rfl, fun U hU hW => ⟨rfl, by rw [hU], by rw [hU]; exact hPc, va_K.moved hW.alike hK, hDc.weaken (fun _ _ _ _ => trivial), rd_X.warm hW hX, by rw [hU]; exact rd_St.moved hW.alike (rd_St.narrow (fun q _ h => hFc q h) hSt)⟩⟩ rfl hl.1 rfl (lv_room (Nat.le_of_ble_eq_true rfl)) d_Law_repair_4 ⟨Nat.le_of_ble_eq_true rfl, Nat.le_of_ble_eq_true rfl⟩ ?_ ?_
  · intro v st₀ t H1 L h0 ht hal hL hQ
    obtain ⟨hk0, hv, hB, hF9⟩ := hQ
    subst hv
    obtain ⟨hP1, hK1, hD1⟩ := hB
    obtain ⟨hz1, hk1, hS⟩ := rd_keep h0 ht hS hFc hL hF9
    rw [ht] at hP1
    obtain ⟨hP, hD⟩ := va_join (wr := [(a21, .inl (kA 3, 1, .inr (.inl gl)))]) (w1 := (wd_Desk_repair kA a0 a1 a2 a3 a4 a5 a6 a7 a8 a9 a10 a11 a12 a13 a14 a15 a16 a17 a18 a19 a20 v0_0 v3_2 v3_3 v3_4 v3_5 v3_6 v6_0 v6_4 v7_1 ox2_3 ox2_4 ox2_5 ox4_5 ox4_6 ox4_7 x6_3 x7_2 f8 f9 of10 of11 of12 f13 f14 of15 of16 of17 f18 f19 f20)) hP hD [0, 1, 2, 3, 4, 5, 6, 7, 8, 9, 10, 11, 12, 13, 14, 15, 16, 17, 18, 19, 20] [21] rfl rfl (by decide) (by decide) hk1 hFc hP1 hD1
    have hP := hP.sub (ws' := (wd_Desk_repair kA a0 a1 a2 a3 a4 a5 a6 a7 a8 a9 a10 a11 a12 a13 a14 a15 a16 a17 a18 a19 a20 v0_0 v3_2 v3_3 v3_4 v3_5 v3_6 v6_0 v6_4 v7_1 ox2_3 ox2_4 ox2_5 ox4_5 ox4_6 ox4_7 x6_3 x7_2 f8 f9 of10 of11 of12 f13 f14 of15 of16 of17 f18 f19 f20 ++ [(a21, .inl (kA 3, 1, .inr (.inl gl)))])) [1, 2, 3, 4, 5, 6, 7, 8, 9, 10, 11, 12, 13, 14, 15, 16, 17, 18, 19, 20, 21, 0] rfl
    have hD := hD.sub (ws' := (wd_Desk_repair kA a0 a1 a2 a3 a4 a5 a6 a7 a8 a9 a10 a11 a12 a13 a14 a15 a16 a17 a18 a19 a20 v0_0 v3_2 v3_3 v3_4 v3_5 v3_6 v6_0 v6_4 v7_1 ox2_3 ox2_4 ox2_5 ox4_5 ox4_6 ox4_7 x6_3 x7_2 f8 f9 of10 of11 of12 f13 f14 of15 of16 of17 f18 f19 f20 ++ [(a21, .inl (kA 3, 1, .inr (.inl gl)))])) [1, 2, 3, 4, 5, 6, 7, 8, 9, 10, 11, 12, 13, 14, 15, 16, 17, 18, 19, 20, 21, 0] (by decide) rfl
    have hcd : cd = 0 := by rcases hk with ⟨h1, h2⟩ | ⟨h1, h2⟩ | ⟨h1, h2⟩ | ⟨h1, h2⟩ <;> first | exact h2 | (rw [h1] at hk0; exact absurd hk0 (by decide))
    rw [show (Option.some (Value.int r)).toList ++ [.int 0, .ref a21] = .int r :: [.int 0, .ref a21] from rfl]
    refine lv_i2l (v := r.toInt64) hx hb d_Law_repair_7 rfl ?_
    refine va_last hx hb hK hP hD hS 21 3 rfl rfl (by unfold vp_in; decide) d_Law_repair_8 (fun H locs hP hD hS => ?_)
    have hP : va_P (dC, dI) classes (wd_Desk_repair kA a0 a1 a2 a3 a4 a5 a6 a7 a8 a9 a10 a11 a12 a13 a14 a15 a16 a17 a18 a19 a20 v0_0 v3_2 v3_3 v3_4 v3_5 v3_6 v6_0 v6_4 v7_1 ox2_3 ox2_4 ox2_5 ox4_5 ox4_6 ox4_7 x6_3 x7_2 f8 f9 of10 of11 of12 f13 f14 of15 of16 of17 f18 f19 f20 ++ [(a21, .inl (kA 3, 1, .inr (.inl (vp_updL gl 0 r.toInt64))))]) H := hP
    have hD : va_D A (wd_Desk_repair kA a0 a1 a2 a3 a4 a5 a6 a7 a8 a9 a10 a11 a12 a13 a14 a15 a16 a17 a18 a19 a20 v0_0 v3_2 v3_3 v3_4 v3_5 v3_6 v6_0 v6_4 v7_1 ox2_3 ox2_4 ox2_5 ox4_5 ox4_6 ox4_7 x6_3 x7_2 f8 f9 of10 of11 of12 f13 f14 of15 of16 of17 f18 f19 f20 ++ [(a21, .inl (kA 3, 1, .inr (.inl (vp_updL gl 0 r.toInt64))))]) := hD
    refine lv_goto (tgt := 21) hx hb d_Law_repair_9 (by decide) ?_
    refine lv_iconst (v := 0) hx hb d_Law_repair_21 (by decide) ?_
    exact W.iret (v := 0) hx hb hr (fun t ht hW => ⟨⟨0, (), rfl, hcd.symm, by rw [ht, if_pos hk0]; exact hP, va_K.moved hW.alike hK, (by rw [if_pos hk0]; exact hD)⟩, hS.F ht⟩) hS.2.2 d_Law_repair_22 hlocks
  · intro q E ce st₀ t H1 L h0 ht hal hL hce hcv hcl hQ
    obtain ⟨hkE, hB, hF9⟩ := hQ
    obtain ⟨hP1, hK1, hD1⟩ := hB
    obtain ⟨hz1, hk1, hS⟩ := rd_keep h0 ht hS hFc hL hF9
    rw [ht] at hP1
    obtain ⟨hP, hD⟩ := va_join (wr := [(a21, .inl (kA 3, 1, .inr (.inl gl)))]) (w1 := (wd_Desk_repair kA a0 a1 a2 a3 a4 a5 a6 a7 a8 a9 a10 a11 a12 a13 a14 a15 a16 a17 a18 a19 a20 v0_0 v3_2 v3_3 v3_4 v3_5 v3_6 v6_0 v6_4 v7_1 ox2_3 ox2_4 ox2_5 ox4_5 ox4_6 ox4_7 x6_3 x7_2 f8 f9 of10 of11 of12 f13 f14 of15 of16 of17 f18 f19 f20)) hP hD [0, 1, 2, 3, 4, 5, 6, 7, 8, 9, 10, 11, 12, 13, 14, 15, 16, 17, 18, 19, 20] [21] rfl rfl (by decide) (by decide) hk1 hFc hP1 hD1
    have hP := hP.sub (ws' := (wd_Desk_repair kA a0 a1 a2 a3 a4 a5 a6 a7 a8 a9 a10 a11 a12 a13 a14 a15 a16 a17 a18 a19 a20 v0_0 v3_2 v3_3 v3_4 v3_5 v3_6 v6_0 v6_4 v7_1 ox2_3 ox2_4 ox2_5 ox4_5 ox4_6 ox4_7 x6_3 x7_2 f8 f9 of10 of11 of12 f13 f14 of15 of16 of17 f18 f19 f20 ++ [(a21, .inl (kA 3, 1, .inr (.inl gl)))])) [1, 2, 3, 4, 5, 6, 7, 8, 9, 10, 11, 12, 13, 14, 15, 16, 17, 18, 19, 20, 21, 0] rfl
    have hD := hD.sub (ws' := (wd_Desk_repair kA a0 a1 a2 a3 a4 a5 a6 a7 a8 a9 a10 a11 a12 a13 a14 a15 a16 a17 a18 a19 a20 v0_0 v3_2 v3_3 v3_4 v3_5 v3_6 v6_0 v6_4 v7_1 ox2_3 ox2_4 ox2_5 ox4_5 ox4_6 ox4_7 x6_3 x7_2 f8 f9 of10 of11 of12 f13 f14 of15 of16 of17 f18 f19 f20 ++ [(a21, .inl (kA 3, 1, .inr (.inl gl)))])) [1, 2, 3, 4, 5, 6, 7, 8, 9, 10, 11, 12, 13, 14, 15, 16, 17, 18, 19, 20, 21, 0] (by decide) rfl
    rcases hk with ⟨hk1, hk2⟩ | ⟨hk1, hk2⟩ | ⟨hk1, hk2⟩ | ⟨hk1, hk2⟩
    · rw [hk1] at hkE; exact absurd hkE (rd_k0 E)
    · have hE : E = xS := rd_k2 (by rw [← hk1]; exact hkE)
      subst hE
      have hk0 : ¬ k = 0 := by rw [hk1]; decide
      refine rd_catch (own := R_Law) (name := xS) (E := xS) hown [] ⟨0, 9, 12, 15⟩ [⟨0, 9, 15, 13⟩, ⟨0, 9, 18, 20⟩] htab (fun y hy => nomatch hy) (by decide) (by decide) (hg _ gw_528) (rd_self hX (by decide +kernel)) hce hcv hcl ?_
      refine lv_astore_n (lv' := [(3, .ref q), (0, .ref a0), (1, .int p1), (2, .ref a21)]) hx hb d_Law_repair_12 rfl hl (by decide) rfl (fun ls hl => ?_)
      refine lv_iconst (v := 1) hx hb d_Law_repair_13 (by decide) ?_
      exact W.iret (v := 1) hx hb hr (fun t ht hW => ⟨⟨1, (), rfl, hk2.symm, by rw [ht, if_neg hk0]; exact hP, va_K.moved hW.alike hK, (by rw [if_neg hk0]; exact hD)⟩, hS.F ht⟩) hS.2.2 d_Law_repair_14 hlocks
    · have hE : E = xI := rd_k1 (by rw [← hk1]; exact hkE)
      subst hE
      have hk0 : ¬ k = 0 := by rw [hk1]; decide
      refine rd_catch (own := R_Law) (name := xI) (E := xI) hown [⟨0, 9, 12, 15⟩] ⟨0, 9, 15, 13⟩ [⟨0, 9, 18, 20⟩] htab (fun y hy => by
        simp only [List.mem_cons, List.not_mem_nil, or_false] at hy
        rcases hy with rfl
        · exact ⟨by decide, by decide, xS, hg _ gw_528, hX.2.2 (xI, xS) (by decide +kernel)⟩) (by decide) (by decide) (hg _ gw_527) (rd_self hX (by decide +kernel)) hce hcv hcl ?_
      refine lv_astore_n (lv' := [(3, .ref q), (0, .ref a0), (1, .int p1), (2, .ref a21)]) hx hb d_Law_repair_15 rfl hl (by decide) rfl (fun ls hl => ?_)
      refine lv_iconst (v := 2) hx hb d_Law_repair_16 (by decide) ?_
      exact W.iret (v := 2) hx hb hr (fun t ht hW => ⟨⟨2, (), rfl, hk2.symm, by rw [ht, if_neg hk0]; exact hP, va_K.moved hW.alike hK, (by rw [if_neg hk0]; exact hD)⟩, hS.F ht⟩) hS.2.2 d_Law_repair_17 hlocks
    · have hE : E = xU := rd_k3 (by rw [← hk1]; exact hkE)
      subst hE
      have hk0 : ¬ k = 0 := by rw [hk1]; decide
      refine rd_catch (own := R_Law) (name := xU) (E := xU) hown [⟨0, 9, 12, 15⟩, ⟨0, 9, 15, 13⟩] ⟨0, 9, 18, 20⟩ [] htab (fun y hy => by
        simp only [List.mem_cons, List.not_mem_nil, or_false] at hy
        rcases hy with rfl | rfl
        · exact ⟨by decide, by decide, xS, hg _ gw_528, hX.2.2 (xU, xS) (by decide +kernel)⟩
        · exact ⟨by decide, by decide, xI, hg _ gw_527, hX.2.2 (xU, xI) (by decide +kernel)⟩) (by decide) (by decide) (hg _ gw_559) (rd_self hX (by decide +kernel)) hce hcv hcl ?_
      refine lv_astore_n (lv' := [(3, .ref q), (0, .ref a0), (1, .int p1), (2, .ref a21)]) hx hb d_Law_repair_18 rfl hl (by decide) rfl (fun ls hl => ?_)
      refine lv_iconst (v := 3) hx hb d_Law_repair_19 (by decide) ?_
      exact W.iret (v := 3) hx hb hr (fun t ht hW => ⟨⟨3, (), rfl, hk2.symm, by rw [ht, if_neg hk0]; exact hP, va_K.moved hW.alike hK, (by rw [if_neg hk0]; exact hD)⟩, hS.F ht⟩) hS.2.2 d_Law_repair_20 hlocks
-- ===== RepairDeskLaw.reach(LRepairDesk;I[J)I
def w_Law_reach : List Cond := .codeWith y_Law_reach b_Law_reach 4 (some .int) [(0, 9, 12, 35)] :: gw
abbrev rm_Law_reach : Room := { frames := 7, cells := 1, slots := 6, locals := 111 }
set_option maxHeartbeats 4000000 in
set_option maxRecDepth 100000 in
theorem c_Law_reach (l : Launch) (hlt : l.stackTraces = false) (dC : Nat → ClassId) (dI : Nat → Nat → Nat) (kA : Nat → ClassId) (sa : Nat → Nat) (sz : Nat) (a0 a1 a2 a3 : Nat) (v0_0 v0_1 v0_2 v0_3 v0_4 v0_5 v0_7 v1_0 v1_1 v1_4 v1_5 : Value) (p1 : Int32) (x1_3 : Int32) (f2 : (Nat → Int32)) (gl : Nat → Int64) (k r : Int32) (cd : Int32) (hF : S_Desk_reach p1 x1_3 f2 = some (k, r)) (hk : k = 0 ∧ cd = 0 ∨ k = 4 ∧ cd = 1) : Met l y_Law_reach w_Law_reach rm_Law_reach (va_Pc [.ref a0, .int p1, .ref a3] (fun U => U.heap.size = sz ∧ va_P (dC, dI) classes (wd_Desk_reach kA a0 a1 a2 v0_0 v0_1 v0_2 v0_3 v0_4 v0_5 v0_7 v1_0 v1_1 v1_4 v1_5 x1_3 f2 ++ [(a3, .inl (kA 3, 1, .inr (.inl gl)))]) U.heap ∧ va_K (dC, dI) classes (tys_ kA) U ∧ va_D (fun _ => True) (wd_Desk_reach kA a0 a1 a2 v0_0 v0_1 v0_2 v0_3 v0_4 v0_5 v0_7 v1_0 v1_1 v1_4 v1_5 x1_3 f2 ++ [(a3, .inl (kA 3, 1, .inr (.inl gl)))]) ∧ rd_X sa U ∧ rd_St (va_A (wd_Desk_reach kA a0 a1 a2 v0_0 v0_1 v0_2 v0_3 v0_4 v0_5 v0_7 v1_0 v1_1 v1_4 v1_5 x1_3 f2 ++ [(a3, .inl (kA 3, 1, .inr (.inl gl)))]) sz) U U.heap)) (va_Qi (fun (r1 : Int32) (_ : Unit) => r1 = cd) (fun _ t => va_P (dC, dI) classes (wd_Desk_reach kA a0 a1 a2 v0_0 v0_1 v0_2 v0_3 v0_4 v0_5 v0_7 v1_0 v1_1 v1_4 v1_5 x1_3 f2 ++ [(a3, .inl (kA 3, 1, .inr (.inl (if k = 0 then vp_updL gl 0 r.toInt64 else gl))))]) t.heap ∧ va_K (dC, dI) classes (tys_ kA) t ∧ va_D (va_A (wd_Desk_reach kA a0 a1 a2 v0_0 v0_1 v0_2 v0_3 v0_4 v0_5 v0_7 v1_0 v1_1 v1_4 v1_5 x1_3 f2 ++ [(a3, .inl (kA 3, 1, .inr (.inl gl)))]) sz) (wd_Desk_reach kA a0 a1 a2 v0_0 v0_1 v0_2 v0_3 v0_4 v0_5 v0_7 v1_0 v1_1 v1_4 v1_5 x1_3 f2 ++ [(a3, .inl (kA 3, 1, .inr (.inl (if k = 0 then vp_updL gl 0 r.toInt64 else gl))))])) (va_A (wd_Desk_reach kA a0 a1 a2 v0_0 v0_1 v0_2 v0_3 v0_4 v0_5 v0_7 v1_0 v1_1 v1_4 v1_5 x1_3 f2 ++ [(a3, .inl (kA 3, 1, .inr (.inl gl)))]) sz)) 1 6 (va_A (wd_Desk_reach kA a0 a1 a2 v0_0 v0_1 v0_2 v0_3 v0_4 v0_5 v0_7 v1_0 v1_1 v1_4 v1_5 x1_3 f2 ++ [(a3, .inl (kA 3, 1, .inr (.inl gl)))]) sz) := by
  refine va_MetW (cc := b_Law_reach) (maxL := 4) (ret := some .int) (hh := [(0, 9, 12, 35)]) (by decide) rfl ?_
  intro p e s m args below meth c s₁ B hml hv
  obtain ⟨rfl, hsz, hP, hK, hD0, hX, hSt⟩ := hv
  have hx := B.exec
  have hb := B.bytes
  have hr := B.returns
  have hts := atoms_spec (ws := w_Law_reach) B.pre
  have hown : s.vm.findClass R_Law = some m.cls := findClass_of_methodNamed B.named
  have hg := fun (w : Cond) (h : w ∈ gw) => hts w (List.mem_cons_of_mem _ h)
  have htab : c.exceptionTable.toList = [⟨0, 9, 12, 35⟩] := by
    obtain ⟨m9, meth9, c9, hn9, g1, g2, -, -, g5, -⟩ := Cond.codeWith_spec (hts _ List.mem_cons_self)
    cases B.named.symm.trans hn9; cases B.method.symm.trans g1; cases (Stand.of_body B).code.symm.trans g2
    exact rd_tab g5
  have hlocks := B.notSynchronized
  subst hsz
  have hD := hD0.self (sz := s.heap.size)
  generalize hAe : va_A (wd_Desk_reach kA a0 a1 a2 v0_0 v0_1 v0_2 v0_3 v0_4 v0_5 v0_7 v1_0 v1_1 v1_4 v1_5 x1_3 f2 ++ [(a3, .inl (kA 3, 1, .inr (.inl gl)))]) s.heap.size = A at hD hSt ⊢
  have hA : ∀ q : Nat, s.heap.size ≤ q → A q := fun q h => by rw [← hAe]; exact Or.inr h
  have hS : va_S A s.heap s.heap [] := va_S.rf
  have hl := lv_entry ([.ref a0, .int p1, .ref a3]) (n := 4) (Nat.le_of_ble_eq_true rfl)
  rw [lg_entry_eq]
  generalize (lg_sl ([.ref a0, .int p1, .ref a3]) ++ List.replicate (4 - (lg_sl ([.ref a0, .int p1, .ref a3])).length) Slot.unset).toArray = ls at hl ⊢
  have hl : lv_has ls 4 [(0, .ref a0), (1, .int p1), (2, .ref a3)] := hl
  refine lv_aload_n hx hb d_Law_reach_0 rfl (lv_at hl 2 rfl) ?_
  refine lv_iconst (v := 0) hx hb d_Law_reach_1 (by decide) ?_
  refine lv_aload_n hx hb d_Law_reach_2 rfl (lv_at hl 0 rfl) ?_
  refine lv_iload_n hx hb d_Law_reach_3 rfl (lv_at hl 1 rfl) ?_
  have hPc := hP.sub (ws' := (wd_Desk_reach kA a0 a1 a2 v0_0 v0_1 v0_2 v0_3 v0_4 v0_5 v0_7 v1_0 v1_1 v1_4 v1_5 x1_3 f2)) [0, 1, 2] rfl
  have hDc := hD.sub (ws' := (wd_Desk_reach kA a0 a1 a2 v0_0 v0_1 v0_2 v0_3 v0_4 v0_5 v0_7 v1_0 v1_1 v1_4 v1_5 x1_3 f2)) [0, 1, 2] (by decide) rfl
  have hFc := va_free (wc := (wd_Desk_reach kA a0 a1 a2 v0_0 v0_1 v0_2 v0_3 v0_4 v0_5 v0_7 v1_0 v1_1 v1_4 v1_5 x1_3 f2)) hD hS hA [0, 1, 2] rfl
  refine rd_callV (As := [.int p1]) (rest := [.int 0, .ref a3]) ⟨hx, hb, hml, hown, hts⟩ (c_Desk_reach l hlt dC dI kA sa s.heap.size a0 a1 a2 v0_0 v0_1 v0_2 v0_3 v0_4 v0_5 v0_7 v1_0 v1_1 v1_4 v1_5 p1 x1_3 f2 k r hF) (cwV 1 hts (gw_V gw_605 gw_606 gw_607 gw_418 gw_608) rfl rfl rfl (by decide +kernel) ⟨Nat.le_of_ble_eq_true rfl, Nat.le_of_ble_eq_true rfl⟩) ⟨fun a U g mk q => by obtain ⟨q0, q1, qP, qK, qD, qX, qS⟩ := q; exact ⟨q0, q1, qP, va_K.moved (u := U) (U := U.calling g mk a) (Vm.Alike.refl U.vm) qK, qD, rd_X.same (s := U) rfl qX, rd_St.moved (u := U) (U := U.calling g mk a) (Vm.Alike.refl U.vm) qS⟩, va_recv hK hP (ci := 8) (q0 := 0) rfl rfl, fun U hU hW => ⟨rfl, by rw [hU], by rw [hU]; exact hPc, va_K.moved hW.alike hK, hDc.weaken (fun _ _ _ _ => trivial), rd_X.warm hW hX, by rw [hU]; exact rd_St.moved hW.alike (rd_St.narrow (fun q _ h => hFc q h) hSt)⟩⟩ rfl hl.1 rfl (lv_room (Nat.le_of_ble_eq_true rfl)) d_Law_reach_4 ⟨Nat.le_of_ble_eq_true rfl, Nat.le_of_ble_eq_true rfl⟩ ?_ ?_
  · intro v st₀ t H1 L h0 ht hal hL hQ
    obtain ⟨hk0, hv, hB, hF9⟩ := hQ
    subst hv
    obtain ⟨hP1, hK1, hD1⟩ := hB
    obtain ⟨hz1, hk1, hS⟩ := rd_keep h0 ht hS hFc hL hF9
    rw [ht] at hP1
    obtain ⟨hP, hD⟩ := va_join (wr := [(a3, .inl (kA 3, 1, .inr (.inl gl)))]) (w1 := (wd_Desk_reach kA a0 a1 a2 v0_0 v0_1 v0_2 v0_3 v0_4 v0_5 v0_7 v1_0 v1_1 v1_4 v1_5 x1_3 f2)) hP hD [0, 1, 2] [3] rfl rfl (by decide) (by decide) hk1 hFc hP1 hD1
    have hP := hP.sub (ws' := (wd_Desk_reach kA a0 a1 a2 v0_0 v0_1 v0_2 v0_3 v0_4 v0_5 v0_7 v1_0 v1_1 v1_4 v1_5 x1_3 f2 ++ [(a3, .inl (kA 3, 1, .inr (.inl gl)))])) [1, 2, 3, 0] rfl
    have hD := hD.sub (ws' := (wd_Desk_reach kA a0 a1 a2 v0_0 v0_1 v0_2 v0_3 v0_4 v0_5 v0_7 v1_0 v1_1 v1_4 v1_5 x1_3 f2 ++ [(a3, .inl (kA 3, 1, .inr (.inl gl)))])) [1, 2, 3, 0] (by decide) rfl
    have hcd : cd = 0 := by rcases hk with ⟨h1, h2⟩ | ⟨h1, h2⟩ <;> first | exact h2 | (rw [h1] at hk0; exact absurd hk0 (by decide))
    rw [show (Option.some (Value.int r)).toList ++ [.int 0, .ref a3] = .int r :: [.int 0, .ref a3] from rfl]
    refine lv_i2l (v := r.toInt64) hx hb d_Law_reach_7 rfl ?_
    refine va_last hx hb hK hP hD hS 3 3 rfl rfl (by unfold vp_in; decide) d_Law_reach_8 (fun H locs hP hD hS => ?_)
    have hP : va_P (dC, dI) classes (wd_Desk_reach kA a0 a1 a2 v0_0 v0_1 v0_2 v0_3 v0_4 v0_5 v0_7 v1_0 v1_1 v1_4 v1_5 x1_3 f2 ++ [(a3, .inl (kA 3, 1, .inr (.inl (vp_updL gl 0 r.toInt64))))]) H := hP
    have hD : va_D A (wd_Desk_reach kA a0 a1 a2 v0_0 v0_1 v0_2 v0_3 v0_4 v0_5 v0_7 v1_0 v1_1 v1_4 v1_5 x1_3 f2 ++ [(a3, .inl (kA 3, 1, .inr (.inl (vp_updL gl 0 r.toInt64))))]) := hD
    refine lv_goto (tgt := 15) hx hb d_Law_reach_9 (by decide) ?_
    refine lv_iconst (v := 0) hx hb d_Law_reach_15 (by decide) ?_
    exact W.iret (v := 0) hx hb hr (fun t ht hW => ⟨⟨0, (), rfl, hcd.symm, by rw [ht, if_pos hk0]; exact hP, va_K.moved hW.alike hK, (by rw [if_pos hk0]; exact hD)⟩, hS.F ht⟩) hS.2.2 d_Law_reach_16 hlocks
  · intro q E ce st₀ t H1 L h0 ht hal hL hce hcv hcl hQ
    obtain ⟨hkE, hB, hF9⟩ := hQ
    obtain ⟨hP1, hK1, hD1⟩ := hB
    obtain ⟨hz1, hk1, hS⟩ := rd_keep h0 ht hS hFc hL hF9
    rw [ht] at hP1
    obtain ⟨hP, hD⟩ := va_join (wr := [(a3, .inl (kA 3, 1, .inr (.inl gl)))]) (w1 := (wd_Desk_reach kA a0 a1 a2 v0_0 v0_1 v0_2 v0_3 v0_4 v0_5 v0_7 v1_0 v1_1 v1_4 v1_5 x1_3 f2)) hP hD [0, 1, 2] [3] rfl rfl (by decide) (by decide) hk1 hFc hP1 hD1
    have hP := hP.sub (ws' := (wd_Desk_reach kA a0 a1 a2 v0_0 v0_1 v0_2 v0_3 v0_4 v0_5 v0_7 v1_0 v1_1 v1_4 v1_5 x1_3 f2 ++ [(a3, .inl (kA 3, 1, .inr (.inl gl)))])) [1, 2, 3, 0] rfl
    have hD := hD.sub (ws' := (wd_Desk_reach kA a0 a1 a2 v0_0 v0_1 v0_2 v0_3 v0_4 v0_5 v0_7 v1_0 v1_1 v1_4 v1_5 x1_3 f2 ++ [(a3, .inl (kA 3, 1, .inr (.inl gl)))])) [1, 2, 3, 0] (by decide) rfl
    rcases hk with ⟨hk1, hk2⟩ | ⟨hk1, hk2⟩
    · rw [hk1] at hkE; exact absurd hkE (rd_k0 E)
    · have hE : E = xN := rd_k4 (by rw [← hk1]; exact hkE)
      subst hE
      have hk0 : ¬ k = 0 := by rw [hk1]; decide
      refine rd_catch (own := R_Law) (name := xN) (E := xN) hown [] ⟨0, 9, 12, 35⟩ [] htab (fun y hy => nomatch hy) (by decide) (by decide) (hg _ gw_604) (rd_self hX (by decide +kernel)) hce hcv hcl ?_
      refine lv_astore_n (lv' := [(3, .ref q), (0, .ref a0), (1, .int p1), (2, .ref a3)]) hx hb d_Law_reach_12 rfl hl (by decide) rfl (fun ls hl => ?_)
      refine lv_iconst (v := 1) hx hb d_Law_reach_13 (by decide) ?_
      exact W.iret (v := 1) hx hb hr (fun t ht hW => ⟨⟨1, (), rfl, hk2.symm, by rw [ht, if_neg hk0]; exact hP, va_K.moved hW.alike hK, (by rw [if_neg hk0]; exact hD)⟩, hS.F ht⟩) hS.2.2 d_Law_reach_14 hlocks
-- ===== RepairDeskLaw.apply(LRepairDesk;I[J)I
def w_Law_apply : List Cond := .codeWith y_Law_apply b_Law_apply 4 (some .int) [(0, 9, 12, 35), (0, 9, 15, 15)] :: gw
abbrev rm_Law_apply : Room := { frames := 7, cells := 1, slots := 6, locals := 111 }
set_option maxHeartbeats 4000000 in
set_option maxRecDepth 100000 in
theorem c_Law_apply (l : Launch) (hlt : l.stackTraces = false) (dC : Nat → ClassId) (dI : Nat → Nat → Nat) (kA : Nat → ClassId) (sa : Nat → Nat) (sz : Nat) (a0 a1 a2 a3 a4 a5 a6 a7 : Nat) (v0_0 v0_1 v0_2 v0_4 v0_5 v0_7 v1_2 : Value) (p1 : Int32) (x1_3 : Int32) (x1_4 : Int32) (x1_5 : Int32) (x2_2 : Int32) (f3 : (Nat → Int32)) (f4 : (Nat → Int32)) (f5 : (Nat → Int32)) (f6 : (Nat → Int32)) (gl : Nat → Int64) (k r : Int32) (ox1_3 : Int32) (ox1_4 : Int32) (ox1_5 : Int32) (ox2_2 : Int32) (of5 : (Nat → Int32)) (of6 : (Nat → Int32)) (cd : Int32) (hF : S_Desk_apply p1 x1_3 x1_4 x1_5 x2_2 f3 f4 f5 f6 = some (k, r, ox1_3, ox1_4, ox1_5, ox2_2, of5, of6)) (hk : k = 0 ∧ cd = 0 ∨ k = 4 ∧ cd = 1 ∨ k = 2 ∧ cd = 2) : Met l y_Law_apply w_Law_apply rm_Law_apply (va_Pc [.ref a0, .int p1, .ref a7] (fun U => U.heap.size = sz ∧ va_P (dC, dI) classes (wd_Desk_apply kA a0 a1 a2 a3 a4 a5 a6 v0_0 v0_1 v0_2 v0_4 v0_5 v0_7 v1_2 x1_3 x1_4 x1_5 x2_2 f3 f4 f5 f6 ++ [(a7, .inl (kA 3, 1, .inr (.inl gl)))]) U.heap ∧ va_K (dC, dI) classes (tys_ kA) U ∧ va_D (fun _ => True) (wd_Desk_apply kA a0 a1 a2 a3 a4 a5 a6 v0_0 v0_1 v0_2 v0_4 v0_5 v0_7 v1_2 x1_3 x1_4 x1_5 x2_2 f3 f4 f5 f6 ++ [(a7, .inl (kA 3, 1, .inr (.inl gl)))]) ∧ rd_X sa U ∧ rd_St (va_A (wd_Desk_apply kA a0 a1 a2 a3 a4 a5 a6 v0_0 v0_1 v0_2 v0_4 v0_5 v0_7 v1_2 x1_3 x1_4 x1_5 x2_2 f3 f4 f5 f6 ++ [(a7, .inl (kA 3, 1, .inr (.inl gl)))]) sz) U U.heap)) (va_Qi (fun (r1 : Int32) (_ : Unit) => r1 = cd) (fun _ t => va_P (dC, dI) classes (wd_Desk_apply kA a0 a1 a2 a3 a4 a5 a6 v0_0 v0_1 v0_2 v0_4 v0_5 v0_7 v1_2 ox1_3 ox1_4 ox1_5 ox2_2 f3 f4 of5 of6 ++ [(a7, .inl (kA 3, 1, .inr (.inl (if k = 0 then vp_updL gl 0 r.toInt64 else gl))))]) t.heap ∧ va_K (dC, dI) classes (tys_ kA) t ∧ va_D (va_A (wd_Desk_apply kA a0 a1 a2 a3 a4 a5 a6 v0_0 v0_1 v0_2 v0_4 v0_5 v0_7 v1_2 x1_3 x1_4 x1_5 x2_2 f3 f4 f5 f6 ++ [(a7, .inl (kA 3, 1, .inr (.inl gl)))]) sz) (wd_Desk_apply kA a0 a1 a2 a3 a4 a5 a6 v0_0 v0_1 v0_2 v0_4 v0_5 v0_7 v1_2 ox1_3 ox1_4 ox1_5 ox2_2 f3 f4 of5 of6 ++ [(a7, .inl (kA 3, 1, .inr (.inl (if k = 0 then vp_updL gl 0 r.toInt64 else gl))))])) (va_A (wd_Desk_apply kA a0 a1 a2 a3 a4 a5 a6 v0_0 v0_1 v0_2 v0_4 v0_5 v0_7 v1_2 x1_3 x1_4 x1_5 x2_2 f3 f4 f5 f6 ++ [(a7, .inl (kA 3, 1, .inr (.inl gl)))]) sz)) 1 6 (va_A (wd_Desk_apply kA a0 a1 a2 a3 a4 a5 a6 v0_0 v0_1 v0_2 v0_4 v0_5 v0_7 v1_2 x1_3 x1_4 x1_5 x2_2 f3 f4 f5 f6 ++ [(a7, .inl (kA 3, 1, .inr (.inl gl)))]) sz) := by
  refine va_MetW (cc := b_Law_apply) (maxL := 4) (ret := some .int) (hh := [(0, 9, 12, 35), (0, 9, 15, 15)]) (by decide) rfl ?_
  intro p e s m args below meth c s₁ B hml hv
  obtain ⟨rfl, hsz, hP, hK, hD0, hX, hSt⟩ := hv
  have hx := B.exec
  have hb := B.bytes
  have hr := B.returns
  have hts := atoms_spec (ws := w_Law_apply) B.pre
  have hown : s.vm.findClass R_Law = some m.cls := findClass_of_methodNamed B.named
  have hg := fun (w : Cond) (h : w ∈ gw) => hts w (List.mem_cons_of_mem _ h)
  have htab : c.exceptionTable.toList = [⟨0, 9, 12, 35⟩, ⟨0, 9, 15, 15⟩] := by
    obtain ⟨m9, meth9, c9, hn9, g1, g2, -, -, g5, -⟩ := Cond.codeWith_spec (hts _ List.mem_cons_self)
    cases B.named.symm.trans hn9; cases B.method.symm.trans g1; cases (Stand.of_body B).code.symm.trans g2
    exact rd_tab g5
  have hlocks := B.notSynchronized
  subst hsz
  have hD := hD0.self (sz := s.heap.size)
  generalize hAe : va_A (wd_Desk_apply kA a0 a1 a2 a3 a4 a5 a6 v0_0 v0_1 v0_2 v0_4 v0_5 v0_7 v1_2 x1_3 x1_4 x1_5 x2_2 f3 f4 f5 f6 ++ [(a7, .inl (kA 3, 1, .inr (.inl gl)))]) s.heap.size = A at hD hSt ⊢
  have hA : ∀ q : Nat, s.heap.size ≤ q → A q := fun q h => by rw [← hAe]; exact Or.inr h
  have hS : va_S A s.heap s.heap [] := va_S.rf
  have hl := lv_entry ([.ref a0, .int p1, .ref a7]) (n := 4) (Nat.le_of_ble_eq_true rfl)
  rw [lg_entry_eq]
  generalize (lg_sl ([.ref a0, .int p1, .ref a7]) ++ List.replicate (4 - (lg_sl ([.ref a0, .int p1, .ref a7])).length) Slot.unset).toArray = ls at hl ⊢
  have hl : lv_has ls 4 [(0, .ref a0), (1, .int p1), (2, .ref a7)] := hl
  refine lv_aload_n hx hb d_Law_apply_0 rfl (lv_at hl 2 rfl) ?_
  refine lv_iconst (v := 0) hx hb d_Law_apply_1 (by decide) ?_
  refine lv_aload_n hx hb d_Law_apply_2 rfl (lv_at hl 0 rfl) ?_
  refine lv_iload_n hx hb d_Law_apply_3 rfl (lv_at hl 1 rfl) ?_
  have hPc := hP.sub (ws' := (wd_Desk_apply kA a0 a1 a2 a3 a4 a5 a6 v0_0 v0_1 v0_2 v0_4 v0_5 v0_7 v1_2 x1_3 x1_4 x1_5 x2_2 f3 f4 f5 f6)) [0, 1, 2, 3, 4, 5, 6] rfl
  have hDc := hD.sub (ws' := (wd_Desk_apply kA a0 a1 a2 a3 a4 a5 a6 v0_0 v0_1 v0_2 v0_4 v0_5 v0_7 v1_2 x1_3 x1_4 x1_5 x2_2 f3 f4 f5 f6)) [0, 1, 2, 3, 4, 5, 6] (by decide) rfl
  have hFc := va_free (wc := (wd_Desk_apply kA a0 a1 a2 a3 a4 a5 a6 v0_0 v0_1 v0_2 v0_4 v0_5 v0_7 v1_2 x1_3 x1_4 x1_5 x2_2 f3 f4 f5 f6)) hD hS hA [0, 1, 2, 3, 4, 5, 6] rfl
  refine rd_callV (As := [.int p1]) (rest := [.int 0, .ref a7]) ⟨hx, hb, hml, hown, hts⟩ (c_Desk_apply l hlt dC dI kA sa s.heap.size a0 a1 a2 a3 a4 a5 a6 v0_0 v0_1 v0_2 v0_4 v0_5 v0_7 v1_2 p1 x1_3 x1_4 x1_5 x2_2 f3 f4 f5 f6 k r ox1_3 ox1_4 ox1_5 ox2_2 of5 of6 hF) (cwV 1 hts (gw_V gw_617 gw_618 gw_619 gw_418 gw_620) rfl rfl rfl (by decide +kernel) ⟨Nat.le_of_ble_eq_true rfl, Nat.le_of_ble_eq_true rfl⟩) ⟨fun a U g mk q => by obtain ⟨q0, q1, qP, qK, qD, qX, qS⟩ := q; exact ⟨q0, q1, qP, va_K.moved (u := U) (U := U.calling g mk a) (Vm.Alike.refl U.vm) qK, qD, rd_X.same (s := U) rfl qX, rd_St.moved (u := U) (U := U.calling g mk a) (Vm.Alike.refl U.vm) qS⟩, va_recv hK hP (ci := 8) (q0 := 0) rfl rfl, fun U hU hW => ⟨rfl, by rw [hU], by rw [hU]; exact hPc, va_K.moved hW.alike hK, hDc.weaken (fun _ _ _ _ => trivial), rd_X.warm hW hX, by rw [hU]; exact rd_St.moved hW.alike (rd_St.narrow (fun q _ h => hFc q h) hSt)⟩⟩ rfl hl.1 rfl (lv_room (Nat.le_of_ble_eq_true rfl)) d_Law_apply_4 ⟨Nat.le_of_ble_eq_true rfl, Nat.le_of_ble_eq_true rfl⟩ ?_ ?_
  · intro v st₀ t H1 L h0 ht hal hL hQ
    obtain ⟨hk0, hv, hB, hF9⟩ := hQ
    subst hv
    obtain ⟨hP1, hK1, hD1⟩ := hB
    obtain ⟨hz1, hk1, hS⟩ := rd_keep h0 ht hS hFc hL hF9
    rw [ht] at hP1
    obtain ⟨hP, hD⟩ := va_join (wr := [(a7, .inl (kA 3, 1, .inr (.inl gl)))]) (w1 := (wd_Desk_apply kA a0 a1 a2 a3 a4 a5 a6 v0_0 v0_1 v0_2 v0_4 v0_5 v0_7 v1_2 ox1_3 ox1_4 ox1_5 ox2_2 f3 f4 of5 of6)) hP hD [0, 1, 2, 3, 4, 5, 6] [7] rfl rfl (by decide) (by decide) hk1 hFc hP1 hD1
    have hP := hP.sub (ws' := (wd_Desk_apply kA a0 a1 a2 a3 a4 a5 a6 v0_0 v0_1 v0_2 v0_4 v0_5 v0_7 v1_2 ox1_3 ox1_4 ox1_5 ox2_2 f3 f4 of5 of6 ++ [(a7, .inl (kA 3, 1, .inr (.inl gl)))])) [1, 2, 3, 4, 5, 6, 7, 0] rfl
    have hD := hD.sub (ws' := (wd_Desk_apply kA a0 a1 a2 a3 a4 a5 a6 v0_0 v0_1 v0_2 v0_4 v0_5 v0_7 v1_2 ox1_3 ox1_4 ox1_5 ox2_2 f3 f4 of5 of6 ++ [(a7, .inl (kA 3, 1, .inr (.inl gl)))])) [1, 2, 3, 4, 5, 6, 7, 0] (by decide) rfl
    have hcd : cd = 0 := by rcases hk with ⟨h1, h2⟩ | ⟨h1, h2⟩ | ⟨h1, h2⟩ <;> first | exact h2 | (rw [h1] at hk0; exact absurd hk0 (by decide))
    rw [show (Option.some (Value.int r)).toList ++ [.int 0, .ref a7] = .int r :: [.int 0, .ref a7] from rfl]
    refine lv_i2l (v := r.toInt64) hx hb d_Law_apply_7 rfl ?_
    refine va_last hx hb hK hP hD hS 7 3 rfl rfl (by unfold vp_in; decide) d_Law_apply_8 (fun H locs hP hD hS => ?_)
    have hP : va_P (dC, dI) classes (wd_Desk_apply kA a0 a1 a2 a3 a4 a5 a6 v0_0 v0_1 v0_2 v0_4 v0_5 v0_7 v1_2 ox1_3 ox1_4 ox1_5 ox2_2 f3 f4 of5 of6 ++ [(a7, .inl (kA 3, 1, .inr (.inl (vp_updL gl 0 r.toInt64))))]) H := hP
    have hD : va_D A (wd_Desk_apply kA a0 a1 a2 a3 a4 a5 a6 v0_0 v0_1 v0_2 v0_4 v0_5 v0_7 v1_2 ox1_3 ox1_4 ox1_5 ox2_2 f3 f4 of5 of6 ++ [(a7, .inl (kA 3, 1, .inr (.inl (vp_updL gl 0 r.toInt64))))]) := hD
    refine lv_goto (tgt := 18) hx hb d_Law_apply_9 (by decide) ?_
    refine lv_iconst (v := 0) hx hb d_Law_apply_18 (by decide) ?_
    exact W.iret (v := 0) hx hb hr (fun t ht hW => ⟨⟨0, (), rfl, hcd.symm, by rw [ht, if_pos hk0]; exact hP, va_K.moved hW.alike hK, (by rw [if_pos hk0]; exact hD)⟩, hS.F ht⟩) hS.2.2 d_Law_apply_19 hlocks
  · intro q E ce st₀ t H1 L h0 ht hal hL hce hcv hcl hQ
    obtain ⟨hkE, hB, hF9⟩ := hQ
    obtain ⟨hP1, hK1, hD1⟩ := hB
    obtain ⟨hz1, hk1, hS⟩ := rd_keep h0 ht hS hFc hL hF9
    rw [ht] at hP1
    obtain ⟨hP, hD⟩ := va_join (wr := [(a7, .inl (kA 3, 1, .inr (.inl gl)))]) (w1 := (wd_Desk_apply kA a0 a1 a2 a3 a4 a5 a6 v0_0 v0_1 v0_2 v0_4 v0_5 v0_7 v1_2 ox1_3 ox1_4 ox1_5 ox2_2 f3 f4 of5 of6)) hP hD [0, 1, 2, 3, 4, 5, 6] [7] rfl rfl (by decide) (by decide) hk1 hFc hP1 hD1
    have hP := hP.sub (ws' := (wd_Desk_apply kA a0 a1 a2 a3 a4 a5 a6 v0_0 v0_1 v0_2 v0_4 v0_5 v0_7 v1_2 ox1_3 ox1_4 ox1_5 ox2_2 f3 f4 of5 of6 ++ [(a7, .inl (kA 3, 1, .inr (.inl gl)))])) [1, 2, 3, 4, 5, 6, 7, 0] rfl
    have hD := hD.sub (ws' := (wd_Desk_apply kA a0 a1 a2 a3 a4 a5 a6 v0_0 v0_1 v0_2 v0_4 v0_5 v0_7 v1_2 ox1_3 ox1_4 ox1_5 ox2_2 f3 f4 of5 of6 ++ [(a7, .inl (kA 3, 1, .inr (.inl gl)))])) [1, 2, 3, 4, 5, 6, 7, 0] (by decide) rfl
    rcases hk with ⟨hk1, hk2⟩ | ⟨hk1, hk2⟩ | ⟨hk1, hk2⟩
    · rw [hk1] at hkE; exact absurd hkE (rd_k0 E)
    · have hE : E = xN := rd_k4 (by rw [← hk1]; exact hkE)
      subst hE
      have hk0 : ¬ k = 0 := by rw [hk1]; decide
      refine rd_catch (own := R_Law) (name := xN) (E := xN) hown [] ⟨0, 9, 12, 35⟩ [⟨0, 9, 15, 15⟩] htab (fun y hy => nomatch hy) (by decide) (by decide) (hg _ gw_604) (rd_self hX (by decide +kernel)) hce hcv hcl ?_
      refine lv_astore_n (lv' := [(3, .ref q), (0, .ref a0), (1, .int p1), (2, .ref a7)]) hx hb d_Law_apply_12 rfl hl (by decide) rfl (fun ls hl => ?_)
      refine lv_iconst (v := 1) hx hb d_Law_apply_13 (by decide) ?_
      exact W.iret (v := 1) hx hb hr (fun t ht hW => ⟨⟨1, (), rfl, hk2.symm, by rw [ht, if_neg hk0]; exact hP, va_K.moved hW.alike hK, (by rw [if_neg hk0]; exact hD)⟩, hS.F ht⟩) hS.2.2 d_Law_apply_14 hlocks
    · have hE : E = xS := rd_k2 (by rw [← hk1]; exact hkE)
      subst hE
      have hk0 : ¬ k = 0 := by rw [hk1]; decide
      refine rd_catch (own := R_Law) (name := xS) (E := xS) hown [⟨0, 9, 12, 35⟩] ⟨0, 9, 15, 15⟩ [] htab (fun y hy => by
        simp only [List.mem_cons, List.not_mem_nil, or_false] at hy
        rcases hy with rfl
        · exact ⟨by decide, by decide, xN, hg _ gw_604, hX.2.2 (xS, xN) (by decide +kernel)⟩) (by decide) (by decide) (hg _ gw_528) (rd_self hX (by decide +kernel)) hce hcv hcl ?_
      refine lv_astore_n (lv' := [(3, .ref q), (0, .ref a0), (1, .int p1), (2, .ref a7)]) hx hb d_Law_apply_15 rfl hl (by decide) rfl (fun ls hl => ?_)
      refine lv_iconst (v := 2) hx hb d_Law_apply_16 (by decide) ?_
      exact W.iret (v := 2) hx hb hr (fun t ht hW => ⟨⟨2, (), rfl, hk2.symm, by rw [ht, if_neg hk0]; exact hP, va_K.moved hW.alike hK, (by rw [if_neg hk0]; exact hD)⟩, hS.F ht⟩) hS.2.2 d_Law_apply_17 hlocks
