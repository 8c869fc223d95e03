-- ===== RepairDesk$States.reducedBy(II)I
abbrev wd_States_reducedBy (kA : Nat → ClassId) (a0 a1 : Nat) (v0_0 v0_1 v0_4 : Value) (x0_3 : Int32) (f1 : (Nat → Int32)) : va_W := [(a0, .inr (6, [v0_0, v0_1, .ref a1, .int x0_3, v0_4])), (a1, .inl (kA 0, 280, .inl f1))]
abbrev rm_States_reducedBy : Room := { frames := 0, cells := 0, slots := 0, locals := 0 }
def S_States_reducedBy (p1 : Int32) (p2 : Int32) (x0_3 : Int32) (f1 : (Nat → Int32)) : Option (Int32) := (if p1 < 0 then (some (-1)) else (if x0_3 ≤ p1 then (some (-1)) else (if p2 < 0 then (some (-1)) else (if p2 < 7 then (if (((p1 * 7) + p2) : Int32) < 0 ∨ 280 ≤ (Int32.toNatClampNeg ((p1 * 7) + p2)) then none else (some (f1 (Int32.toNatClampNeg ((p1 * 7) + p2))))) else (some (-1))))))
set_option maxHeartbeats 4000000 in
set_option maxRecDepth 100000 in
theorem c_States_reducedBy (l : Launch) (dC : Nat → ClassId) (dI : Nat → Nat → Nat) (kA : Nat → ClassId) (sz : Nat) (a0 a1 : Nat) (v0_0 v0_1 v0_4 : Value) (p1 : Int32) (p2 : Int32) (x0_3 : Int32) (f1 : (Nat → Int32)) (r : Int32) (hF : S_States_reducedBy p1 p2 x0_3 f1 = some r) : Met l y_States_reducedBy w_States_reducedBy rm_States_reducedBy (va_Pc [.ref a0, .int p1, .int p2] (fun U => U.heap.size = sz ∧ va_P (dC, dI) classes (wd_States_reducedBy kA a0 a1 v0_0 v0_1 v0_4 x0_3 f1) U.heap ∧ va_K (dC, dI) classes (tys_ kA) U ∧ va_D (fun _ => True) (wd_States_reducedBy kA a0 a1 v0_0 v0_1 v0_4 x0_3 f1))) (va_Qi (fun (r1 : Int32) (_ : Unit) => r1 = r) (fun _ t => va_P (dC, dI) classes (wd_States_reducedBy kA a0 a1 v0_0 v0_1 v0_4 x0_3 f1) t.heap ∧ va_K (dC, dI) classes (tys_ kA) t ∧ va_D (va_A (wd_States_reducedBy kA a0 a1 v0_0 v0_1 v0_4 x0_3 f1) sz) (wd_States_reducedBy kA a0 a1 v0_0 v0_1 v0_4 x0_3 f1)) (va_A (wd_States_reducedBy kA a0 a1 v0_0 v0_1 v0_4 x0_3 f1) sz)) 0 0 (va_A (wd_States_reducedBy kA a0 a1 v0_0 v0_1 v0_4 x0_3 f1) sz) := by
  refine Met.ofW (cc := b_States_reducedBy) (maxL := 3) (ret := some .int) (by decide) rfl ?_
  intro p e s m args below meth c s₁ B hml hv
  obtain ⟨rfl, hsz, hP, hK, hD0⟩ := hv
  have hx := B.exec
  have hb := B.bytes
  have hr := B.returns
  have hts := atoms_spec (ws := w_States_reducedBy) B.pre
  have hown : s.vm.findClass R_States = some m.cls := findClass_of_methodNamed B.named
  have hg := fun (w : Cond) (h : w ∈ gw) => hts w (List.mem_cons_of_mem _ h)
  have hlocks := B.notSynchronized
  subst hsz
  have hD := hD0.self (sz := s.heap.size)
  generalize hAe : va_A (wd_States_reducedBy kA a0 a1 v0_0 v0_1 v0_4 x0_3 f1) s.heap.size = A at hD ⊢
  have hA : ∀ q : Nat, s.heap.size ≤ q → A q := fun q h => by rw [← hAe]; exact Or.inr h
  have hS : va_S A s.heap s.heap [] := va_S.rf
  have hl := lv_entry ([.ref a0, .int p1, .int p2]) (n := 3) (Nat.le_of_ble_eq_true rfl)
  rw [lg_entry_eq]
  generalize (lg_sl ([.ref a0, .int p1, .int p2]) ++ List.replicate (3 - (lg_sl ([.ref a0, .int p1, .int p2])).length) Slot.unset).toArray = ls at hl ⊢
  have hl : lv_has ls 3 [(0, .ref a0), (1, .int p1), (2, .int p2)] := hl
  unfold S_States_reducedBy at hF
  refine lv_iload_n hx hb d_States_reducedBy_0 rfl (lv_at hl 1 rfl) ?_
  refine lv_if_lt (tgt := 22) hx hb d_States_reducedBy_1 (by decide) (fun c_1 => ?_) (fun c_1 => ?_)
  · rw [if_pos c_1] at hF
    refine lv_iconst (v := (-1)) hx hb d_States_reducedBy_22 (by decide) ?_
    have e0 := Option.some.inj hF
    exact W.iret (v := (-1)) hx hb hr (fun t ht hW => ⟨⟨(-1), (), rfl, e0, by rw [ht]; exact hP, va_K.moved hW.alike hK, (by exact hD)⟩, hS.F ht⟩) hS.2.2 d_States_reducedBy_23 hlocks
  · rw [if_neg c_1] at hF
    refine lv_iload_n hx hb d_States_reducedBy_4 rfl (lv_at hl 1 rfl) ?_
    refine lv_aload_n hx hb d_States_reducedBy_5 rfl (lv_at hl 0 rfl) ?_
    refine va_get (D := (dC, dI)) (ci := 6) (v := .int x0_3) (C := R_States) (T := F_States) (N := 5) hx hb hg iw_States hown hK hP 0 rfl rfl 3 (by decide) (hg _ gw_79) (fun _ h9 => h9) rfl d_States_reducedBy_6 ?_
    refine lv_icmp_ge (tgt := 22) hx hb d_States_reducedBy_9 (by decide) (fun c_2 => ?_) (fun c_2 => ?_)
    · rw [if_pos c_2] at hF
      refine lv_iconst (v := (-1)) hx hb d_States_reducedBy_22 (by decide) ?_
      have e0 := Option.some.inj hF
      exact W.iret (v := (-1)) hx hb hr (fun t ht hW => ⟨⟨(-1), (), rfl, e0, by rw [ht]; exact hP, va_K.moved hW.alike hK, (by exact hD)⟩, hS.F ht⟩) hS.2.2 d_States_reducedBy_23 hlocks
    · rw [if_neg c_2] at hF
      refine lv_iload_n hx hb d_States_reducedBy_12 rfl (lv_at hl 2 rfl) ?_
      refine lv_if_lt (tgt := 22) hx hb d_States_reducedBy_13 (by decide) (fun c_3 => ?_) (fun c_3 => ?_)
      · rw [if_pos c_3] at hF
        refine lv_iconst (v := (-1)) hx hb d_States_reducedBy_22 (by decide) ?_
        have e0 := Option.some.inj hF
        exact W.iret (v := (-1)) hx hb hr (fun t ht hW => ⟨⟨(-1), (), rfl, e0, by rw [ht]; exact hP, va_K.moved hW.alike hK, (by exact hD)⟩, hS.F ht⟩) hS.2.2 d_States_reducedBy_23 hlocks
      · rw [if_neg c_3] at hF
        refine lv_iload_n hx hb d_States_reducedBy_16 rfl (lv_at hl 2 rfl) ?_
        refine lv_bipush (v := 7) hx hb d_States_reducedBy_17 (by decide) ?_
        refine lv_icmp_lt (tgt := 24) hx hb d_States_reducedBy_19 (by decide) (fun c_4 => ?_) (fun c_4 => ?_)
        · rw [if_pos c_4] at hF
          refine lv_aload_n hx hb d_States_reducedBy_24 rfl (lv_at hl 0 rfl) ?_
          refine va_get (D := (dC, dI)) (ci := 6) (v := .ref a1) (C := R_States) (T := F_States) (N := 5) hx hb hg iw_States hown hK hP 0 rfl rfl 2 (by decide) (hg _ gw_80) (fun _ h9 => h9) rfl d_States_reducedBy_25 ?_
          refine lv_iload_n hx hb d_States_reducedBy_28 rfl (lv_at hl 1 rfl) ?_
          refine lv_bipush (v := 7) hx hb d_States_reducedBy_29 (by decide) ?_
          refine lv_imul hx hb d_States_reducedBy_31 ?_
          refine lv_iload_n hx hb d_States_reducedBy_32 rfl (lv_at hl 2 rfl) ?_
          refine lv_iadd hx hb d_States_reducedBy_33 ?_
          obtain ⟨h_5, hF⟩ := rd_chk hF
          refine va_iald hx hb hK hP 1 0 rfl rfl h_5 d_States_reducedBy_34 ?_
          have e0 := Option.some.inj hF
          exact W.iret (v := (f1 (Int32.toNatClampNeg ((p1 * 7) + p2)))) hx hb hr (fun t ht hW => ⟨⟨(f1 (Int32.toNatClampNeg ((p1 * 7) + p2))), (), rfl, e0, by rw [ht]; exact hP, va_K.moved hW.alike hK, (by exact hD)⟩, hS.F ht⟩) hS.2.2 d_States_reducedBy_35 hlocks
        · rw [if_neg c_4] at hF
          refine lv_iconst (v := (-1)) hx hb d_States_reducedBy_22 (by decide) ?_
          have e0 := Option.some.inj hF
          exact W.iret (v := (-1)) hx hb hr (fun t ht hW => ⟨⟨(-1), (), rfl, e0, by rw [ht]; exact hP, va_K.moved hW.alike hK, (by exact hD)⟩, hS.F ht⟩) hS.2.2 d_States_reducedBy_23 hlocks
-- ===== RepairDesk$States.targetOf(II)I
abbrev wd_States_targetOf (kA : Nat → ClassId) (a0 a1 : Nat) (v0_0 v0_2 v0_4 : Value) (x0_3 : Int32) (f1 : (Nat → Int32)) : va_W := [(a0, .inr (6, [v0_0, .ref a1, v0_2, .int x0_3, v0_4])), (a1, .inl (kA 0, 480, .inl f1))]
abbrev rm_States_targetOf : Room := { frames := 0, cells := 0, slots := 0, locals := 0 }
def S_States_targetOf (p1 : Int32) (p2 : Int32) (x0_3 : Int32) (f1 : (Nat → Int32)) : Option (Int32) := (if p1 < 0 then (some (-1)) else (if x0_3 ≤ p1 then (some (-1)) else (if p2 < 0 then (some (-1)) else (if p2 < 12 then (if (((p1 * 12) + p2) : Int32) < 0 ∨ 480 ≤ (Int32.toNatClampNeg ((p1 * 12) + p2)) then none else (some (f1 (Int32.toNatClampNeg ((p1 * 12) + p2))))) else (some (-1))))))
set_option maxHeartbeats 4000000 in
set_option maxRecDepth 100000 in
theorem c_States_targetOf (l : Launch) (dC : Nat → ClassId) (dI : Nat → Nat → Nat) (kA : Nat → ClassId) (sz : Nat) (a0 a1 : Nat) (v0_0 v0_2 v0_4 : Value) (p1 : Int32) (p2 : Int32) (x0_3 : Int32) (f1 : (Nat → Int32)) (r : Int32) (hF : S_States_targetOf p1 p2 x0_3 f1 = some r) : Met l y_States_targetOf w_States_targetOf rm_States_targetOf (va_Pc [.ref a0, .int p1, .int p2] (fun U => U.heap.size = sz ∧ va_P (dC, dI) classes (wd_States_targetOf kA a0 a1 v0_0 v0_2 v0_4 x0_3 f1) U.heap ∧ va_K (dC, dI) classes (tys_ kA) U ∧ va_D (fun _ => True) (wd_States_targetOf kA a0 a1 v0_0 v0_2 v0_4 x0_3 f1))) (va_Qi (fun (r1 : Int32) (_ : Unit) => r1 = r) (fun _ t => va_P (dC, dI) classes (wd_States_targetOf kA a0 a1 v0_0 v0_2 v0_4 x0_3 f1) t.heap ∧ va_K (dC, dI) classes (tys_ kA) t ∧ va_D (va_A (wd_States_targetOf kA a0 a1 v0_0 v0_2 v0_4 x0_3 f1) sz) (wd_States_targetOf kA a0 a1 v0_0 v0_2 v0_4 x0_3 f1)) (va_A (wd_States_targetOf kA a0 a1 v0_0 v0_2 v0_4 x0_3 f1) sz)) 0 0 (va_A (wd_States_targetOf kA a0 a1 v0_0 v0_2 v0_4 x0_3 f1) sz) := by
  refine Met.ofW (cc := b_States_targetOf) (maxL := 3) (ret := some .int) (by decide) rfl ?_
  intro p e s m args below meth c s₁ B hml hv
  obtain ⟨rfl, hsz, hP, hK, hD0⟩ := hv
  have hx := B.exec
  have hb := B.bytes
  have hr := B.returns
  have hts := atoms_spec (ws := w_States_targetOf) B.pre
  have hown : s.vm.findClass R_States = some m.cls := findClass_of_methodNamed B.named
  have hg := fun (w : Cond) (h : w ∈ gw) => hts w (List.mem_cons_of_mem _ h)
  have hlocks := B.notSynchronized
  subst hsz
  have hD := hD0.self (sz := s.heap.size)
  generalize hAe : va_A (wd_States_targetOf kA a0 a1 v0_0 v0_2 v0_4 x0_3 f1) s.heap.size = A at hD ⊢
  have hA : ∀ q : Nat, s.heap.size ≤ q → A q := fun q h => by rw [← hAe]; exact Or.inr h
  have hS : va_S A s.heap s.heap [] := va_S.rf
  have hl := lv_entry ([.ref a0, .int p1, .int p2]) (n := 3) (Nat.le_of_ble_eq_true rfl)
  rw [lg_entry_eq]
  generalize (lg_sl ([.ref a0, .int p1, .int p2]) ++ List.replicate (3 - (lg_sl ([.ref a0, .int p1, .int p2])).length) Slot.unset).toArray = ls at hl ⊢
  have hl : lv_has ls 3 [(0, .ref a0), (1, .int p1), (2, .int p2)] := hl
  unfold S_States_targetOf at hF
  refine lv_iload_n hx hb d_States_targetOf_0 rfl (lv_at hl 1 rfl) ?_
  refine lv_if_lt (tgt := 22) hx hb d_States_targetOf_1 (by decide) (fun c_1 => ?_) (fun c_1 => ?_)
  · rw [if_pos c_1] at hF
    refine lv_iconst (v := (-1)) hx hb d_States_targetOf_22 (by decide) ?_
    have e0 := Option.some.inj hF
    exact W.iret (v := (-1)) hx hb hr (fun t ht hW => ⟨⟨(-1), (), rfl, e0, by rw [ht]; exact hP, va_K.moved hW.alike hK, (by exact hD)⟩, hS.F ht⟩) hS.2.2 d_States_targetOf_23 hlocks
  · rw [if_neg c_1] at hF
    refine lv_iload_n hx hb d_States_targetOf_4 rfl (lv_at hl 1 rfl) ?_
    refine lv_aload_n hx hb d_States_targetOf_5 rfl (lv_at hl 0 rfl) ?_
    refine va_get (D := (dC, dI)) (ci := 6) (v := .int x0_3) (C := R_States) (T := F_States) (N := 5) hx hb hg iw_States hown hK hP 0 rfl rfl 3 (by decide) (hg _ gw_79) (fun _ h9 => h9) rfl d_States_targetOf_6 ?_
    refine lv_icmp_ge (tgt := 22) hx hb d_States_targetOf_9 (by decide) (fun c_2 => ?_) (fun c_2 => ?_)
    · rw [if_pos c_2] at hF
      refine lv_iconst (v := (-1)) hx hb d_States_targetOf_22 (by decide) ?_
      have e0 := Option.some.inj hF
      exact W.iret (v := (-1)) hx hb hr (fun t ht hW => ⟨⟨(-1), (), rfl, e0, by rw [ht]; exact hP, va_K.moved hW.alike hK, (by exact hD)⟩, hS.F ht⟩) hS.2.2 d_States_targetOf_23 hlocks
    · rw [if_neg c_2] at hF
      refine lv_iload_n hx hb d_States_targetOf_12 rfl (lv_at hl 2 rfl) ?_
      refine lv_if_lt (tgt := 22) hx hb d_States_targetOf_13 (by decide) (fun c_3 => ?_) (fun c_3 => ?_)
      · rw [if_pos c_3] at hF
        refine lv_iconst (v := (-1)) hx hb d_States_targetOf_22 (by decide) ?_
        have e0 := Option.some.inj hF
        exact W.iret (v := (-1)) hx hb hr (fun t ht hW => ⟨⟨(-1), (), rfl, e0, by rw [ht]; exact hP, va_K.moved hW.alike hK, (by exact hD)⟩, hS.F ht⟩) hS.2.2 d_States_targetOf_23 hlocks
      · rw [if_neg c_3] at hF
        refine lv_iload_n hx hb d_States_targetOf_16 rfl (lv_at hl 2 rfl) ?_
        refine lv_bipush (v := 12) hx hb d_States_targetOf_17 (by decide) ?_
        refine lv_icmp_lt (tgt := 24) hx hb d_States_targetOf_19 (by decide) (fun c_4 => ?_) (fun c_4 => ?_)
        · rw [if_pos c_4] at hF
          refine lv_aload_n hx hb d_States_targetOf_24 rfl (lv_at hl 0 rfl) ?_
          refine va_get (D := (dC, dI)) (ci := 6) (v := .ref a1) (C := R_States) (T := F_States) (N := 5) hx hb hg iw_States hown hK hP 0 rfl rfl 1 (by decide) (hg _ gw_81) (fun _ h9 => h9) rfl d_States_targetOf_25 ?_
          refine lv_iload_n hx hb d_States_targetOf_28 rfl (lv_at hl 1 rfl) ?_
          refine lv_bipush (v := 12) hx hb d_States_targetOf_29 (by decide) ?_
          refine lv_imul hx hb d_States_targetOf_31 ?_
          refine lv_iload_n hx hb d_States_targetOf_32 rfl (lv_at hl 2 rfl) ?_
          refine lv_iadd hx hb d_States_targetOf_33 ?_
          obtain ⟨h_5, hF⟩ := rd_chk hF
          refine va_iald hx hb hK hP 1 0 rfl rfl h_5 d_States_targetOf_34 ?_
          have e0 := Option.some.inj hF
          exact W.iret (v := (f1 (Int32.toNatClampNeg ((p1 * 12) + p2)))) hx hb hr (fun t ht hW => ⟨⟨(f1 (Int32.toNatClampNeg ((p1 * 12) + p2))), (), rfl, e0, by rw [ht]; exact hP, va_K.moved hW.alike hK, (by exact hD)⟩, hS.F ht⟩) hS.2.2 d_States_targetOf_35 hlocks
        · rw [if_neg c_4] at hF
          refine lv_iconst (v := (-1)) hx hb d_States_targetOf_22 (by decide) ?_
          have e0 := Option.some.inj hF
          exact W.iret (v := (-1)) hx hb hr (fun t ht hW => ⟨⟨(-1), (), rfl, e0, by rw [ht]; exact hP, va_K.moved hW.alike hK, (by exact hD)⟩, hS.F ht⟩) hS.2.2 d_States_targetOf_23 hlocks
-- ===== RepairDesk$States.forget()V
abbrev wd_States_forget (kA : Nat → ClassId) (a0 : Nat) (v0_0 v0_1 v0_2 : Value) (x0_3 : Int32) (x0_4 : Int32) : va_W := [(a0, .inr (6, [v0_0, v0_1, v0_2, .int x0_3, .int x0_4]))]
abbrev rm_States_forget : Room := { frames := 0, cells := 0, slots := 0, locals := 0 }
def S_States_forget (x0_3 : Int32) (x0_4 : Int32) : Option (Int32 × Int32) := (some (0, 0))
set_option maxHeartbeats 4000000 in
set_option maxRecDepth 100000 in
theorem c_States_forget (l : Launch) (dC : Nat → ClassId) (dI : Nat → Nat → Nat) (kA : Nat → ClassId) (sz : Nat) (a0 : Nat) (v0_0 v0_1 v0_2 : Value) (x0_3 : Int32) (x0_4 : Int32) (ox0_3 : Int32) (ox0_4 : Int32) (hF : S_States_forget x0_3 x0_4 = some (ox0_3, ox0_4)) : Met l y_States_forget w_States_forget rm_States_forget (va_Pc [.ref a0] (fun U => U.heap.size = sz ∧ va_P (dC, dI) classes (wd_States_forget kA a0 v0_0 v0_1 v0_2 x0_3 x0_4) U.heap ∧ va_K (dC, dI) classes (tys_ kA) U ∧ va_D (fun _ => True) (wd_States_forget kA a0 v0_0 v0_1 v0_2 x0_3 x0_4))) (va_Qv (fun (_ : Unit) => True) (fun _ t => va_P (dC, dI) classes (wd_States_forget kA a0 v0_0 v0_1 v0_2 ox0_3 ox0_4) t.heap ∧ va_K (dC, dI) classes (tys_ kA) t ∧ va_D (va_A (wd_States_forget kA a0 v0_0 v0_1 v0_2 x0_3 x0_4) sz) (wd_States_forget kA a0 v0_0 v0_1 v0_2 ox0_3 ox0_4)) (va_A (wd_States_forget kA a0 v0_0 v0_1 v0_2 x0_3 x0_4) sz)) 0 0 (va_A (wd_States_forget kA a0 v0_0 v0_1 v0_2 x0_3 x0_4) sz) := by
  refine Met.ofW (cc := b_States_forget) (maxL := 1) (ret := none) (by decide) rfl ?_
  intro p e s m args below meth c s₁ B hml hv
  obtain ⟨rfl, hsz, hP, hK, hD0⟩ := hv
  have hx := B.exec
  have hb := B.bytes
  have hr := B.returns
  have hts := atoms_spec (ws := w_States_forget) B.pre
  have hown : s.vm.findClass R_States = some m.cls := findClass_of_methodNamed B.named
  have hg := fun (w : Cond) (h : w ∈ gw) => hts w (List.mem_cons_of_mem _ h)
  have hlocks := B.notSynchronized
  subst hsz
  have hD := hD0.self (sz := s.heap.size)
  generalize hAe : va_A (wd_States_forget kA a0 v0_0 v0_1 v0_2 x0_3 x0_4) s.heap.size = A at hD ⊢
  have hA : ∀ q : Nat, s.heap.size ≤ q → A q := fun q h => by rw [← hAe]; exact Or.inr h
  have hS : va_S A s.heap s.heap [] := va_S.rf
  have hl := lv_entry ([.ref a0]) (n := 1) (Nat.le_of_ble_eq_true rfl)
  rw [lg_entry_eq]
  generalize (lg_sl ([.ref a0]) ++ List.replicate (1 - (lg_sl ([.ref a0])).length) Slot.unset).toArray = ls at hl ⊢
  have hl : lv_has ls 1 [(0, .ref a0)] := hl
  unfold S_States_forget at hF
  refine lv_aload_n hx hb d_States_forget_0 rfl (lv_at hl 0 rfl) ?_
  refine lv_iconst (v := 0) hx hb d_States_forget_1 (by decide) ?_
  refine va_put (D := (dC, dI)) (ci := 6) (v := .int 0) (ty := .int) (C := R_States) (T := F_States) (N := 5) hx hb hg iw_States t_States t_States_ok n_States hown hK hP hD hS 0 rfl rfl 3 (by decide) (hg _ gw_79) (fun _ h9 => h9) rfl (by decide +kernel) rfl rfl (Nat.le_of_ble_eq_true rfl) d_States_forget_2 (fun H locs hP hD hS => ?_)
  have hP : va_P (dC, dI) classes (wd_States_forget kA a0 v0_0 v0_1 v0_2 0 x0_4) H := hP
  have hD : va_D A (wd_States_forget kA a0 v0_0 v0_1 v0_2 0 x0_4) := hD
  refine lv_aload_n hx hb d_States_forget_5 rfl (lv_at hl 0 rfl) ?_
  refine lv_iconst (v := 0) hx hb d_States_forget_6 (by decide) ?_
  refine va_put (D := (dC, dI)) (ci := 6) (v := .int 0) (ty := .int) (C := R_States) (T := F_States) (N := 5) hx hb hg iw_States t_States t_States_ok n_States hown hK hP hD hS 0 rfl rfl 4 (by decide) (hg _ gw_187) (fun _ h9 => h9) rfl (by decide +kernel) rfl rfl (Nat.le_of_ble_eq_true rfl) d_States_forget_7 (fun H locs hP hD hS => ?_)
  have hP : va_P (dC, dI) classes (wd_States_forget kA a0 v0_0 v0_1 v0_2 0 0) H := hP
  have hD : va_D A (wd_States_forget kA a0 v0_0 v0_1 v0_2 0 0) := hD
  have e0 := Option.some.inj hF
  have q0 := Prod.mk.inj e0
  exact W.vret hx hb hr (fun t ht hW => ⟨⟨(), rfl, trivial, by rw [ht, ← q0.1, ← q0.2]; exact hP, va_K.moved hW.alike hK, (by rw [← q0.1, ← q0.2]; exact hD)⟩, hS.F ht⟩) hS.2.2 d_States_forget_10 hlocks
-- ===== RepairDesk$States.stateCount()I
abbrev wd_States_stateCount (kA : Nat → ClassId) (a0 : Nat) (v0_0 v0_1 v0_2 v0_4 : Value) (x0_3 : Int32) : va_W := [(a0, .inr (6, [v0_0, v0_1, v0_2, .int x0_3, v0_4]))]
abbrev rm_States_stateCount : Room := { frames := 0, cells := 0, slots := 0, locals := 0 }
def S_States_stateCount (x0_3 : Int32) : Option (Int32) := (some x0_3)
set_option maxHeartbeats 4000000 in
set_option maxRecDepth 100000 in
theorem c_States_stateCount (l : Launch) (dC : Nat → ClassId) (dI : Nat → Nat → Nat) (kA : Nat → ClassId) (sz : Nat) (a0 : Nat) (v0_0 v0_1 v0_2 v0_4 : Value) (x0_3 : Int32) (r : Int32) (hF : S_States_stateCount x0_3 = some r) : Met l y_States_stateCount w_States_stateCount rm_States_stateCount (va_Pc [.ref a0] (fun U => U.heap.size = sz ∧ va_P (dC, dI) classes (wd_States_stateCount kA a0 v0_0 v0_1 v0_2 v0_4 x0_3) U.heap ∧ va_K (dC, dI) classes (tys_ kA) U ∧ va_D (fun _ => True) (wd_States_stateCount kA a0 v0_0 v0_1 v0_2 v0_4 x0_3))) (va_Qi (fun (r1 : Int32) (_ : Unit) => r1 = r) (fun _ t => va_P (dC, dI) classes (wd_States_stateCount kA a0 v0_0 v0_1 v0_2 v0_4 x0_3) t.heap ∧ va_K (dC, dI) classes (tys_ kA) t ∧ va_D (va_A (wd_States_stateCount kA a0 v0_0 v0_1 v0_2 v0_4 x0_3) sz) (wd_States_stateCount kA a0 v0_0 v0_1 v0_2 v0_4 x0_3)) (va_A (wd_States_stateCount kA a0 v0_0 v0_1 v0_2 v0_4 x0_3) sz)) 0 0 (va_A (wd_States_stateCount kA a0 v0_0 v0_1 v0_2 v0_4 x0_3) sz) := by
  refine Met.ofW (cc := b_States_stateCount) (maxL := 1) (ret := some .int) (by decide) rfl ?_
  intro p e s m args below meth c s₁ B hml hv
  obtain ⟨rfl, hsz, hP, hK, hD0⟩ := hv
  have hx := B.exec
  have hb := B.bytes
  have hr := B.returns
  have hts := atoms_spec (ws := w_States_stateCount) B.pre
  have hown : s.vm.findClass R_States = some m.cls := findClass_of_methodNamed B.named
  have hg := fun (w : Cond) (h : w ∈ gw) => hts w (List.mem_cons_of_mem _ h)
  have hlocks := B.notSynchronized
  subst hsz
  have hD := hD0.self (sz := s.heap.size)
  generalize hAe : va_A (wd_States_stateCount kA a0 v0_0 v0_1 v0_2 v0_4 x0_3) s.heap.size = A at hD ⊢
  have hA : ∀ q : Nat, s.heap.size ≤ q → A q := fun q h => by rw [← hAe]; exact Or.inr h
  have hS : va_S A s.heap s.heap [] := va_S.rf
  have hl := lv_entry ([.ref a0]) (n := 1) (Nat.le_of_ble_eq_true rfl)
  rw [lg_entry_eq]
  generalize (lg_sl ([.ref a0]) ++ List.replicate (1 - (lg_sl ([.ref a0])).length) Slot.unset).toArray = ls at hl ⊢
  have hl : lv_has ls 1 [(0, .ref a0)] := hl
  unfold S_States_stateCount at hF
  refine lv_aload_n hx hb d_States_stateCount_0 rfl (lv_at hl 0 rfl) ?_
  refine va_get (D := (dC, dI)) (ci := 6) (v := .int x0_3) (C := R_States) (T := F_States) (N := 5) hx hb hg iw_States hown hK hP 0 rfl rfl 3 (by decide) (hg _ gw_79) (fun _ h9 => h9) rfl d_States_stateCount_1 ?_
  have e0 := Option.some.inj hF
  exact W.iret (v := x0_3) hx hb hr (fun t ht hW => ⟨⟨x0_3, (), rfl, e0, by rw [ht]; exact hP, va_K.moved hW.alike hK, (by exact hD)⟩, hS.F ht⟩) hS.2.2 d_States_stateCount_4 hlocks
-- ===== RepairDesk$States.itemCount()I
abbrev wd_States_itemCount (kA : Nat → ClassId) (a0 : Nat) (v0_0 v0_1 v0_2 v0_3 : Value) (x0_4 : Int32) : va_W := [(a0, .inr (6, [v0_0, v0_1, v0_2, v0_3, .int x0_4]))]
abbrev rm_States_itemCount : Room := { frames := 0, cells := 0, slots := 0, locals := 0 }
def S_States_itemCount (x0_4 : Int32) : Option (Int32) := (some x0_4)
set_option maxHeartbeats 4000000 in
set_option maxRecDepth 100000 in
theorem c_States_itemCount (l : Launch) (dC : Nat → ClassId) (dI : Nat → Nat → Nat) (kA : Nat → ClassId) (sz : Nat) (a0 : Nat) (v0_0 v0_1 v0_2 v0_3 : Value) (x0_4 : Int32) (r : Int32) (hF : S_States_itemCount x0_4 = some r) : Met l y_States_itemCount w_States_itemCount rm_States_itemCount (va_Pc [.ref a0] (fun U => U.heap.size = sz ∧ va_P (dC, dI) classes (wd_States_itemCount kA a0 v0_0 v0_1 v0_2 v0_3 x0_4) U.heap ∧ va_K (dC, dI) classes (tys_ kA) U ∧ va_D (fun _ => True) (wd_States_itemCount kA a0 v0_0 v0_1 v0_2 v0_3 x0_4))) (va_Qi (fun (r1 : Int32) (_ : Unit) => r1 = r) (fun _ t => va_P (dC, dI) classes (wd_States_itemCount kA a0 v0_0 v0_1 v0_2 v0_3 x0_4) t.heap ∧ va_K (dC, dI) classes (tys_ kA) t ∧ va_D (va_A (wd_States_itemCount kA a0 v0_0 v0_1 v0_2 v0_3 x0_4) sz) (wd_States_itemCount kA a0 v0_0 v0_1 v0_2 v0_3 x0_4)) (va_A (wd_States_itemCount kA a0 v0_0 v0_1 v0_2 v0_3 x0_4) sz)) 0 0 (va_A (wd_States_itemCount kA a0 v0_0 v0_1 v0_2 v0_3 x0_4) sz) := by
  refine Met.ofW (cc := b_States_itemCount) (maxL := 1) (ret := some .int) (by decide) rfl ?_
  intro p e s m args below meth c s₁ B hml hv
  obtain ⟨rfl, hsz, hP, hK, hD0⟩ := hv
  have hx := B.exec
  have hb := B.bytes
  have hr := B.returns
  have hts := atoms_spec (ws := w_States_itemCount) B.pre
  have hown : s.vm.findClass R_States = some m.cls := findClass_of_methodNamed B.named
  have hg := fun (w : Cond) (h : w ∈ gw) => hts w (List.mem_cons_of_mem _ h)
  have hlocks := B.notSynchronized
  subst hsz
  have hD := hD0.self (sz := s.heap.size)
  generalize hAe : va_A (wd_States_itemCount kA a0 v0_0 v0_1 v0_2 v0_3 x0_4) s.heap.size = A at hD ⊢
  have hA : ∀ q : Nat, s.heap.size ≤ q → A q := fun q h => by rw [← hAe]; exact Or.inr h
  have hS : va_S A s.heap s.heap [] := va_S.rf
  have hl := lv_entry ([.ref a0]) (n := 1) (Nat.le_of_ble_eq_true rfl)
  rw [lg_entry_eq]
  generalize (lg_sl ([.ref a0]) ++ List.replicate (1 - (lg_sl ([.ref a0])).length) Slot.unset).toArray = ls at hl ⊢
  have hl : lv_has ls 1 [(0, .ref a0)] := hl
  unfold S_States_itemCount at hF
  refine lv_aload_n hx hb d_States_itemCount_0 rfl (lv_at hl 0 rfl) ?_
  refine va_get (D := (dC, dI)) (ci := 6) (v := .int x0_4) (C := R_States) (T := F_States) (N := 5) hx hb hg iw_States hown hK hP 0 rfl rfl 4 (by decide) (hg _ gw_187) (fun _ h9 => h9) rfl d_States_itemCount_1 ?_
  have e0 := Option.some.inj hF
  exact W.iret (v := x0_4) hx hb hr (fun t ht hW => ⟨⟨x0_4, (), rfl, e0, by rw [ht]; exact hP, va_K.moved hW.alike hK, (by exact hD)⟩, hS.F ht⟩) hS.2.2 d_States_itemCount_4 hlocks
-- ===== RepairDesk$States.clearSet(I)V
abbrev wd_States_clearSet (kA : Nat → ClassId) (a0 a1 : Nat) (v0_1 v0_2 v0_3 v0_4 : Value) (f1 : (Nat → Int32)) : va_W := [(a0, .inr (6, [.ref a1, v0_1, v0_2, v0_3, v0_4])), (a1, .inl (kA 0, 2255, .inl f1))]
abbrev rm_States_clearSet : Room := { frames := 0, cells := 0, slots := 0, locals := 0 }
def B_States_clearSet_0 (K : Nat → Int32 → Int32 → (Nat → Int32) → Option ((Nat → Int32))) (l1 : Int32) (l2 : Int32) (f1 : (Nat → Int32)) : Option ((Nat → Int32)) := (if ((l1 + 1) * 55) ≤ l2 then (some f1) else (if 2255 ≤ l2 then (some f1) else (if (l2 : Int32) < 0 ∨ 2255 ≤ (Int32.toNatClampNeg l2) then none else (K 0 l1 (l2 + 1) (upd f1 (Int32.toNatClampNeg l2) 0)))))
def F_States_clearSet  : Nat → Nat → Int32 → Int32 → (Nat → Int32) → Option ((Nat → Int32))
  | 0 => fun _ _ _ _ => none
  | n + 1 => fun hd l1 l2 f1 => match hd with
    | 0 => B_States_clearSet_0 (F_States_clearSet  n)  l1 l2 f1
    | _ => none
set_option maxHeartbeats 4000000 in
set_option maxRecDepth 100000 in
theorem L_States_clearSet {p : Program} {l : Launch} {e : Env} {s : State} {m : MethodId} {args : Array Value} {below : List Frame} {meth : Method} {c : Code} {A : Nat → Prop} {dC : Nat → ClassId} {dI : Nat → Nat → Nat} {kA : Nat → ClassId} (hx : p.tables.exec = Jvm.exec) (hb : c.code = b_States_clearSet) (hr : meth.sig.returnType = none) (hlocks : meth.locks = false) (hml : c.maxLocals = 3) (hown : s.vm.findClass R_States = some m.cls) (hts : ∀ w ∈ w_States_clearSet, w.before args s = true) (hA : ∀ q : Nat, s.heap.size ≤ q → A q) (hK : va_K (dC, dI) classes (tys_ kA) s) (a0 a1 : Nat) (v0_1 v0_2 v0_3 v0_4 : Value) (of1 : (Nat → Int32)) : ∀ n : Nat, (∀ (l1 l2 : Int32) (f1 : (Nat → Int32)), F_States_clearSet  n 0 l1 l2 f1 = some of1 → ∀ (H : Heap) (locs : List Loc) (ls : Array Slot), va_P (dC, dI) classes (wd_States_clearSet kA a0 a1 v0_1 v0_2 v0_3 v0_4 f1) H → va_D A (wd_States_clearSet kA a0 a1 v0_1 v0_2 v0_3 v0_4 f1) → va_S A s.heap H locs → lv_has ls 3 [(0, .ref a0), (1, .int l1), (2, .int l2)] → W p l e (headSpec w_States_clearSet rm_States_clearSet).room s m args below meth c H locs 0 0 (MQ below (va_Qv (fun (_ : Unit) => True) (fun _ t => va_P (dC, dI) classes (wd_States_clearSet kA a0 a1 v0_1 v0_2 v0_3 v0_4 of1) t.heap ∧ va_K (dC, dI) classes (tys_ kA) t ∧ va_D A (wd_States_clearSet kA a0 a1 v0_1 v0_2 v0_3 v0_4 of1)) A) args s 0 0 A) (F0 m 5 ls [])) := by
  have hg := fun (w : Cond) (h : w ∈ gw) => hts w (List.mem_cons_of_mem _ h)
  intro n
  induction n with
  | zero =>
    exact fun _ _ _ hF => absurd (show (none : Option _) = some _ from hF) (fun z => by cases z)
  | succ n ih =>
    intro l1 l2 f1 hF H locs ls hP hD hS hl
    have hF : B_States_clearSet_0 (F_States_clearSet  n)  l1 l2 f1 = some of1 := hF
    unfold B_States_clearSet_0 at hF
    refine lv_iload_n hx hb d_States_clearSet_5 rfl (lv_at hl 2 rfl) ?_
    refine lv_iload_n hx hb d_States_clearSet_6 rfl (lv_at hl 1 rfl) ?_
    refine lv_iconst (v := 1) hx hb d_States_clearSet_7 (by decide) ?_
    refine lv_iadd hx hb d_States_clearSet_8 ?_
    refine lv_bipush (v := 55) hx hb d_States_clearSet_9 (by decide) ?_
    refine lv_imul hx hb d_States_clearSet_11 ?_
    refine lv_icmp_ge (tgt := 37) hx hb d_States_clearSet_12 (by decide) (fun c_1 => ?_) (fun c_1 => ?_)
    · rw [if_pos c_1] at hF
      have e0 := Option.some.inj hF
      exact W.vret hx hb hr (fun t ht hW => ⟨⟨(), rfl, trivial, by rw [ht, ← e0]; exact hP, va_K.moved hW.alike hK, (by rw [← e0]; exact hD)⟩, hS.F ht⟩) hS.2.2 d_States_clearSet_37 hlocks
    · rw [if_neg c_1] at hF
      refine lv_iload_n hx hb d_States_clearSet_15 rfl (lv_at hl 2 rfl) ?_
      refine lv_aload_n hx hb d_States_clearSet_16 rfl (lv_at hl 0 rfl) ?_
      refine va_get (D := (dC, dI)) (ci := 6) (v := .ref a1) (C := R_States) (T := F_States) (N := 5) hx hb hg iw_States hown hK hP 0 rfl rfl 0 (by decide) (hg _ gw_188) (fun _ h9 => h9) rfl d_States_clearSet_17 ?_
      refine va_alen (v := 2255) hx hb hK hP 1 0 rfl rfl rfl d_States_clearSet_20 ?_
      refine lv_icmp_ge (tgt := 37) hx hb d_States_clearSet_21 (by decide) (fun c_2 => ?_) (fun c_2 => ?_)
      · rw [if_pos c_2] at hF
        have e0 := Option.some.inj hF
        exact W.vret hx hb hr (fun t ht hW => ⟨⟨(), rfl, trivial, by rw [ht, ← e0]; exact hP, va_K.moved hW.alike hK, (by rw [← e0]; exact hD)⟩, hS.F ht⟩) hS.2.2 d_States_clearSet_37 hlocks
      · rw [if_neg c_2] at hF
        refine lv_aload_n hx hb d_States_clearSet_24 rfl (lv_at hl 0 rfl) ?_
        refine va_get (D := (dC, dI)) (ci := 6) (v := .ref a1) (C := R_States) (T := F_States) (N := 5) hx hb hg iw_States hown hK hP 0 rfl rfl 0 (by decide) (hg _ gw_188) (fun _ h9 => h9) rfl d_States_clearSet_25 ?_
        refine lv_iload_n hx hb d_States_clearSet_28 rfl (lv_at hl 2 rfl) ?_
        refine lv_iconst (v := 0) hx hb d_States_clearSet_29 (by decide) ?_
        obtain ⟨h_3, hF⟩ := rd_chk hF
        refine va_iast hx hb hK hP hD hS 1 0 rfl rfl h_3 d_States_clearSet_30 (fun H locs hP hD hS => ?_)
        have hP : va_P (dC, dI) classes (wd_States_clearSet kA a0 a1 v0_1 v0_2 v0_3 v0_4 (upd f1 (Int32.toNatClampNeg l2) 0)) H := hP
        have hD : va_D A (wd_States_clearSet kA a0 a1 v0_1 v0_2 v0_3 v0_4 (upd f1 (Int32.toNatClampNeg l2) 0)) := hD
        refine lv_iinc (v := (l2 + 1)) (lv' := [(2, .int (l2 + 1)), (0, .ref a0), (1, .int l1)]) hx hb d_States_clearSet_31 hl (k := 2) rfl (by rfl) (by decide) rfl (fun ls hl => ?_)
        refine lv_goto (tgt := 5) hx hb d_States_clearSet_34 (by decide) ?_
        exact ih l1 (l2 + 1) (upd f1 (Int32.toNatClampNeg l2) 0) hF _ _ _ hP hD hS (lv_sub hl [1, 2, 0] rfl)
def S_States_clearSet (p1 : Int32) (f1 : (Nat → Int32)) : Option ((Nat → Int32)) := (F_States_clearSet fuel_ 0 p1 (p1 * 55) f1)
set_option maxHeartbeats 4000000 in
set_option maxRecDepth 100000 in
theorem c_States_clearSet (l : Launch) (dC : Nat → ClassId) (dI : Nat → Nat → Nat) (kA : Nat → ClassId) (sz : Nat) (a0 a1 : Nat) (v0_1 v0_2 v0_3 v0_4 : Value) (p1 : Int32) (f1 : (Nat → Int32)) (of1 : (Nat → Int32)) (hF : S_States_clearSet p1 f1 = some of1) : Met l y_States_clearSet w_States_clearSet rm_States_clearSet (va_Pc [.ref a0, .int p1] (fun U => U.heap.size = sz ∧ va_P (dC, dI) classes (wd_States_clearSet kA a0 a1 v0_1 v0_2 v0_3 v0_4 f1) U.heap ∧ va_K (dC, dI) classes (tys_ kA) U ∧ va_D (fun _ => True) (wd_States_clearSet kA a0 a1 v0_1 v0_2 v0_3 v0_4 f1))) (va_Qv (fun (_ : Unit) => True) (fun _ t => va_P (dC, dI) classes (wd_States_clearSet kA a0 a1 v0_1 v0_2 v0_3 v0_4 of1) t.heap ∧ va_K (dC, dI) classes (tys_ kA) t ∧ va_D (va_A (wd_States_clearSet kA a0 a1 v0_1 v0_2 v0_3 v0_4 f1) sz) (wd_States_clearSet kA a0 a1 v0_1 v0_2 v0_3 v0_4 of1)) (va_A (wd_States_clearSet kA a0 a1 v0_1 v0_2 v0_3 v0_4 f1) sz)) 0 0 (va_A (wd_States_clearSet kA a0 a1 v0_1 v0_2 v0_3 v0_4 f1) sz) := by
  refine Met.ofW (cc := b_States_clearSet) (maxL := 3) (ret := none) (by decide) rfl ?_
  intro p e s m args below meth c s₁ B hml hv
  obtain ⟨rfl, hsz, hP, hK, hD0⟩ := hv
  have hx := B.exec
  have hb := B.bytes
  have hr := B.returns
  have hts := atoms_spec (ws := w_States_clearSet) B.pre
  have hown : s.vm.findClass R_States = some m.cls := findClass_of_methodNamed B.named
  have hg := fun (w : Cond) (h : w ∈ gw) => hts w (List.mem_cons_of_mem _ h)
  have hlocks := B.notSynchronized
  subst hsz
  have hD := hD0.self (sz := s.heap.size)
  generalize hAe : va_A (wd_States_clearSet kA a0 a1 v0_1 v0_2 v0_3 v0_4 f1) s.heap.size = A at hD ⊢
  have hA : ∀ q : Nat, s.heap.size ≤ q → A q := fun q h => by rw [← hAe]; exact Or.inr h
  have hS : va_S A s.heap s.heap [] := va_S.rf
  have hl := lv_entry ([.ref a0, .int p1]) (n := 3) (Nat.le_of_ble_eq_true rfl)
  rw [lg_entry_eq]
  generalize (lg_sl ([.ref a0, .int p1]) ++ List.replicate (3 - (lg_sl ([.ref a0, .int p1])).length) Slot.unset).toArray = ls at hl ⊢
  have hl : lv_has ls 3 [(0, .ref a0), (1, .int p1)] := hl
  unfold S_States_clearSet at hF
  have ih := L_States_clearSet (l := l) (e := e) (below := below) hx hb hr hlocks hml hown hts hA hK a0 a1 v0_1 v0_2 v0_3 v0_4  of1 fuel_
  refine lv_iload_n hx hb d_States_clearSet_0 rfl (lv_at hl 1 rfl) ?_
  refine lv_bipush (v := 55) hx hb d_States_clearSet_1 (by decide) ?_
  refine lv_imul hx hb d_States_clearSet_3 ?_
  refine lv_istore_n (lv' := [(2, .int (p1 * 55)), (0, .ref a0), (1, .int p1)]) hx hb d_States_clearSet_4 rfl hl (by decide) rfl (fun ls hl => ?_)
  exact ih p1 (p1 * 55) f1 hF _ _ _ hP hD hS (lv_sub hl [1, 2, 0] rfl)
-- ===== RepairDesk$States.addRulesOf(LRepairDesk$Grammar;III)Z
abbrev wd_States_addRulesOf (kA : Nat → ClassId) (a0 a1 a2 a3 a4 : Nat) (v0_1 v0_2 v0_3 v0_4 v2_1 v2_2 v2_4 v2_5 v2_6 : Value) (f1 : (Nat → Int32)) (f3 : (Nat → Int32)) (f4 : (Nat → Int32)) : va_W := [(a0, .inr (6, [.ref a1, v0_1, v0_2, v0_3, v0_4])), (a1, .inl (kA 0, 2255, .inl f1)), (a2, .inr (2, [.ref a3, v2_1, v2_2, .ref a4, v2_4, v2_5, v2_6])), (a3, .inl (kA 0, 12, .inl f3)), (a4, .inl (kA 1, 12, .inl f4))]
abbrev rm_States_addRulesOf : Room := { frames := 1, cells := 0, slots := 0, locals := 21 }
def B_States_addRulesOf_0 (K : Nat → Int32 → Int32 → Int32 → Int32 → Int32 → (Nat → Int32) → Option (Int32 × (Nat → Int32))) (f3 : (Nat → Int32)) (f4 : (Nat → Int32)) (l2 : Int32) (l3 : Int32) (l4 : Int32) (l5 : Int32) (l6 : Int32) (f1 : (Nat → Int32)) : Option (Int32 × (Nat → Int32)) := (if 10 ≤ l6 then (if l5 = 0 ∨ l5 = 1 then some (l5, f1) else none) else ((S_Grammar_isUsed l6 f4).bind fun u_3 => (if u_3 = 0 then (K 0 l2 l3 l4 l5 (l6 + 1) f1) else ((S_Grammar_nameOf l6 f3).bind fun u_5 => (if ¬ u_5 = l3 then (K 0 l2 l3 l4 l5 (l6 + 1) f1) else (if (((l2 * 55) + (l6 * 5)) : Int32) < 0 ∨ 2255 ≤ (Int32.toNatClampNeg ((l2 * 55) + (l6 * 5))) then none else (if (((l2 * 55) + (l6 * 5)) : Int32) < 0 ∨ 2255 ≤ (Int32.toNatClampNeg ((l2 * 55) + (l6 * 5))) then none else (if ((f1 (Int32.toNatClampNeg ((l2 * 55) + (l6 * 5)))) ||| l4) = (f1 (Int32.toNatClampNeg ((l2 * 55) + (l6 * 5)))) then (K 0 l2 l3 l4 l5 (l6 + 1) f1) else (if (((l2 * 55) + (l6 * 5)) : Int32) < 0 ∨ 2255 ≤ (Int32.toNatClampNeg ((l2 * 55) + (l6 * 5))) then none else (if (((l2 * 55) + (l6 * 5)) : Int32) < 0 ∨ 2255 ≤ (Int32.toNatClampNeg ((l2 * 55) + (l6 * 5))) then none else (K 0 l2 l3 l4 1 (l6 + 1) (upd f1 (Int32.toNatClampNeg ((l2 * 55) + (l6 * 5))) ((f1 (Int32.toNatClampNeg ((l2 * 55) + (l6 * 5)))) ||| l4)))))))))))))
def F_States_addRulesOf (f3 : (Nat → Int32)) (f4 : (Nat → Int32)) : Nat → Nat → Int32 → Int32 → Int32 → Int32 → Int32 → (Nat → Int32) → Option (Int32 × (Nat → Int32))
  | 0 => fun _ _ _ _ _ _ _ => none
  | n + 1 => fun hd l2 l3 l4 l5 l6 f1 => match hd with
    | 0 => B_States_addRulesOf_0 (F_States_addRulesOf f3 f4 n) f3 f4 l2 l3 l4 l5 l6 f1
    | _ => none
set_option maxHeartbeats 4000000 in
set_option maxRecDepth 100000 in
theorem L_States_addRulesOf {p : Program} {l : Launch} {e : Env} {s : State} {m : MethodId} {args : Array Value} {below : List Frame} {meth : Method} {c : Code} {A : Nat → Prop} {dC : Nat → ClassId} {dI : Nat → Nat → Nat} {kA : Nat → ClassId} (hx : p.tables.exec = Jvm.exec) (hb : c.code = b_States_addRulesOf) (hr : meth.sig.returnType = some .boolean) (hlocks : meth.locks = false) (hml : c.maxLocals = 8) (hown : s.vm.findClass R_States = some m.cls) (hts : ∀ w ∈ w_States_addRulesOf, w.before args s = true) (hA : ∀ q : Nat, s.heap.size ≤ q → A q) (hK : va_K (dC, dI) classes (tys_ kA) s) (a0 a1 a2 a3 a4 : Nat) (v0_1 v0_2 v0_3 v0_4 v2_1 v2_2 v2_4 v2_5 v2_6 : Value) (f3 : (Nat → Int32)) (f4 : (Nat → Int32)) (r : Int32) (of1 : (Nat → Int32)) : ∀ n : Nat, (∀ (l2 l3 l4 l5 l6 : Int32) (f1 : (Nat → Int32)), F_States_addRulesOf f3 f4 n 0 l2 l3 l4 l5 l6 f1 = some (r, of1) → ∀ (H : Heap) (locs : List Loc) (ls : Array Slot), va_P (dC, dI) classes (wd_States_addRulesOf kA a0 a1 a2 a3 a4 v0_1 v0_2 v0_3 v0_4 v2_1 v2_2 v2_4 v2_5 v2_6 f1 f3 f4) H → va_D A (wd_States_addRulesOf kA a0 a1 a2 a3 a4 v0_1 v0_2 v0_3 v0_4 v2_1 v2_2 v2_4 v2_5 v2_6 f1 f3 f4) → va_S A s.heap H locs → lv_has ls 8 [(0, .ref a0), (1, .ref a2), (2, .int l2), (3, .int l3), (4, .int l4), (5, .int l5), (6, .int l6)] → W p l e (headSpec w_States_addRulesOf rm_States_addRulesOf).room s m args below meth c H locs 0 0 (MQ below (va_Qi (fun (r1 : Int32) (_ : Unit) => r1 = r) (fun _ t => va_P (dC, dI) classes (wd_States_addRulesOf kA a0 a1 a2 a3 a4 v0_1 v0_2 v0_3 v0_4 v2_1 v2_2 v2_4 v2_5 v2_6 of1 f3 f4) t.heap ∧ va_K (dC, dI) classes (tys_ kA) t ∧ va_D A (wd_States_addRulesOf kA a0 a1 a2 a3 a4 v0_1 v0_2 v0_3 v0_4 v2_1 v2_2 v2_4 v2_5 v2_6 of1 f3 f4)) A) args s 0 0 A) (F0 m 6 ls [])) := by
  have hg := fun (w : Cond) (h : w ∈ gw) => hts w (List.mem_cons_of_mem _ h)
  intro n
  induction n with
  | zero =>
    exact fun _ _ _ _ _ _ hF => absurd (show (none : Option _) = some _ from hF) (fun z => by cases z)
  | succ n ih =>
    intro l2 l3 l4 l5 l6 f1 hF H locs ls hP hD hS hl
    have hF : B_States_addRulesOf_0 (F_States_addRulesOf f3 f4 n) f3 f4 l2 l3 l4 l5 l6 f1 = some (r, of1) := hF
    unfold B_States_addRulesOf_0 at hF
    refine lv_iload hx hb d_States_addRulesOf_6 (lv_at hl 6 rfl) ?_
    refine lv_bipush (v := 10) hx hb d_States_addRulesOf_8 (by decide) ?_
    refine lv_icmp_ge (tgt := 84) hx hb d_States_addRulesOf_10 (by decide) (fun c_1 => ?_) (fun c_1 => ?_)
    · rw [if_pos c_1] at hF
      refine lv_iload hx hb d_States_addRulesOf_84 (lv_at hl 5 rfl) ?_
      obtain ⟨b_2, hF⟩ := rd_bool hF
      have e0 := Option.some.inj hF
      have q0 := Prod.mk.inj e0
      exact W.zret (v := l5) hx hb hr (rd_nb b_2) (fun t ht hW => ⟨⟨l5, (), rfl, q0.1, by rw [ht, ← q0.2]; exact hP, va_K.moved hW.alike hK, (by rw [← q0.2]; exact hD)⟩, hS.F ht⟩) hS.2.2 d_States_addRulesOf_86 hlocks
    · rw [if_neg c_1] at hF
      refine lv_iload_n hx hb d_States_addRulesOf_13 rfl (lv_at hl 2 rfl) ?_
      refine lv_bipush (v := 55) hx hb d_States_addRulesOf_14 (by decide) ?_
      refine lv_imul hx hb d_States_addRulesOf_16 ?_
      refine lv_iload hx hb d_States_addRulesOf_17 (lv_at hl 6 rfl) ?_
      refine lv_iconst (v := 5) hx hb d_States_addRulesOf_19 (by decide) ?_
      refine lv_imul hx hb d_States_addRulesOf_20 ?_
      refine lv_iadd hx hb d_States_addRulesOf_21 ?_
      refine lv_istore (lv' := [(7, .int ((l2 * 55) + (l6 * 5))), (0, .ref a0), (1, .ref a2), (2, .int l2), (3, .int l3), (4, .int l4), (5, .int l5), (6, .int l6)]) hx hb d_States_addRulesOf_22 hl (by decide) rfl (fun ls hl => ?_)
      refine lv_aload_n hx hb d_States_addRulesOf_24 rfl (lv_at hl 2 rfl) ?_
      refine lv_iload hx hb d_States_addRulesOf_25 (lv_at hl 7 rfl) ?_
      obtain ⟨u_3, hS_3, hF⟩ := rd_bind hF
      have hPc := hP.sub (ws' := (wd_Grammar_isUsed kA a2 a4 (.ref a3) v2_1 v2_2 v2_4 v2_5 v2_6 f4)) [2, 4] rfl
      have hDc := hD.sub (ws' := (wd_Grammar_isUsed kA a2 a4 (.ref a3) v2_1 v2_2 v2_4 v2_5 v2_6 f4)) [2, 4] (by decide) rfl
      have hFc := va_free (wc := (wd_Grammar_isUsed kA a2 a4 (.ref a3) v2_1 v2_2 v2_4 v2_5 v2_6 f4)) hD hS hA [2, 4] rfl
      refine va_calli (va_runV (As := [.int l6]) (rest := []) ⟨hx, hb, hml, hown, hts⟩ (c_Grammar_isUsed l dC dI kA H.size a2 a4 (.ref a3) v2_1 v2_2 v2_4 v2_5 v2_6 l6 f4 u_3 hS_3) (cwV 1 hts (gw_V gw_189 gw_190 gw_191 gw_42 gw_192) rfl rfl rfl (by decide +kernel) ⟨Nat.le_of_ble_eq_true rfl, Nat.le_of_ble_eq_true rfl⟩) ⟨fun a U g mk q => by obtain ⟨q0, q1, qP, qK, qD⟩ := q; exact ⟨q0, q1, qP, va_K.moved (u := U) (U := U.calling g mk a) (Vm.Alike.refl U.vm) qK, qD⟩, va_recv hK hP (ci := 2) (q0 := 2) rfl rfl, fun U hU hW => ⟨rfl, by rw [hU], by rw [hU]; exact hPc, va_K.moved hW.alike hK, hDc.weaken (fun _ _ _ _ => trivial)⟩⟩ rfl rfl hl.1 rfl (lv_room (Nat.le_of_ble_eq_true rfl)) d_States_addRulesOf_27 ⟨Nat.zero_le _, Nat.zero_le _⟩) hS (fun q _ h => hFc q h) hFc (fun r1 u t H1 locs ht hvm hw hB hz1 hk1 hS => ?_)
      rw [show r1 = _ from hw]
      obtain ⟨hP1, hK1, hD1⟩ := hB
      rw [ht] at hP1
      obtain ⟨hP, hD⟩ := va_join (wr := [(a0, .inr (6, [.ref a1, v0_1, v0_2, v0_3, v0_4])), (a1, .inl (kA 0, 2255, .inl f1)), (a3, .inl (kA 0, 12, .inl f3))]) (w1 := (wd_Grammar_isUsed kA a2 a4 (.ref a3) v2_1 v2_2 v2_4 v2_5 v2_6 f4)) hP hD [2, 4] [0, 1, 3] rfl rfl (by decide) (by decide) hk1 hFc hP1 hD1
      have hP := hP.sub (ws' := (wd_States_addRulesOf kA a0 a1 a2 a3 a4 v0_1 v0_2 v0_3 v0_4 v2_1 v2_2 v2_4 v2_5 v2_6 f1 f3 f4)) [0, 1, 3, 2, 4] rfl
      have hD := hD.sub (ws' := (wd_States_addRulesOf kA a0 a1 a2 a3 a4 v0_1 v0_2 v0_3 v0_4 v2_1 v2_2 v2_4 v2_5 v2_6 f1 f3 f4)) [0, 1, 3, 2, 4] (by decide) rfl
      clear hPc hDc hFc hP1 hK1 hD1
      generalize H1 = H at hP hS ⊢
      refine lv_if_eq (tgt := 78) hx hb d_States_addRulesOf_30 (by decide) (fun c_4 => ?_) (fun c_4 => ?_)
      · rw [if_pos c_4] at hF
        refine lv_iinc (v := (l6 + 1)) (lv' := [(6, .int (l6 + 1)), (7, .int ((l2 * 55) + (l6 * 5))), (0, .ref a0), (1, .ref a2), (2, .int l2), (3, .int l3), (4, .int l4), (5, .int l5)]) hx hb d_States_addRulesOf_78 hl (k := 7) rfl (by rfl) (by decide) rfl (fun ls hl => ?_)
        refine lv_goto (tgt := 6) hx hb d_States_addRulesOf_81 (by decide) ?_
        exact ih l2 l3 l4 l5 (l6 + 1) f1 hF _ _ _ hP hD hS (lv_sub hl [2, 3, 4, 5, 6, 7, 0] rfl)
      · rw [if_neg c_4] at hF
        refine lv_aload_n hx hb d_States_addRulesOf_33 rfl (lv_at hl 2 rfl) ?_
        refine lv_iload hx hb d_States_addRulesOf_34 (lv_at hl 7 rfl) ?_
        obtain ⟨u_5, hS_5, hF⟩ := rd_bind hF
        have hPc := hP.sub (ws' := (wd_Grammar_nameOf kA a2 a3 v2_1 v2_2 (.ref a4) v2_4 v2_5 v2_6 f3)) [2, 3] rfl
        have hDc := hD.sub (ws' := (wd_Grammar_nameOf kA a2 a3 v2_1 v2_2 (.ref a4) v2_4 v2_5 v2_6 f3)) [2, 3] (by decide) rfl
        have hFc := va_free (wc := (wd_Grammar_nameOf kA a2 a3 v2_1 v2_2 (.ref a4) v2_4 v2_5 v2_6 f3)) hD hS hA [2, 3] rfl
        refine va_calli (va_runV (As := [.int l6]) (rest := []) ⟨hx, hb, hml, hown, hts⟩ (c_Grammar_nameOf l dC dI kA H.size a2 a3 v2_1 v2_2 (.ref a4) v2_4 v2_5 v2_6 l6 f3 u_5 hS_5) (cwV 1 hts (gw_V gw_193 gw_113 gw_114 gw_42 gw_115) rfl rfl rfl (by decide +kernel) ⟨Nat.le_of_ble_eq_true rfl, Nat.le_of_ble_eq_true rfl⟩) ⟨fun a U g mk q => by obtain ⟨q0, q1, qP, qK, qD⟩ := q; exact ⟨q0, q1, qP, va_K.moved (u := U) (U := U.calling g mk a) (Vm.Alike.refl U.vm) qK, qD⟩, va_recv hK hP (ci := 2) (q0 := 2) rfl rfl, fun U hU hW => ⟨rfl, by rw [hU], by rw [hU]; exact hPc, va_K.moved hW.alike hK, hDc.weaken (fun _ _ _ _ => trivial)⟩⟩ rfl rfl hl.1 rfl (lv_room (Nat.le_of_ble_eq_true rfl)) d_States_addRulesOf_36 ⟨Nat.zero_le _, Nat.zero_le _⟩) hS (fun q _ h => hFc q h) hFc (fun r1 u t H1 locs ht hvm hw hB hz1 hk1 hS => ?_)
        rw [show r1 = _ from hw]
        obtain ⟨hP1, hK1, hD1⟩ := hB
        rw [ht] at hP1
        obtain ⟨hP, hD⟩ := va_join (wr := [(a0, .inr (6, [.ref a1, v0_1, v0_2, v0_3, v0_4])), (a1, .inl (kA 0, 2255, .inl f1)), (a4, .inl (kA 1, 12, .inl f4))]) (w1 := (wd_Grammar_nameOf kA a2 a3 v2_1 v2_2 (.ref a4) v2_4 v2_5 v2_6 f3)) hP hD [2, 3] [0, 1, 4] rfl rfl (by decide) (by decide) hk1 hFc hP1 hD1
        have hP := hP.sub (ws' := (wd_States_addRulesOf kA a0 a1 a2 a3 a4 v0_1 v0_2 v0_3 v0_4 v2_1 v2_2 v2_4 v2_5 v2_6 f1 f3 f4)) [0, 1, 3, 4, 2] rfl
        have hD := hD.sub (ws' := (wd_States_addRulesOf kA a0 a1 a2 a3 a4 v0_1 v0_2 v0_3 v0_4 v2_1 v2_2 v2_4 v2_5 v2_6 f1 f3 f4)) [0, 1, 3, 4, 2] (by decide) rfl
        clear hPc hDc hFc hP1 hK1 hD1
        generalize H1 = H at hP hS ⊢
        refine lv_iload_n hx hb d_States_addRulesOf_39 rfl (lv_at hl 4 rfl) ?_
        refine lv_icmp_ne (tgt := 78) hx hb d_States_addRulesOf_40 (by decide) (fun c_6 => ?_) (fun c_6 => ?_)
        · rw [if_pos c_6] at hF
          refine lv_iinc (v := (l6 + 1)) (lv' := [(6, .int (l6 + 1)), (7, .int ((l2 * 55) + (l6 * 5))), (0, .ref a0), (1, .ref a2), (2, .int l2), (3, .int l3), (4, .int l4), (5, .int l5)]) hx hb d_States_addRulesOf_78 hl (k := 7) rfl (by rfl) (by decide) rfl (fun ls hl => ?_)
          refine lv_goto (tgt := 6) hx hb d_States_addRulesOf_81 (by decide) ?_
          exact ih l2 l3 l4 l5 (l6 + 1) f1 hF _ _ _ hP hD hS (lv_sub hl [2, 3, 4, 5, 6, 7, 0] rfl)
        · rw [if_neg (fun z => z c_6)] at hF
          refine lv_aload_n hx hb d_States_addRulesOf_43 rfl (lv_at hl 1 rfl) ?_
          refine va_get (D := (dC, dI)) (ci := 6) (v := .ref a1) (C := R_States) (T := F_States) (N := 5) hx hb hg iw_States hown hK hP 0 rfl rfl 0 (by decide) (hg _ gw_188) (fun _ h9 => h9) rfl d_States_addRulesOf_44 ?_
          refine lv_iload hx hb d_States_addRulesOf_47 (lv_at hl 0 rfl) ?_
          obtain ⟨h_7, hF⟩ := rd_chk hF
          refine va_iald hx hb hK hP 1 0 rfl rfl h_7 d_States_addRulesOf_49 ?_
          refine lv_iload hx hb d_States_addRulesOf_50 (lv_at hl 5 rfl) ?_
          refine lv_ior hx hb d_States_addRulesOf_52 ?_
          refine lv_aload_n hx hb d_States_addRulesOf_53 rfl (lv_at hl 1 rfl) ?_
          refine va_get (D := (dC, dI)) (ci := 6) (v := .ref a1) (C := R_States) (T := F_States) (N := 5) hx hb hg iw_States hown hK hP 0 rfl rfl 0 (by decide) (hg _ gw_188) (fun _ h9 => h9) rfl d_States_addRulesOf_54 ?_
          refine lv_iload hx hb d_States_addRulesOf_57 (lv_at hl 0 rfl) ?_
          obtain ⟨h_8, hF⟩ := rd_chk hF
          refine va_iald hx hb hK hP 1 0 rfl rfl h_8 d_States_addRulesOf_59 ?_
          refine lv_icmp_eq (tgt := 78) hx hb d_States_addRulesOf_60 (by decide) (fun c_9 => ?_) (fun c_9 => ?_)
          · rw [if_pos c_9] at hF
            refine lv_iinc (v := (l6 + 1)) (lv' := [(6, .int (l6 + 1)), (7, .int ((l2 * 55) + (l6 * 5))), (0, .ref a0), (1, .ref a2), (2, .int l2), (3, .int l3), (4, .int l4), (5, .int l5)]) hx hb d_States_addRulesOf_78 hl (k := 7) rfl (by rfl) (by decide) rfl (fun ls hl => ?_)
            refine lv_goto (tgt := 6) hx hb d_States_addRulesOf_81 (by decide) ?_
            exact ih l2 l3 l4 l5 (l6 + 1) f1 hF _ _ _ hP hD hS (lv_sub hl [2, 3, 4, 5, 6, 7, 0] rfl)
          · rw [if_neg c_9] at hF
            refine lv_aload_n hx hb d_States_addRulesOf_63 rfl (lv_at hl 1 rfl) ?_
            refine va_get (D := (dC, dI)) (ci := 6) (v := .ref a1) (C := R_States) (T := F_States) (N := 5) hx hb hg iw_States hown hK hP 0 rfl rfl 0 (by decide) (hg _ gw_188) (fun _ h9 => h9) rfl d_States_addRulesOf_64 ?_
            refine lv_iload hx hb d_States_addRulesOf_67 (lv_at hl 0 rfl) ?_
            refine lv_dup2_11 hx hb d_States_addRulesOf_69 rfl rfl ?_
            obtain ⟨h_10, hF⟩ := rd_chk hF
            refine va_iald hx hb hK hP 1 0 rfl rfl h_10 d_States_addRulesOf_70 ?_
            refine lv_iload hx hb d_States_addRulesOf_71 (lv_at hl 5 rfl) ?_
            refine lv_ior hx hb d_States_addRulesOf_73 ?_
            obtain ⟨h_11, hF⟩ := rd_chk hF
            refine va_iast hx hb hK hP hD hS 1 0 rfl rfl h_11 d_States_addRulesOf_74 (fun H locs hP hD hS => ?_)
            have hP : va_P (dC, dI) classes (wd_States_addRulesOf kA a0 a1 a2 a3 a4 v0_1 v0_2 v0_3 v0_4 v2_1 v2_2 v2_4 v2_5 v2_6 (upd f1 (Int32.toNatClampNeg ((l2 * 55) + (l6 * 5))) ((f1 (Int32.toNatClampNeg ((l2 * 55) + (l6 * 5)))) ||| l4)) f3 f4) H := hP
            have hD : va_D A (wd_States_addRulesOf kA a0 a1 a2 a3 a4 v0_1 v0_2 v0_3 v0_4 v2_1 v2_2 v2_4 v2_5 v2_6 (upd f1 (Int32.toNatClampNeg ((l2 * 55) + (l6 * 5))) ((f1 (Int32.toNatClampNeg ((l2 * 55) + (l6 * 5)))) ||| l4)) f3 f4) := hD
            refine lv_iconst (v := 1) hx hb d_States_addRulesOf_75 (by decide) ?_
            refine lv_istore (lv' := [(5, .int 1), (7, .int ((l2 * 55) + (l6 * 5))), (0, .ref a0), (1, .ref a2), (2, .int l2), (3, .int l3), (4, .int l4), (6, .int l6)]) hx hb d_States_addRulesOf_76 hl (by decide) rfl (fun ls hl => ?_)
            refine lv_iinc (v := (l6 + 1)) (lv' := [(6, .int (l6 + 1)), (5, .int 1), (7, .int ((l2 * 55) + (l6 * 5))), (0, .ref a0), (1, .ref a2), (2, .int l2), (3, .int l3), (4, .int l4)]) hx hb d_States_addRulesOf_78 hl (k := 7) rfl (by rfl) (by decide) rfl (fun ls hl => ?_)
            refine lv_goto (tgt := 6) hx hb d_States_addRulesOf_81 (by decide) ?_
            exact ih l2 l3 l4 1 (l6 + 1) (upd f1 (Int32.toNatClampNeg ((l2 * 55) + (l6 * 5))) ((f1 (Int32.toNatClampNeg ((l2 * 55) + (l6 * 5)))) ||| l4)) hF _ _ _ hP hD hS (lv_sub hl [3, 4, 5, 6, 7, 1, 0] rfl)
def S_States_addRulesOf (p2 : Int32) (p3 : Int32) (p4 : Int32) (f1 : (Nat → Int32)) (f3 : (Nat → Int32)) (f4 : (Nat → Int32)) : Option (Int32 × (Nat → Int32)) := (F_States_addRulesOf f3 f4 fuel_ 0 p2 p3 p4 0 0 f1)
set_option maxHeartbeats 4000000 in
set_option maxRecDepth 100000 in
theorem c_States_addRulesOf (l : Launch) (dC : Nat → ClassId) (dI : Nat → Nat → Nat) (kA : Nat → ClassId) (sz : Nat) (a0 a1 a2 a3 a4 : Nat) (v0_1 v0_2 v0_3 v0_4 v2_1 v2_2 v2_4 v2_5 v2_6 : Value) (p2 : Int32) (p3 : Int32) (p4 : Int32) (f1 : (Nat → Int32)) (f3 : (Nat → Int32)) (f4 : (Nat → Int32)) (r : Int32) (of1 : (Nat → Int32)) (hF : S_States_addRulesOf p2 p3 p4 f1 f3 f4 = some (r, of1)) : Met l y_States_addRulesOf w_States_addRulesOf rm_States_addRulesOf (va_Pc [.ref a0, .ref a2, .int p2, .int p3, .int p4] (fun U => U.heap.size = sz ∧ va_P (dC, dI) classes (wd_States_addRulesOf kA a0 a1 a2 a3 a4 v0_1 v0_2 v0_3 v0_4 v2_1 v2_2 v2_4 v2_5 v2_6 f1 f3 f4) U.heap ∧ va_K (dC, dI) classes (tys_ kA) U ∧ va_D (fun _ => True) (wd_States_addRulesOf kA a0 a1 a2 a3 a4 v0_1 v0_2 v0_3 v0_4 v2_1 v2_2 v2_4 v2_5 v2_6 f1 f3 f4))) (va_Qi (fun (r1 : Int32) (_ : Unit) => r1 = r) (fun _ t => va_P (dC, dI) classes (wd_States_addRulesOf kA a0 a1 a2 a3 a4 v0_1 v0_2 v0_3 v0_4 v2_1 v2_2 v2_4 v2_5 v2_6 of1 f3 f4) t.heap ∧ va_K (dC, dI) classes (tys_ kA) t ∧ va_D (va_A (wd_States_addRulesOf kA a0 a1 a2 a3 a4 v0_1 v0_2 v0_3 v0_4 v2_1 v2_2 v2_4 v2_5 v2_6 f1 f3 f4) sz) (wd_States_addRulesOf kA a0 a1 a2 a3 a4 v0_1 v0_2 v0_3 v0_4 v2_1 v2_2 v2_4 v2_5 v2_6 of1 f3 f4)) (va_A (wd_States_addRulesOf kA a0 a1 a2 a3 a4 v0_1 v0_2 v0_3 v0_4 v2_1 v2_2 v2_4 v2_5 v2_6 f1 f3 f4) sz)) 0 0 (va_A (wd_States_addRulesOf kA a0 a1 a2 a3 a4 v0_1 v0_2 v0_3 v0_4 v2_1 v2_2 v2_4 v2_5 v2_6 f1 f3 f4) sz) := by
  refine Met.ofW (cc := b_States_addRulesOf) (maxL := 8) (ret := some .boolean) (by decide) rfl ?_
  intro p e s m args below meth c s₁ B hml hv
  obtain ⟨rfl, hsz, hP, hK, hD0⟩ := hv
  have hx := B.exec
  have hb := B.bytes
  have hr := B.returns
  have hts := atoms_spec (ws := w_States_addRulesOf) B.pre
  have hown : s.vm.findClass R_States = some m.cls := findClass_of_methodNamed B.named
  have hg := fun (w : Cond) (h : w ∈ gw) => hts w (List.mem_cons_of_mem _ h)
  have hlocks := B.notSynchronized
  subst hsz
  have hD := hD0.self (sz := s.heap.size)
  generalize hAe : va_A (wd_States_addRulesOf kA a0 a1 a2 a3 a4 v0_1 v0_2 v0_3 v0_4 v2_1 v2_2 v2_4 v2_5 v2_6 f1 f3 f4) s.heap.size = A at hD ⊢
  have hA : ∀ q : Nat, s.heap.size ≤ q → A q := fun q h => by rw [← hAe]; exact Or.inr h
  have hS : va_S A s.heap s.heap [] := va_S.rf
  have hl := lv_entry ([.ref a0, .ref a2, .int p2, .int p3, .int p4]) (n := 8) (Nat.le_of_ble_eq_true rfl)
  rw [lg_entry_eq]
  generalize (lg_sl ([.ref a0, .ref a2, .int p2, .int p3, .int p4]) ++ List.replicate (8 - (lg_sl ([.ref a0, .ref a2, .int p2, .int p3, .int p4])).length) Slot.unset).toArray = ls at hl ⊢
  have hl : lv_has ls 8 [(0, .ref a0), (1, .ref a2), (2, .int p2), (3, .int p3), (4, .int p4)] := hl
  unfold S_States_addRulesOf at hF
  have ih := L_States_addRulesOf (l := l) (e := e) (below := below) hx hb hr hlocks hml hown hts hA hK a0 a1 a2 a3 a4 v0_1 v0_2 v0_3 v0_4 v2_1 v2_2 v2_4 v2_5 v2_6 f3 f4 r of1 fuel_
  refine lv_iconst (v := 0) hx hb d_States_addRulesOf_0 (by decide) ?_
  refine lv_istore (lv' := [(5, .int 0), (0, .ref a0), (1, .ref a2), (2, .int p2), (3, .int p3), (4, .int p4)]) hx hb d_States_addRulesOf_1 hl (by decide) rfl (fun ls hl => ?_)
  refine lv_iconst (v := 0) hx hb d_States_addRulesOf_3 (by decide) ?_
  refine lv_istore (lv' := [(6, .int 0), (5, .int 0), (0, .ref a0), (1, .ref a2), (2, .int p2), (3, .int p3), (4, .int p4)]) hx hb d_States_addRulesOf_4 hl (by decide) rfl (fun ls hl => ?_)
  exact ih p2 p3 p4 0 0 f1 hF _ _ _ hP hD hS (lv_sub hl [2, 3, 4, 5, 6, 1, 0] rfl)
-- ===== RepairDesk$States.close(LRepairDesk$Grammar;I)V
abbrev wd_States_close (kA : Nat → ClassId) (a0 a1 a2 a3 a4 a5 a6 a7 : Nat) (v0_1 v0_2 v0_3 v0_4 v2_4 v2_6 : Value) (f1 : (Nat → Int32)) (f3 : (Nat → Int32)) (f4 : (Nat → Int32)) (f5 : (Nat → Int32)) (f6 : (Nat → Int32)) (f7 : (Nat → Int32)) : va_W := [(a0, .inr (6, [.ref a1, v0_1, v0_2, v0_3, v0_4])), (a1, .inl (kA 0, 2255, .inl f1)), (a2, .inr (2, [.ref a4, .ref a6, .ref a5, .ref a7, v2_4, .ref a3, v2_6])), (a3, .inl (kA 0, 6, .inl f3)), (a4, .inl (kA 0, 12, .inl f4)), (a5, .inl (kA 0, 48, .inl f5)), (a6, .inl (kA 0, 12, .inl f6)), (a7, .inl (kA 1, 12, .inl f7))]
abbrev rm_States_close : Room := { frames := 3, cells := 0, slots := 0, locals := 68 }
def B_States_close_0 (K : Nat → Int32 → Int32 → Int32 → Int32 → Int32 → (Nat → Int32) → Option ((Nat → Int32))) (f3 : (Nat → Int32)) (f4 : (Nat → Int32)) (f5 : (Nat → Int32)) (f6 : (Nat → Int32)) (f7 : (Nat → Int32)) (l2 : Int32) (l3 : Int32) (l4 : Int32) (l5 : Int32) (l6 : Int32) (f1 : (Nat → Int32)) : Option ((Nat → Int32)) := (if l3 = 0 then (some f1) else (if 70 < l4 then (some f1) else (K 1 l2 0 l4 0 0 f1)))
def B_States_close_1 (K : Nat → Int32 → Int32 → Int32 → Int32 → Int32 → (Nat → Int32) → Option ((Nat → Int32))) (f3 : (Nat → Int32)) (f4 : (Nat → Int32)) (f5 : (Nat → Int32)) (f6 : (Nat → Int32)) (f7 : (Nat → Int32)) (l2 : Int32) (l3 : Int32) (l4 : Int32) (l5 : Int32) (l6 : Int32) (f1 : (Nat → Int32)) : Option ((Nat → Int32)) := (if 10 < l5 then (K 0 l2 l3 (l4 + 1) 0 0 f1) else (K 2 l2 l3 l4 l5 0 f1))
def B_States_close_2 (K : Nat → Int32 → Int32 → Int32 → Int32 → Int32 → (Nat → Int32) → Option ((Nat → Int32))) (f3 : (Nat → Int32)) (f4 : (Nat → Int32)) (f5 : (Nat → Int32)) (f6 : (Nat → Int32)) (f7 : (Nat → Int32)) (l2 : Int32) (l3 : Int32) (l4 : Int32) (l5 : Int32) (l6 : Int32) (f1 : (Nat → Int32)) : Option ((Nat → Int32)) := ((S_Grammar_sizeOf l5 f6).bind fun u_4 => (if u_4 ≤ l6 then (K 1 l2 l3 l4 (l5 + 1) 0 f1) else (if ((((l2 * 55) + (l5 * 5)) + l6) : Int32) < 0 ∨ 2255 ≤ (Int32.toNatClampNeg (((l2 * 55) + (l5 * 5)) + l6)) then none else ((S_Grammar_symbolAt l5 l6 f5 f6).bind fun u_7 => (if (f1 (Int32.toNatClampNeg (((l2 * 55) + (l5 * 5)) + l6))) = 0 then (K 2 l2 l3 l4 l5 (l6 + 1) f1) else (if u_7 < 6 then (K 2 l2 l3 l4 l5 (l6 + 1) f1) else ((S_Grammar_beginnings l5 (l6 + 1) f3 f5 f6).bind fun u_10 => (if (u_10 &&& 64) = 0 then ((S_States_addRulesOf l2 u_7 u_10 f1 f4 f7).bind fun u_12 => (K 2 l2 (l3 ||| u_12.1) l4 l5 (l6 + 1) u_12.2)) else ((S_States_addRulesOf l2 u_7 ((u_10 &&& 63) ||| (f1 (Int32.toNatClampNeg (((l2 * 55) + (l5 * 5)) + l6)))) f1 f4 f7).bind fun u_13 => (K 2 l2 (l3 ||| u_13.1) l4 l5 (l6 + 1) u_13.2))))))))))
def F_States_close (f3 : (Nat → Int32)) (f4 : (Nat → Int32)) (f5 : (Nat → Int32)) (f6 : (Nat → Int32)) (f7 : (Nat → Int32)) : Nat → Nat → Int32 → Int32 → Int32 → Int32 → Int32 → (Nat → Int32) → Option ((Nat → Int32))
  | 0 => fun _ _ _ _ _ _ _ => none
  | n + 1 => fun hd l2 l3 l4 l5 l6 f1 => match hd with
    | 0 => B_States_close_0 (F_States_close f3 f4 f5 f6 f7 n) f3 f4 f5 f6 f7 l2 l3 l4 l5 l6 f1
    | 1 => B_States_close_1 (F_States_close f3 f4 f5 f6 f7 n) f3 f4 f5 f6 f7 l2 l3 l4 l5 l6 f1
    | 2 => B_States_close_2 (F_States_close f3 f4 f5 f6 f7 n) f3 f4 f5 f6 f7 l2 l3 l4 l5 l6 f1
    | _ => none
set_option maxHeartbeats 4000000 in
set_option maxRecDepth 100000 in
theorem L_States_close {p : Program} {l : Launch} {e : Env} {s : State} {m : MethodId} {args : Array Value} {below : List Frame} {meth : Method} {c : Code} {A : Nat → Prop} {dC : Nat → ClassId} {dI : Nat → Nat → Nat} {kA : Nat → ClassId} (hx : p.tables.exec = Jvm.exec) (hb : c.code = b_States_close) (hr : meth.sig.returnType = none) (hlocks : meth.locks = false) (hml : c.maxLocals = 11) (hown : s.vm.findClass R_States = some m.cls) (hts : ∀ w ∈ w_States_close, w.before args s = true) (hA : ∀ q : Nat, s.heap.size ≤ q → A q) (hK : va_K (dC, dI) classes (tys_ kA) s) (a0 a1 a2 a3 a4 a5 a6 a7 : Nat) (v0_1 v0_2 v0_3 v0_4 v2_4 v2_6 : Value) (f3 : (Nat → Int32)) (f4 : (Nat → Int32)) (f5 : (Nat → Int32)) (f6 : (Nat → Int32)) (f7 : (Nat → Int32)) (of1 : (Nat → Int32)) : ∀ n : Nat, (∀ (l2 l3 l4 l5 l6 : Int32) (f1 : (Nat → Int32)), F_States_close f3 f4 f5 f6 f7 n 0 l2 l3 l4 l5 l6 f1 = some of1 → ∀ (H : Heap) (locs : List Loc) (ls : Array Slot), va_P (dC, dI) classes (wd_States_close kA a0 a1 a2 a3 a4 a5 a6 a7 v0_1 v0_2 v0_3 v0_4 v2_4 v2_6 f1 f3 f4 f5 f6 f7) H → va_D A (wd_States_close kA a0 a1 a2 a3 a4 a5 a6 a7 v0_1 v0_2 v0_3 v0_4 v2_4 v2_6 f1 f3 f4 f5 f6 f7) → va_S A s.heap H locs → lv_has ls 11 [(0, .ref a0), (1, .ref a2), (2, .int l2), (3, .int l3), (4, .int l4)] → W p l e (headSpec w_States_close rm_States_close).room s m args below meth c H locs 0 0 (MQ below (va_Qv (fun (_ : Unit) => True) (fun _ t => va_P (dC, dI) classes (wd_States_close kA a0 a1 a2 a3 a4 a5 a6 a7 v0_1 v0_2 v0_3 v0_4 v2_4 v2_6 of1 f3 f4 f5 f6 f7) t.heap ∧ va_K (dC, dI) classes (tys_ kA) t ∧ va_D A (wd_States_close kA a0 a1 a2 a3 a4 a5 a6 a7 v0_1 v0_2 v0_3 v0_4 v2_4 v2_6 of1 f3 f4 f5 f6 f7)) A) args s 0 0 A) (F0 m 5 ls [])) ∧ (∀ (l2 l3 l4 l5 l6 : Int32) (f1 : (Nat → Int32)), F_States_close f3 f4 f5 f6 f7 n 1 l2 l3 l4 l5 l6 f1 = some of1 → ∀ (H : Heap) (locs : List Loc) (ls : Array Slot), va_P (dC, dI) classes (wd_States_close kA a0 a1 a2 a3 a4 a5 a6 a7 v0_1 v0_2 v0_3 v0_4 v2_4 v2_6 f1 f3 f4 f5 f6 f7) H → va_D A (wd_States_close kA a0 a1 a2 a3 a4 a5 a6 a7 v0_1 v0_2 v0_3 v0_4 v2_4 v2_6 f1 f3 f4 f5 f6 f7) → va_S A s.heap H locs → lv_has ls 11 [(0, .ref a0), (1, .ref a2), (2, .int l2), (3, .int l3), (4, .int l4), (5, .int l5)] → W p l e (headSpec w_States_close rm_States_close).room s m args below meth c H locs 0 0 (MQ below (va_Qv (fun (_ : Unit) => True) (fun _ t => va_P (dC, dI) classes (wd_States_close kA a0 a1 a2 a3 a4 a5 a6 a7 v0_1 v0_2 v0_3 v0_4 v2_4 v2_6 of1 f3 f4 f5 f6 f7) t.heap ∧ va_K (dC, dI) classes (tys_ kA) t ∧ va_D A (wd_States_close kA a0 a1 a2 a3 a4 a5 a6 a7 v0_1 v0_2 v0_3 v0_4 v2_4 v2_6 of1 f3 f4 f5 f6 f7)) A) args s 0 0 A) (F0 m 21 ls [])) ∧ (∀ (l2 l3 l4 l5 l6 : Int32) (f1 : (Nat → Int32)), F_States_close f3 f4 f5 f6 f7 n 2 l2 l3 l4 l5 l6 f1 = some of1 → ∀ (H : Heap) (locs : List Loc) (ls : Array Slot), va_P (dC, dI) classes (wd_States_close kA a0 a1 a2 a3 a4 a5 a6 a7 v0_1 v0_2 v0_3 v0_4 v2_4 v2_6 f1 f3 f4 f5 f6 f7) H → va_D A (wd_States_close kA a0 a1 a2 a3 a4 a5 a6 a7 v0_1 v0_2 v0_3 v0_4 v2_4 v2_6 f1 f3 f4 f5 f6 f7) → va_S A s.heap H locs → lv_has ls 11 [(0, .ref a0), (1, .ref a2), (2, .int l2), (3, .int l3), (4, .int l4), (5, .int l5), (6, .int l6)] → W p l e (headSpec w_States_close rm_States_close).room s m args below meth c H locs 0 0 (MQ below (va_Qv (fun (_ : Unit) => True) (fun _ t => va_P (dC, dI) classes (wd_States_close kA a0 a1 a2 a3 a4 a5 a6 a7 v0_1 v0_2 v0_3 v0_4 v2_4 v2_6 of1 f3 f4 f5 f6 f7) t.heap ∧ va_K (dC, dI) classes (tys_ kA) t ∧ va_D A (wd_States_close kA a0 a1 a2 a3 a4 a5 a6 a7 v0_1 v0_2 v0_3 v0_4 v2_4 v2_6 of1 f3 f4 f5 f6 f7)) A) args s 0 0 A) (F0 m 31 ls [])) := by
  have hg := fun (w : Cond) (h : w ∈ gw) => hts w (List.mem_cons_of_mem _ h)
  intro n
  induction n with
  | zero =>
    exact ⟨fun _ _ _ _ _ _ hF => absurd (show (none : Option _) = some _ from hF) (fun z => by cases z), fun _ _ _ _ _ _ hF => absurd (show (none : Option _) = some _ from hF) (fun z => by cases z), fun _ _ _ _ _ _ hF => absurd (show (none : Option _) = some _ from hF) (fun z => by cases z)⟩
  | succ n ih =>
    refine ⟨?_, ?_, ?_⟩
    · intro l2 l3 l4 l5 l6 f1 hF H locs ls hP hD hS hl
      have hF : B_States_close_0 (F_States_close f3 f4 f5 f6 f7 n) f3 f4 f5 f6 f7 l2 l3 l4 l5 l6 f1 = some of1 := hF
      unfold B_States_close_0 at hF
      refine lv_iload_n hx hb d_States_close_5 rfl (lv_at hl 3 rfl) ?_
      refine lv_if_eq (tgt := 149) hx hb d_States_close_6 (by decide) (fun c_1 => ?_) (fun c_1 => ?_)
      · rw [if_pos c_1] at hF
        have e0 := Option.some.inj hF
        exact W.vret hx hb hr (fun t ht hW => ⟨⟨(), rfl, trivial, by rw [ht, ← e0]; exact hP, va_K.moved hW.alike hK, (by rw [← e0]; exact hD)⟩, hS.F ht⟩) hS.2.2 d_States_close_149 hlocks
      · rw [if_neg c_1] at hF
        refine lv_iload hx hb d_States_close_9 (lv_at hl 4 rfl) ?_
        refine lv_bipush (v := 70) hx hb d_States_close_11 (by decide) ?_
        refine lv_icmp_gt (tgt := 149) hx hb d_States_close_13 (by decide) (fun c_2 => ?_) (fun c_2 => ?_)
        · rw [if_pos c_2] at hF
          have e0 := Option.some.inj hF
          exact W.vret hx hb hr (fun t ht hW => ⟨⟨(), rfl, trivial, by rw [ht, ← e0]; exact hP, va_K.moved hW.alike hK, (by rw [← e0]; exact hD)⟩, hS.F ht⟩) hS.2.2 d_States_close_149 hlocks
        · rw [if_neg c_2] at hF
          refine lv_iconst (v := 0) hx hb d_States_close_16 (by decide) ?_
          refine lv_istore_n (lv' := [(3, .int 0), (0, .ref a0), (1, .ref a2), (2, .int l2), (4, .int l4)]) hx hb d_States_close_17 rfl hl (by decide) rfl (fun ls hl => ?_)
          refine lv_iconst (v := 0) hx hb d_States_close_18 (by decide) ?_
          refine lv_istore (lv' := [(5, .int 0), (3, .int 0), (0, .ref a0), (1, .ref a2), (2, .int l2), (4, .int l4)]) hx hb d_States_close_19 hl (by decide) rfl (fun ls hl => ?_)
          exact ih.2.1 l2 0 l4 0 0 f1 hF _ _ _ hP hD hS (lv_sub hl [2, 3, 4, 1, 5, 0] rfl)
    · intro l2 l3 l4 l5 l6 f1 hF H locs ls hP hD hS hl
      have hF : B_States_close_1 (F_States_close f3 f4 f5 f6 f7 n) f3 f4 f5 f6 f7 l2 l3 l4 l5 l6 f1 = some of1 := hF
      unfold B_States_close_1 at hF
      refine lv_iload hx hb d_States_close_21 (lv_at hl 5 rfl) ?_
      refine lv_bipush (v := 10) hx hb d_States_close_23 (by decide) ?_
      refine lv_icmp_gt (tgt := 143) hx hb d_States_close_25 (by decide) (fun c_3 => ?_) (fun c_3 => ?_)
      · rw [if_pos c_3] at hF
        refine lv_iinc (v := (l4 + 1)) (lv' := [(4, .int (l4 + 1)), (0, .ref a0), (1, .ref a2), (2, .int l2), (3, .int l3), (5, .int l5)]) hx hb d_States_close_143 hl (k := 4) rfl (by rfl) (by decide) rfl (fun ls hl => ?_)
        refine lv_goto (tgt := 5) hx hb d_States_close_146 (by decide) ?_
        exact ih.1 l2 l3 (l4 + 1) 0 0 f1 hF _ _ _ hP hD hS (lv_sub hl [1, 2, 3, 4, 0] rfl)
      · rw [if_neg c_3] at hF
        refine lv_iconst (v := 0) hx hb d_States_close_28 (by decide) ?_
        refine lv_istore (lv' := [(6, .int 0), (0, .ref a0), (1, .ref a2), (2, .int l2), (3, .int l3), (4, .int l4), (5, .int l5)]) hx hb d_States_close_29 hl (by decide) rfl (fun ls hl => ?_)
        exact ih.2.2 l2 l3 l4 l5 0 f1 hF _ _ _ hP hD hS (lv_sub hl [1, 2, 3, 4, 5, 6, 0] rfl)
    · intro l2 l3 l4 l5 l6 f1 hF H locs ls hP hD hS hl
      have hF : B_States_close_2 (F_States_close f3 f4 f5 f6 f7 n) f3 f4 f5 f6 f7 l2 l3 l4 l5 l6 f1 = some of1 := hF
      unfold B_States_close_2 at hF
      refine lv_iload hx hb d_States_close_31 (lv_at hl 6 rfl) ?_
      refine lv_aload_n hx hb d_States_close_33 rfl (lv_at hl 1 rfl) ?_
      refine lv_iload hx hb d_States_close_34 (lv_at hl 5 rfl) ?_
      obtain ⟨u_4, hS_4, hF⟩ := rd_bind hF
      have hPc := hP.sub (ws' := (wd_Grammar_sizeOf kA a2 a6 (.ref a4) (.ref a5) (.ref a7) v2_4 (.ref a3) v2_6 f6)) [2, 6] rfl
      have hDc := hD.sub (ws' := (wd_Grammar_sizeOf kA a2 a6 (.ref a4) (.ref a5) (.ref a7) v2_4 (.ref a3) v2_6 f6)) [2, 6] (by decide) rfl
      have hFc := va_free (wc := (wd_Grammar_sizeOf kA a2 a6 (.ref a4) (.ref a5) (.ref a7) v2_4 (.ref a3) v2_6 f6)) hD hS hA [2, 6] rfl
      refine va_calli (va_runV (As := [.int l5]) (rest := [.int l6]) ⟨hx, hb, hml, hown, hts⟩ (c_Grammar_sizeOf l dC dI kA H.size a2 a6 (.ref a4) (.ref a5) (.ref a7) v2_4 (.ref a3) v2_6 l5 f6 u_4 hS_4) (cwV 1 hts (gw_V gw_194 gw_55 gw_56 gw_42 gw_57) rfl rfl rfl (by decide +kernel) ⟨Nat.le_of_ble_eq_true rfl, Nat.le_of_ble_eq_true rfl⟩) ⟨fun a U g mk q => by obtain ⟨q0, q1, qP, qK, qD⟩ := q; exact ⟨q0, q1, qP, va_K.moved (u := U) (U := U.calling g mk a) (Vm.Alike.refl U.vm) qK, qD⟩, va_recv hK hP (ci := 2) (q0 := 2) rfl rfl, fun U hU hW => ⟨rfl, by rw [hU], by rw [hU]; exact hPc, va_K.moved hW.alike hK, hDc.weaken (fun _ _ _ _ => trivial)⟩⟩ rfl rfl hl.1 rfl (lv_room (Nat.le_of_ble_eq_true rfl)) d_States_close_36 ⟨Nat.zero_le _, Nat.zero_le _⟩) hS (fun q _ h => hFc q h) hFc (fun r1 u t H1 locs ht hvm hw hB hz1 hk1 hS => ?_)
      rw [show r1 = _ from hw]
      obtain ⟨hP1, hK1, hD1⟩ := hB
      rw [ht] at hP1
      obtain ⟨hP, hD⟩ := va_join (wr := [(a0, .inr (6, [.ref a1, v0_1, v0_2, v0_3, v0_4])), (a1, .inl (kA 0, 2255, .inl f1)), (a3, .inl (kA 0, 6, .inl f3)), (a4, .inl (kA 0, 12, .inl f4)), (a5, .inl (kA 0, 48, .inl f5)), (a7, .inl (kA 1, 12, .inl f7))]) (w1 := (wd_Grammar_sizeOf kA a2 a6 (.ref a4) (.ref a5) (.ref a7) v2_4 (.ref a3) v2_6 f6)) hP hD [2, 6] [0, 1, 3, 4, 5, 7] rfl rfl (by decide) (by decide) hk1 hFc hP1 hD1
      have hP := hP.sub (ws' := (wd_States_close kA a0 a1 a2 a3 a4 a5 a6 a7 v0_1 v0_2 v0_3 v0_4 v2_4 v2_6 f1 f3 f4 f5 f6 f7)) [0, 1, 6, 2, 3, 4, 7, 5] rfl
      have hD := hD.sub (ws' := (wd_States_close kA a0 a1 a2 a3 a4 a5 a6 a7 v0_1 v0_2 v0_3 v0_4 v2_4 v2_6 f1 f3 f4 f5 f6 f7)) [0, 1, 6, 2, 3, 4, 7, 5] (by decide) rfl
      clear hPc hDc hFc hP1 hK1 hD1
      generalize H1 = H at hP hS ⊢
      refine lv_icmp_ge (tgt := 137) hx hb d_States_close_39 (by decide) (fun c_5 => ?_) (fun c_5 => ?_)
      · rw [if_pos c_5] at hF
        refine lv_iinc (v := (l5 + 1)) (lv' := [(5, .int (l5 + 1)), (0, .ref a0), (1, .ref a2), (2, .int l2), (3, .int l3), (4, .int l4), (6, .int l6)]) hx hb d_States_close_137 hl (k := 5) rfl (by rfl) (by decide) rfl (fun ls hl => ?_)
        refine lv_goto (tgt := 21) hx hb d_States_close_140 (by decide) ?_
        exact ih.2.1 l2 l3 l4 (l5 + 1) 0 f1 hF _ _ _ hP hD hS (lv_sub hl [1, 2, 3, 4, 5, 0] rfl)
      · rw [if_neg c_5] at hF
        refine lv_aload_n hx hb d_States_close_42 rfl (lv_at hl 0 rfl) ?_
        refine va_get (D := (dC, dI)) (ci := 6) (v := .ref a1) (C := R_States) (T := F_States) (N := 5) hx hb hg iw_States hown hK hP 0 rfl rfl 0 (by decide) (hg _ gw_188) (fun _ h9 => h9) rfl d_States_close_43 ?_
        refine lv_iload_n hx hb d_States_close_46 rfl (lv_at hl 2 rfl) ?_
        refine lv_bipush (v := 55) hx hb d_States_close_47 (by decide) ?_
        refine lv_imul hx hb d_States_close_49 ?_
        refine lv_iload hx hb d_States_close_50 (lv_at hl 5 rfl) ?_
        refine lv_iconst (v := 5) hx hb d_States_close_52 (by decide) ?_
        refine lv_imul hx hb d_States_close_53 ?_
        refine lv_iadd hx hb d_States_close_54 ?_
        refine lv_iload hx hb d_States_close_55 (lv_at hl 6 rfl) ?_
        refine lv_iadd hx hb d_States_close_57 ?_
        obtain ⟨h_6, hF⟩ := rd_chk hF
        refine va_iald hx hb hK hP 1 0 rfl rfl h_6 d_States_close_58 ?_
        refine lv_istore (lv' := [(7, .int (f1 (Int32.toNatClampNeg (((l2 * 55) + (l5 * 5)) + l6)))), (0, .ref a0), (1, .ref a2), (2, .int l2), (3, .int l3), (4, .int l4), (5, .int l5), (6, .int l6)]) hx hb d_States_close_59 hl (by decide) rfl (fun ls hl => ?_)
        refine lv_aload_n hx hb d_States_close_61 rfl (lv_at hl 2 rfl) ?_
        refine lv_iload hx hb d_States_close_62 (lv_at hl 6 rfl) ?_
        refine lv_iload hx hb d_States_close_64 (lv_at hl 7 rfl) ?_
        obtain ⟨u_7, hS_7, hF⟩ := rd_bind hF
        have hPc := hP.sub (ws' := (wd_Grammar_symbolAt kA a2 a5 a6 (.ref a4) (.ref a7) v2_4 (.ref a3) v2_6 f5 f6)) [2, 5, 6] rfl
        have hDc := hD.sub (ws' := (wd_Grammar_symbolAt kA a2 a5 a6 (.ref a4) (.ref a7) v2_4 (.ref a3) v2_6 f5 f6)) [2, 5, 6] (by decide) rfl
        have hFc := va_free (wc := (wd_Grammar_symbolAt kA a2 a5 a6 (.ref a4) (.ref a7) v2_4 (.ref a3) v2_6 f5 f6)) hD hS hA [2, 5, 6] rfl
        refine va_calli (va_runV (As := [.int l5, .int l6]) (rest := []) ⟨hx, hb, hml, hown, hts⟩ (c_Grammar_symbolAt l dC dI kA H.size a2 a5 a6 (.ref a4) (.ref a7) v2_4 (.ref a3) v2_6 l5 l6 f5 f6 u_7 hS_7) (cwV 2 hts (gw_V gw_195 gw_59 gw_60 gw_42 gw_61) rfl rfl rfl (by decide +kernel) ⟨Nat.le_of_ble_eq_true rfl, Nat.le_of_ble_eq_true rfl⟩) ⟨fun a U g mk q => by obtain ⟨q0, q1, qP, qK, qD⟩ := q; exact ⟨q0, q1, qP, va_K.moved (u := U) (U := U.calling g mk a) (Vm.Alike.refl U.vm) qK, qD⟩, va_recv hK hP (ci := 2) (q0 := 2) rfl rfl, fun U hU hW => ⟨rfl, by rw [hU], by rw [hU]; exact hPc, va_K.moved hW.alike hK, hDc.weaken (fun _ _ _ _ => trivial)⟩⟩ rfl rfl hl.1 rfl (lv_room (Nat.le_of_ble_eq_true rfl)) d_States_close_66 ⟨Nat.zero_le _, Nat.zero_le _⟩) hS (fun q _ h => hFc q h) hFc (fun r1 u t H1 locs ht hvm hw hB hz1 hk1 hS => ?_)
        rw [show r1 = _ from hw]
        obtain ⟨hP1, hK1, hD1⟩ := hB
        rw [ht] at hP1
        obtain ⟨hP, hD⟩ := va_join (wr := [(a0, .inr (6, [.ref a1, v0_1, v0_2, v0_3, v0_4])), (a1, .inl (kA 0, 2255, .inl f1)), (a3, .inl (kA 0, 6, .inl f3)), (a4, .inl (kA 0, 12, .inl f4)), (a7, .inl (kA 1, 12, .inl f7))]) (w1 := (wd_Grammar_symbolAt kA a2 a5 a6 (.ref a4) (.ref a7) v2_4 (.ref a3) v2_6 f5 f6)) hP hD [2, 5, 6] [0, 1, 3, 4, 7] rfl rfl (by decide) (by decide) hk1 hFc hP1 hD1
        have hP := hP.sub (ws' := (wd_States_close kA a0 a1 a2 a3 a4 a5 a6 a7 v0_1 v0_2 v0_3 v0_4 v2_4 v2_6 f1 f3 f4 f5 f6 f7)) [0, 1, 5, 2, 3, 6, 7, 4] rfl
        have hD := hD.sub (ws' := (wd_States_close kA a0 a1 a2 a3 a4 a5 a6 a7 v0_1 v0_2 v0_3 v0_4 v2_4 v2_6 f1 f3 f4 f5 f6 f7)) [0, 1, 5, 2, 3, 6, 7, 4] (by decide) rfl
        clear hPc hDc hFc hP1 hK1 hD1
        generalize H1 = H at hP hS ⊢
        refine lv_istore (lv' := [(8, .int u_7), (7, .int (f1 (Int32.toNatClampNeg (((l2 * 55) + (l5 * 5)) + l6)))), (0, .ref a0), (1, .ref a2), (2, .int l2), (3, .int l3), (4, .int l4), (5, .int l5), (6, .int l6)]) hx hb d_States_close_69 hl (by decide) rfl (fun ls hl => ?_)
        refine lv_iload hx hb d_States_close_71 (lv_at hl 1 rfl) ?_
        refine lv_if_eq (tgt := 131) hx hb d_States_close_73 (by decide) (fun c_8 => ?_) (fun c_8 => ?_)
        · rw [if_pos c_8] at hF
          refine lv_iinc (v := (l6 + 1)) (lv' := [(6, .int (l6 + 1)), (8, .int u_7), (7, .int (f1 (Int32.toNatClampNeg (((l2 * 55) + (l5 * 5)) + l6)))), (0, .ref a0), (1, .ref a2), (2, .int l2), (3, .int l3), (4, .int l4), (5, .int l5)]) hx hb d_States_close_131 hl (k := 8) rfl (by rfl) (by decide) rfl (fun ls hl => ?_)
          refine lv_goto (tgt := 31) hx hb d_States_close_134 (by decide) ?_
          exact ih.2.2 l2 l3 l4 l5 (l6 + 1) f1 hF _ _ _ hP hD hS (lv_sub hl [3, 4, 5, 6, 7, 8, 0] rfl)
        · rw [if_neg c_8] at hF
          refine lv_iload hx hb d_States_close_76 (lv_at hl 0 rfl) ?_
          refine lv_bipush (v := 6) hx hb d_States_close_78 (by decide) ?_
          refine lv_icmp_lt (tgt := 131) hx hb d_States_close_80 (by decide) (fun c_9 => ?_) (fun c_9 => ?_)
          · rw [if_pos c_9] at hF
            refine lv_iinc (v := (l6 + 1)) (lv' := [(6, .int (l6 + 1)), (8, .int u_7), (7, .int (f1 (Int32.toNatClampNeg (((l2 * 55) + (l5 * 5)) + l6)))), (0, .ref a0), (1, .ref a2), (2, .int l2), (3, .int l3), (4, .int l4), (5, .int l5)]) hx hb d_States_close_131 hl (k := 8) rfl (by rfl) (by decide) rfl (fun ls hl => ?_)
            refine lv_goto (tgt := 31) hx hb d_States_close_134 (by decide) ?_
            exact ih.2.2 l2 l3 l4 l5 (l6 + 1) f1 hF _ _ _ hP hD hS (lv_sub hl [3, 4, 5, 6, 7, 8, 0] rfl)
          · rw [if_neg c_9] at hF
            refine lv_aload_n hx hb d_States_close_83 rfl (lv_at hl 3 rfl) ?_
            refine lv_iload hx hb d_States_close_84 (lv_at hl 7 rfl) ?_
            refine lv_iload hx hb d_States_close_86 (lv_at hl 8 rfl) ?_
            refine lv_iconst (v := 1) hx hb d_States_close_88 (by decide) ?_
            refine lv_iadd hx hb d_States_close_89 ?_
            obtain ⟨u_10, hS_10, hF⟩ := rd_bind hF
            have hPc := hP.sub (ws' := (wd_Grammar_beginnings kA a2 a3 a5 a6 (.ref a4) (.ref a7) v2_4 v2_6 f3 f5 f6)) [2, 3, 5, 6] rfl
            have hDc := hD.sub (ws' := (wd_Grammar_beginnings kA a2 a3 a5 a6 (.ref a4) (.ref a7) v2_4 v2_6 f3 f5 f6)) [2, 3, 5, 6] (by decide) rfl
            have hFc := va_free (wc := (wd_Grammar_beginnings kA a2 a3 a5 a6 (.ref a4) (.ref a7) v2_4 v2_6 f3 f5 f6)) hD hS hA [2, 3, 5, 6] rfl
            refine va_calli (va_runV (As := [.int l5, .int (l6 + 1)]) (rest := []) ⟨hx, hb, hml, hown, hts⟩ (c_Grammar_beginnings l dC dI kA H.size a2 a3 a5 a6 (.ref a4) (.ref a7) v2_4 v2_6 l5 (l6 + 1) f3 f5 f6 u_10 hS_10) (cwV 2 hts (gw_V gw_196 gw_64 gw_65 gw_42 gw_66) rfl rfl rfl (by decide +kernel) ⟨Nat.le_of_ble_eq_true rfl, Nat.le_of_ble_eq_true rfl⟩) ⟨fun a U g mk q => by obtain ⟨q0, q1, qP, qK, qD⟩ := q; exact ⟨q0, q1, qP, va_K.moved (u := U) (U := U.calling g mk a) (Vm.Alike.refl U.vm) qK, qD⟩, va_recv hK hP (ci := 2) (q0 := 2) rfl rfl, fun U hU hW => ⟨rfl, by rw [hU], by rw [hU]; exact hPc, va_K.moved hW.alike hK, hDc.weaken (fun _ _ _ _ => trivial)⟩⟩ rfl rfl hl.1 rfl (lv_room (Nat.le_of_ble_eq_true rfl)) d_States_close_90 ⟨Nat.zero_le _, Nat.zero_le _⟩) hS (fun q _ h => hFc q h) hFc (fun r1 u t H1 locs ht hvm hw hB hz1 hk1 hS => ?_)
            rw [show r1 = _ from hw]
            obtain ⟨hP1, hK1, hD1⟩ := hB
            rw [ht] at hP1
            obtain ⟨hP, hD⟩ := va_join (wr := [(a0, .inr (6, [.ref a1, v0_1, v0_2, v0_3, v0_4])), (a1, .inl (kA 0, 2255, .inl f1)), (a4, .inl (kA 0, 12, .inl f4)), (a7, .inl (kA 1, 12, .inl f7))]) (w1 := (wd_Grammar_beginnings kA a2 a3 a5 a6 (.ref a4) (.ref a7) v2_4 v2_6 f3 f5 f6)) hP hD [2, 3, 5, 6] [0, 1, 4, 7] rfl rfl (by decide) (by decide) hk1 hFc hP1 hD1
            have hP := hP.sub (ws' := (wd_States_close kA a0 a1 a2 a3 a4 a5 a6 a7 v0_1 v0_2 v0_3 v0_4 v2_4 v2_6 f1 f3 f4 f5 f6 f7)) [0, 1, 4, 5, 2, 6, 7, 3] rfl
            have hD := hD.sub (ws' := (wd_States_close kA a0 a1 a2 a3 a4 a5 a6 a7 v0_1 v0_2 v0_3 v0_4 v2_4 v2_6 f1 f3 f4 f5 f6 f7)) [0, 1, 4, 5, 2, 6, 7, 3] (by decide) rfl
            clear hPc hDc hFc hP1 hK1 hD1
            generalize H1 = H at hP hS ⊢
            refine lv_istore (lv' := [(9, .int u_10), (8, .int u_7), (7, .int (f1 (Int32.toNatClampNeg (((l2 * 55) + (l5 * 5)) + l6)))), (0, .ref a0), (1, .ref a2), (2, .int l2), (3, .int l3), (4, .int l4), (5, .int l5), (6, .int l6)]) hx hb d_States_close_93 hl (by decide) rfl (fun ls hl => ?_)
            refine lv_iload hx hb d_States_close_95 (lv_at hl 0 rfl) ?_
            refine lv_bipush (v := 64) hx hb d_States_close_97 (by decide) ?_
            refine lv_iand hx hb d_States_close_99 ?_
            refine lv_if_eq (tgt := 114) hx hb d_States_close_100 (by decide) (fun c_11 => ?_) (fun c_11 => ?_)
            · rw [if_pos c_11] at hF
              refine lv_iload hx hb d_States_close_114 (lv_at hl 0 rfl) ?_
              refine lv_istore (lv' := [(10, .int u_10), (9, .int u_10), (8, .int u_7), (7, .int (f1 (Int32.toNatClampNeg (((l2 * 55) + (l5 * 5)) + l6)))), (0, .ref a0), (1, .ref a2), (2, .int l2), (3, .int l3), (4, .int l4), (5, .int l5), (6, .int l6)]) hx hb d_States_close_116 hl (by decide) rfl (fun ls hl => ?_)
              refine lv_iload_n hx hb d_States_close_118 rfl (lv_at hl 7 rfl) ?_
              refine lv_aload_n hx hb d_States_close_119 rfl (lv_at hl 4 rfl) ?_
              refine lv_aload_n hx hb d_States_close_120 rfl (lv_at hl 5 rfl) ?_
              refine lv_iload_n hx hb d_States_close_121 rfl (lv_at hl 6 rfl) ?_
              refine lv_iload hx hb d_States_close_122 (lv_at hl 2 rfl) ?_
              refine lv_iload hx hb d_States_close_124 (lv_at hl 0 rfl) ?_
              obtain ⟨u_12, hS_12, hF⟩ := rd_bind hF
              have hPc := hP.sub (ws' := (wd_States_addRulesOf kA a0 a1 a2 a4 a7 v0_1 v0_2 v0_3 v0_4 (.ref a6) (.ref a5) v2_4 (.ref a3) v2_6 f1 f4 f7)) [0, 1, 2, 4, 7] rfl
              have hDc := hD.sub (ws' := (wd_States_addRulesOf kA a0 a1 a2 a4 a7 v0_1 v0_2 v0_3 v0_4 (.ref a6) (.ref a5) v2_4 (.ref a3) v2_6 f1 f4 f7)) [0, 1, 2, 4, 7] (by decide) rfl
              have hFc := va_free (wc := (wd_States_addRulesOf kA a0 a1 a2 a4 a7 v0_1 v0_2 v0_3 v0_4 (.ref a6) (.ref a5) v2_4 (.ref a3) v2_6 f1 f4 f7)) hD hS hA [0, 1, 2, 4, 7] rfl
              refine va_calli (va_runV (As := [.ref a2, .int l2, .int u_7, .int u_10]) (rest := [.int l3]) ⟨hx, hb, hml, hown, hts⟩ (c_States_addRulesOf l dC dI kA H.size a0 a1 a2 a4 a7 v0_1 v0_2 v0_3 v0_4 (.ref a6) (.ref a5) v2_4 (.ref a3) v2_6 l2 u_7 u_10 f1 f4 f7 u_12.1 u_12.2 hS_12) (cwV 4 hts (gw_V gw_197 gw_198 gw_199 gw_91 gw_200) rfl rfl rfl (by decide +kernel) ⟨Nat.le_of_ble_eq_true rfl, Nat.le_of_ble_eq_true rfl⟩) ⟨fun a U g mk q => by obtain ⟨q0, q1, qP, qK, qD⟩ := q; exact ⟨q0, q1, qP, va_K.moved (u := U) (U := U.calling g mk a) (Vm.Alike.refl U.vm) qK, qD⟩, va_recv hK hP (ci := 6) (q0 := 0) rfl rfl, fun U hU hW => ⟨rfl, by rw [hU], by rw [hU]; exact hPc, va_K.moved hW.alike hK, hDc.weaken (fun _ _ _ _ => trivial)⟩⟩ rfl rfl hl.1 rfl (lv_room (Nat.le_of_ble_eq_true rfl)) d_States_close_126 ⟨Nat.zero_le _, Nat.zero_le _⟩) hS (fun q _ h => hFc q h) hFc (fun r1 u t H1 locs ht hvm hw hB hz1 hk1 hS => ?_)
              rw [show r1 = _ from hw]
              obtain ⟨hP1, hK1, hD1⟩ := hB
              rw [ht] at hP1
              obtain ⟨hP, hD⟩ := va_join (wr := [(a3, .inl (kA 0, 6, .inl f3)), (a5, .inl (kA 0, 48, .inl f5)), (a6, .inl (kA 0, 12, .inl f6))]) (w1 := (wd_States_addRulesOf kA a0 a1 a2 a4 a7 v0_1 v0_2 v0_3 v0_4 (.ref a6) (.ref a5) v2_4 (.ref a3) v2_6 u_12.2 f4 f7)) hP hD [0, 1, 2, 4, 7] [3, 5, 6] rfl rfl (by decide) (by decide) hk1 hFc hP1 hD1
              have hP := hP.sub (ws' := (wd_States_close kA a0 a1 a2 a3 a4 a5 a6 a7 v0_1 v0_2 v0_3 v0_4 v2_4 v2_6 u_12.2 f3 f4 f5 f6 f7)) [3, 4, 5, 0, 6, 1, 2, 7] rfl
              have hD := hD.sub (ws' := (wd_States_close kA a0 a1 a2 a3 a4 a5 a6 a7 v0_1 v0_2 v0_3 v0_4 v2_4 v2_6 u_12.2 f3 f4 f5 f6 f7)) [3, 4, 5, 0, 6, 1, 2, 7] (by decide) rfl
              clear hPc hDc hFc hP1 hK1 hD1
              generalize H1 = H at hP hS ⊢
              refine lv_ior hx hb d_States_close_129 ?_
              refine lv_istore_n (lv' := [(3, .int (l3 ||| u_12.1)), (10, .int u_10), (9, .int u_10), (8, .int u_7), (7, .int (f1 (Int32.toNatClampNeg (((l2 * 55) + (l5 * 5)) + l6)))), (0, .ref a0), (1, .ref a2), (2, .int l2), (4, .int l4), (5, .int l5), (6, .int l6)]) hx hb d_States_close_130 rfl hl (by decide) rfl (fun ls hl => ?_)
              refine lv_iinc (v := (l6 + 1)) (lv' := [(6, .int (l6 + 1)), (3, .int (l3 ||| u_12.1)), (10, .int u_10), (9, .int u_10), (8, .int u_7), (7, .int (f1 (Int32.toNatClampNeg (((l2 * 55) + (l5 * 5)) + l6)))), (0, .ref a0), (1, .ref a2), (2, .int l2), (4, .int l4), (5, .int l5)]) hx hb d_States_close_131 hl (k := 10) rfl (by rfl) (by decide) rfl (fun ls hl => ?_)
              refine lv_goto (tgt := 31) hx hb d_States_close_134 (by decide) ?_
              exact ih.2.2 l2 (l3 ||| u_12.1) l4 l5 (l6 + 1) u_12.2 hF _ _ _ hP hD hS (lv_sub hl [6, 7, 8, 1, 9, 10, 0] rfl)
            · rw [if_neg c_11] at hF
              refine lv_iload hx hb d_States_close_103 (lv_at hl 0 rfl) ?_
              refine lv_bipush (v := 63) hx hb d_States_close_105 (by decide) ?_
              refine lv_iand hx hb d_States_close_107 ?_
              refine lv_iload hx hb d_States_close_108 (lv_at hl 2 rfl) ?_
              refine lv_ior hx hb d_States_close_110 ?_
              refine lv_goto (tgt := 116) hx hb d_States_close_111 (by decide) ?_
              refine lv_istore (lv' := [(10, .int ((u_10 &&& 63) ||| (f1 (Int32.toNatClampNeg (((l2 * 55) + (l5 * 5)) + l6))))), (9, .int u_10), (8, .int u_7), (7, .int (f1 (Int32.toNatClampNeg (((l2 * 55) + (l5 * 5)) + l6)))), (0, .ref a0), (1, .ref a2), (2, .int l2), (3, .int l3), (4, .int l4), (5, .int l5), (6, .int l6)]) hx hb d_States_close_116 hl (by decide) rfl (fun ls hl => ?_)
              refine lv_iload_n hx hb d_States_close_118 rfl (lv_at hl 7 rfl) ?_
              refine lv_aload_n hx hb d_States_close_119 rfl (lv_at hl 4 rfl) ?_
              refine lv_aload_n hx hb d_States_close_120 rfl (lv_at hl 5 rfl) ?_
              refine lv_iload_n hx hb d_States_close_121 rfl (lv_at hl 6 rfl) ?_
              refine lv_iload hx hb d_States_close_122 (lv_at hl 2 rfl) ?_
              refine lv_iload hx hb d_States_close_124 (lv_at hl 0 rfl) ?_
              obtain ⟨u_13, hS_13, hF⟩ := rd_bind hF
              have hPc := hP.sub (ws' := (wd_States_addRulesOf kA a0 a1 a2 a4 a7 v0_1 v0_2 v0_3 v0_4 (.ref a6) (.ref a5) v2_4 (.ref a3) v2_6 f1 f4 f7)) [0, 1, 2, 4, 7] rfl
              have hDc := hD.sub (ws' := (wd_States_addRulesOf kA a0 a1 a2 a4 a7 v0_1 v0_2 v0_3 v0_4 (.ref a6) (.ref a5) v2_4 (.ref a3) v2_6 f1 f4 f7)) [0, 1, 2, 4, 7] (by decide) rfl
              have hFc := va_free (wc := (wd_States_addRulesOf kA a0 a1 a2 a4 a7 v0_1 v0_2 v0_3 v0_4 (.ref a6) (.ref a5) v2_4 (.ref a3) v2_6 f1 f4 f7)) hD hS hA [0, 1, 2, 4, 7] rfl
              refine va_calli (va_runV (As := [.ref a2, .int l2, .int u_7, .int ((u_10 &&& 63) ||| (f1 (Int32.toNatClampNeg (((l2 * 55) + (l5 * 5)) + l6))))]) (rest := [.int l3]) ⟨hx, hb, hml, hown, hts⟩ (c_States_addRulesOf l dC dI kA H.size a0 a1 a2 a4 a7 v0_1 v0_2 v0_3 v0_4 (.ref a6) (.ref a5) v2_4 (.ref a3) v2_6 l2 u_7 ((u_10 &&& 63) ||| (f1 (Int32.toNatClampNeg (((l2 * 55) + (l5 * 5)) + l6)))) f1 f4 f7 u_13.1 u_13.2 hS_13) (cwV 4 hts (gw_V gw_197 gw_198 gw_199 gw_91 gw_200) rfl rfl rfl (by decide +kernel) ⟨Nat.le_of_ble_eq_true rfl, Nat.le_of_ble_eq_true rfl⟩) ⟨fun a U g mk q => by obtain ⟨q0, q1, qP, qK, qD⟩ := q; exact ⟨q0, q1, qP, va_K.moved (u := U) (U := U.calling g mk a) (Vm.Alike.refl U.vm) qK, qD⟩, va_recv hK hP (ci := 6) (q0 := 0) rfl rfl, fun U hU hW => ⟨rfl, by rw [hU], by rw [hU]; exact hPc, va_K.moved hW.alike hK, hDc.weaken (fun _ _ _ _ => trivial)⟩⟩ rfl rfl hl.1 rfl (lv_room (Nat.le_of_ble_eq_true rfl)) d_States_close_126 ⟨Nat.zero_le _, Nat.zero_le _⟩) hS (fun q _ h => hFc q h) hFc (fun r1 u t H1 locs ht hvm hw hB hz1 hk1 hS => ?_)
              rw [show r1 = _ from hw]
              obtain ⟨hP1, hK1, hD1⟩ := hB
              rw [ht] at hP1
              obtain ⟨hP, hD⟩ := va_join (wr := [(a3, .inl (kA 0, 6, .inl f3)), (a5, .inl (kA 0, 48, .inl f5)), (a6, .inl (kA 0, 12, .inl f6))]) (w1 := (wd_States_addRulesOf kA a0 a1 a2 a4 a7 v0_1 v0_2 v0_3 v0_4 (.ref a6) (.ref a5) v2_4 (.ref a3) v2_6 u_13.2 f4 f7)) hP hD [0, 1, 2, 4, 7] [3, 5, 6] rfl rfl (by decide) (by decide) hk1 hFc hP1 hD1
              have hP := hP.sub (ws' := (wd_States_close kA a0 a1 a2 a3 a4 a5 a6 a7 v0_1 v0_2 v0_3 v0_4 v2_4 v2_6 u_13.2 f3 f4 f5 f6 f7)) [3, 4, 5, 0, 6, 1, 2, 7] rfl
              have hD := hD.sub (ws' := (wd_States_close kA a0 a1 a2 a3 a4 a5 a6 a7 v0_1 v0_2 v0_3 v0_4 v2_4 v2_6 u_13.2 f3 f4 f5 f6 f7)) [3, 4, 5, 0, 6, 1, 2, 7] (by decide) rfl
              clear hPc hDc hFc hP1 hK1 hD1
              generalize H1 = H at hP hS ⊢
              refine lv_ior hx hb d_States_close_129 ?_
              refine lv_istore_n (lv' := [(3, .int (l3 ||| u_13.1)), (10, .int ((u_10 &&& 63) ||| (f1 (Int32.toNatClampNeg (((l2 * 55) + (l5 * 5)) + l6))))), (9, .int u_10), (8, .int u_7), (7, .int (f1 (Int32.toNatClampNeg (((l2 * 55) + (l5 * 5)) + l6)))), (0, .ref a0), (1, .ref a2), (2, .int l2), (4, .int l4), (5, .int l5), (6, .int l6)]) hx hb d_States_close_130 rfl hl (by decide) rfl (fun ls hl => ?_)
              refine lv_iinc (v := (l6 + 1)) (lv' := [(6, .int (l6 + 1)), (3, .int (l3 ||| u_13.1)), (10, .int ((u_10 &&& 63) ||| (f1 (Int32.toNatClampNeg (((l2 * 55) + (l5 * 5)) + l6))))), (9, .int u_10), (8, .int u_7), (7, .int (f1 (Int32.toNatClampNeg (((l2 * 55) + (l5 * 5)) + l6)))), (0, .ref a0), (1, .ref a2), (2, .int l2), (4, .int l4), (5, .int l5)]) hx hb d_States_close_131 hl (k := 10) rfl (by rfl) (by decide) rfl (fun ls hl => ?_)
              refine lv_goto (tgt := 31) hx hb d_States_close_134 (by decide) ?_
              exact ih.2.2 l2 (l3 ||| u_13.1) l4 l5 (l6 + 1) u_13.2 hF _ _ _ hP hD hS (lv_sub hl [6, 7, 8, 1, 9, 10, 0] rfl)
def S_States_close (p2 : Int32) (f1 : (Nat → Int32)) (f3 : (Nat → Int32)) (f4 : (Nat → Int32)) (f5 : (Nat → Int32)) (f6 : (Nat → Int32)) (f7 : (Nat → Int32)) : Option ((Nat → Int32)) := (F_States_close f3 f4 f5 f6 f7 fuel_ 0 p2 1 0 0 0 f1)
set_option maxHeartbeats 4000000 in
set_option maxRecDepth 100000 in
theorem c_States_close (l : Launch) (dC : Nat → ClassId) (dI : Nat → Nat → Nat) (kA : Nat → ClassId) (sz : Nat) (a0 a1 a2 a3 a4 a5 a6 a7 : Nat) (v0_1 v0_2 v0_3 v0_4 v2_4 v2_6 : Value) (p2 : Int32) (f1 : (Nat → Int32)) (f3 : (Nat → Int32)) (f4 : (Nat → Int32)) (f5 : (Nat → Int32)) (f6 : (Nat → Int32)) (f7 : (Nat → Int32)) (of1 : (Nat → Int32)) (hF : S_States_close p2 f1 f3 f4 f5 f6 f7 = some of1) : Met l y_States_close w_States_close rm_States_close (va_Pc [.ref a0, .ref a2, .int p2] (fun U => U.heap.size = sz ∧ va_P (dC, dI) classes (wd_States_close kA a0 a1 a2 a3 a4 a5 a6 a7 v0_1 v0_2 v0_3 v0_4 v2_4 v2_6 f1 f3 f4 f5 f6 f7) U.heap ∧ va_K (dC, dI) classes (tys_ kA) U ∧ va_D (fun _ => True) (wd_States_close kA a0 a1 a2 a3 a4 a5 a6 a7 v0_1 v0_2 v0_3 v0_4 v2_4 v2_6 f1 f3 f4 f5 f6 f7))) (va_Qv (fun (_ : Unit) => True) (fun _ t => va_P (dC, dI) classes (wd_States_close kA a0 a1 a2 a3 a4 a5 a6 a7 v0_1 v0_2 v0_3 v0_4 v2_4 v2_6 of1 f3 f4 f5 f6 f7) t.heap ∧ va_K (dC, dI) classes (tys_ kA) t ∧ va_D (va_A (wd_States_close kA a0 a1 a2 a3 a4 a5 a6 a7 v0_1 v0_2 v0_3 v0_4 v2_4 v2_6 f1 f3 f4 f5 f6 f7) sz) (wd_States_close kA a0 a1 a2 a3 a4 a5 a6 a7 v0_1 v0_2 v0_3 v0_4 v2_4 v2_6 of1 f3 f4 f5 f6 f7)) (va_A (wd_States_close kA a0 a1 a2 a3 a4 a5 a6 a7 v0_1 v0_2 v0_3 v0_4 v2_4 v2_6 f1 f3 f4 f5 f6 f7) sz)) 0 0 (va_A (wd_States_close kA a0 a1 a2 a3 a4 a5 a6 a7 v0_1 v0_2 v0_3 v0_4 v2_4 v2_6 f1 f3 f4 f5 f6 f7) sz) := by
  refine Met.ofW (cc := b_States_close) (maxL := 11) (ret := none) (by decide) rfl ?_
  intro p e s m args below meth c s₁ B hml hv
  obtain ⟨rfl, hsz, hP, hK, hD0⟩ := hv
  have hx := B.exec
  have hb := B.bytes
  have hr := B.returns
  have hts := atoms_spec (ws := w_States_close) B.pre
  have hown : s.vm.findClass R_States = some m.cls := findClass_of_methodNamed B.named
  have hg := fun (w : Cond) (h : w ∈ gw) => hts w (List.mem_cons_of_mem _ h)
  have hlocks := B.notSynchronized
  subst hsz
  have hD := hD0.self (sz := s.heap.size)
  generalize hAe : va_A (wd_States_close kA a0 a1 a2 a3 a4 a5 a6 a7 v0_1 v0_2 v0_3 v0_4 v2_4 v2_6 f1 f3 f4 f5 f6 f7) s.heap.size = A at hD ⊢
  have hA : ∀ q : Nat, s.heap.size ≤ q → A q := fun q h => by rw [← hAe]; exact Or.inr h
  have hS : va_S A s.heap s.heap [] := va_S.rf
  have hl := lv_entry ([.ref a0, .ref a2, .int p2]) (n := 11) (Nat.le_of_ble_eq_true rfl)
  rw [lg_entry_eq]
  generalize (lg_sl ([.ref a0, .ref a2, .int p2]) ++ List.replicate (11 - (lg_sl ([.ref a0, .ref a2, .int p2])).length) Slot.unset).toArray = ls at hl ⊢
  have hl : lv_has ls 11 [(0, .ref a0), (1, .ref a2), (2, .int p2)] := hl
  unfold S_States_close at hF
  have ih := L_States_close (l := l) (e := e) (below := below) hx hb hr hlocks hml hown hts hA hK a0 a1 a2 a3 a4 a5 a6 a7 v0_1 v0_2 v0_3 v0_4 v2_4 v2_6 f3 f4 f5 f6 f7 of1 fuel_
  refine lv_iconst (v := 1) hx hb d_States_close_0 (by decide) ?_
  refine lv_istore_n (lv' := [(3, .int 1), (0, .ref a0), (1, .ref a2), (2, .int p2)]) hx hb d_States_close_1 rfl hl (by decide) rfl (fun ls hl => ?_)
  refine lv_iconst (v := 0) hx hb d_States_close_2 (by decide) ?_
  refine lv_istore (lv' := [(4, .int 0), (3, .int 1), (0, .ref a0), (1, .ref a2), (2, .int p2)]) hx hb d_States_close_3 hl (by decide) rfl (fun ls hl => ?_)
  exact ih.1 p2 1 0 0 0 f1 hF _ _ _ hP hD hS (lv_sub hl [2, 3, 4, 1, 0] rfl)
-- ===== RepairDesk$States.moveBehind(LRepairDesk$Grammar;II)Z
abbrev wd_States_moveBehind (kA : Nat → ClassId) (a0 a1 a2 a3 a4 : Nat) (v0_1 v0_2 v0_4 v2_0 v2_3 v2_4 v2_5 v2_6 : Value) (x0_3 : Int32) (f1 : (Nat → Int32)) (f3 : (Nat → Int32)) (f4 : (Nat → Int32)) : va_W := [(a0, .inr (6, [.ref a1, v0_1, v0_2, .int x0_3, v0_4])), (a1, .inl (kA 0, 2255, .inl f1)), (a2, .inr (2, [v2_0, .ref a4, .ref a3, v2_3, v2_4, v2_5, v2_6])), (a3, .inl (kA 0, 48, .inl f3)), (a4, .inl (kA 0, 12, .inl f4))]
abbrev rm_States_moveBehind : Room := { frames := 2, cells := 0, slots := 0, locals := 43 }
def B_States_moveBehind_0 (K : Nat → Int32 → Int32 → Int32 → Int32 → Int32 → (Nat → Int32) → Option (Int32 × (Nat → Int32))) (x0_3 : Int32) (f3 : (Nat → Int32)) (f4 : (Nat → Int32)) (l2 : Int32) (l3 : Int32) (l4 : Int32) (l5 : Int32) (l6 : Int32) (f1 : (Nat → Int32)) : Option (Int32 × (Nat → Int32)) := (if 10 < l5 then (if l4 = 0 ∨ l4 = 1 then some (l4, f1) else none) else (K 1 l2 l3 l4 l5 0 f1))
def B_States_moveBehind_1 (K : Nat → Int32 → Int32 → Int32 → Int32 → Int32 → (Nat → Int32) → Option (Int32 × (Nat → Int32))) (x0_3 : Int32) (f3 : (Nat → Int32)) (f4 : (Nat → Int32)) (l2 : Int32) (l3 : Int32) (l4 : Int32) (l5 : Int32) (l6 : Int32) (f1 : (Nat → Int32)) : Option (Int32 × (Nat → Int32)) := ((S_Grammar_sizeOf l5 f4).bind fun u_3 => (if u_3 ≤ l6 then (K 0 l2 l3 l4 (l5 + 1) 0 f1) else (if (((l2 * 55) + ((l5 * 5) + l6)) : Int32) < 0 ∨ 2255 ≤ (Int32.toNatClampNeg ((l2 * 55) + ((l5 * 5) + l6))) then none else (if (f1 (Int32.toNatClampNeg ((l2 * 55) + ((l5 * 5) + l6)))) = 0 then (K 1 l2 l3 l4 l5 (l6 + 1) f1) else ((S_Grammar_symbolAt l5 l6 f3 f4).bind fun u_7 => (if ¬ u_7 = l3 then (K 1 l2 l3 l4 l5 (l6 + 1) f1) else (if ((((x0_3 * 55) + ((l5 * 5) + l6)) + 1) : Int32) < 0 ∨ 2255 ≤ (Int32.toNatClampNeg (((x0_3 * 55) + ((l5 * 5) + l6)) + 1)) then none else (K 1 l2 l3 1 l5 (l6 + 1) (upd f1 (Int32.toNatClampNeg (((x0_3 * 55) + ((l5 * 5) + l6)) + 1)) (f1 (Int32.toNatClampNeg ((l2 * 55) + ((l5 * 5) + l6)))))))))))))
def F_States_moveBehind (x0_3 : Int32) (f3 : (Nat → Int32)) (f4 : (Nat → Int32)) : Nat → Nat → Int32 → Int32 → Int32 → Int32 → Int32 → (Nat → Int32) → Option (Int32 × (Nat → Int32))
  | 0 => fun _ _ _ _ _ _ _ => none
  | n + 1 => fun hd l2 l3 l4 l5 l6 f1 => match hd with
    | 0 => B_States_moveBehind_0 (F_States_moveBehind x0_3 f3 f4 n) x0_3 f3 f4 l2 l3 l4 l5 l6 f1
    | 1 => B_States_moveBehind_1 (F_States_moveBehind x0_3 f3 f4 n) x0_3 f3 f4 l2 l3 l4 l5 l6 f1
    | _ => none
set_option maxHeartbeats 4000000 in
set_option maxRecDepth 100000 in
theorem L_States_moveBehind {p : Program} {l : Launch} {e : Env} {s : State} {m : MethodId} {args : Array Value} {below : List Frame} {meth : Method} {c : Code} {A : Nat → Prop} {dC : Nat → ClassId} {dI : Nat → Nat → Nat} {kA : Nat → ClassId} (hx : p.tables.exec = Jvm.exec) (hb : c.code = b_States_moveBehind) (hr : meth.sig.returnType = some .boolean) (hlocks : meth.locks = false) (hml : c.maxLocals = 9) (hown : s.vm.findClass R_States = some m.cls) (hts : ∀ w ∈ w_States_moveBehind, w.before args s = true) (hA : ∀ q : Nat, s.heap.size ≤ q → A q) (hK : va_K (dC, dI) classes (tys_ kA) s) (a0 a1 a2 a3 a4 : Nat) (v0_1 v0_2 v0_4 v2_0 v2_3 v2_4 v2_5 v2_6 : Value) (x0_3 : Int32) (f3 : (Nat → Int32)) (f4 : (Nat → Int32)) (r : Int32) (of1 : (Nat → Int32)) : ∀ n : Nat, (∀ (l2 l3 l4 l5 l6 : Int32) (f1 : (Nat → Int32)), F_States_moveBehind x0_3 f3 f4 n 0 l2 l3 l4 l5 l6 f1 = some (r, of1) → ∀ (H : Heap) (locs : List Loc) (ls : Array Slot), va_P (dC, dI) classes (wd_States_moveBehind kA a0 a1 a2 a3 a4 v0_1 v0_2 v0_4 v2_0 v2_3 v2_4 v2_5 v2_6 x0_3 f1 f3 f4) H → va_D A (wd_States_moveBehind kA a0 a1 a2 a3 a4 v0_1 v0_2 v0_4 v2_0 v2_3 v2_4 v2_5 v2_6 x0_3 f1 f3 f4) → va_S A s.heap H locs → lv_has ls 9 [(0, .ref a0), (1, .ref a2), (2, .int l2), (3, .int l3), (4, .int l4), (5, .int l5)] → W p l e (headSpec w_States_moveBehind rm_States_moveBehind).room s m args below meth c H locs 0 0 (MQ below (va_Qi (fun (r1 : Int32) (_ : Unit) => r1 = r) (fun _ t => va_P (dC, dI) classes (wd_States_moveBehind kA a0 a1 a2 a3 a4 v0_1 v0_2 v0_4 v2_0 v2_3 v2_4 v2_5 v2_6 x0_3 of1 f3 f4) t.heap ∧ va_K (dC, dI) classes (tys_ kA) t ∧ va_D A (wd_States_moveBehind kA a0 a1 a2 a3 a4 v0_1 v0_2 v0_4 v2_0 v2_3 v2_4 v2_5 v2_6 x0_3 of1 f3 f4)) A) args s 0 0 A) (F0 m 14 ls [])) ∧ (∀ (l2 l3 l4 l5 l6 : Int32) (f1 : (Nat → Int32)), F_States_moveBehind x0_3 f3 f4 n 1 l2 l3 l4 l5 l6 f1 = some (r, of1) → ∀ (H : Heap) (locs : List Loc) (ls : Array Slot), va_P (dC, dI) classes (wd_States_moveBehind kA a0 a1 a2 a3 a4 v0_1 v0_2 v0_4 v2_0 v2_3 v2_4 v2_5 v2_6 x0_3 f1 f3 f4) H → va_D A (wd_States_moveBehind kA a0 a1 a2 a3 a4 v0_1 v0_2 v0_4 v2_0 v2_3 v2_4 v2_5 v2_6 x0_3 f1 f3 f4) → va_S A s.heap H locs → lv_has ls 9 [(0, .ref a0), (1, .ref a2), (2, .int l2), (3, .int l3), (4, .int l4), (5, .int l5), (6, .int l6)] → W p l e (headSpec w_States_moveBehind rm_States_moveBehind).room s m args below meth c H locs 0 0 (MQ below (va_Qi (fun (r1 : Int32) (_ : Unit) => r1 = r) (fun _ t => va_P (dC, dI) classes (wd_States_moveBehind kA a0 a1 a2 a3 a4 v0_1 v0_2 v0_4 v2_0 v2_3 v2_4 v2_5 v2_6 x0_3 of1 f3 f4) t.heap ∧ va_K (dC, dI) classes (tys_ kA) t ∧ va_D A (wd_States_moveBehind kA a0 a1 a2 a3 a4 v0_1 v0_2 v0_4 v2_0 v2_3 v2_4 v2_5 v2_6 x0_3 of1 f3 f4)) A) args s 0 0 A) (F0 m 24 ls [])) := by
  have hg := fun (w : Cond) (h : w ∈ gw) => hts w (List.mem_cons_of_mem _ h)
  intro n
  induction n with
  | zero =>
    exact ⟨fun _ _ _ _ _ _ hF => absurd (show (none : Option _) = some _ from hF) (fun z => by cases z), fun _ _ _ _ _ _ hF => absurd (show (none : Option _) = some _ from hF) (fun z => by cases z)⟩
  | succ n ih =>
    refine ⟨?_, ?_⟩
    · intro l2 l3 l4 l5 l6 f1 hF H locs ls hP hD hS hl
      have hF : B_States_moveBehind_0 (F_States_moveBehind x0_3 f3 f4 n) x0_3 f3 f4 l2 l3 l4 l5 l6 f1 = some (r, of1) := hF
      unfold B_States_moveBehind_0 at hF
      refine lv_iload hx hb d_States_moveBehind_14 (lv_at hl 5 rfl) ?_
      refine lv_bipush (v := 10) hx hb d_States_moveBehind_16 (by decide) ?_
      refine lv_icmp_gt (tgt := 109) hx hb d_States_moveBehind_18 (by decide) (fun c_1 => ?_) (fun c_1 => ?_)
      · rw [if_pos c_1] at hF
        refine lv_iload hx hb d_States_moveBehind_109 (lv_at hl 4 rfl) ?_
        obtain ⟨b_2, hF⟩ := rd_bool hF
        have e0 := Option.some.inj hF
        have q0 := Prod.mk.inj e0
        exact W.zret (v := l4) hx hb hr (rd_nb b_2) (fun t ht hW => ⟨⟨l4, (), rfl, q0.1, by rw [ht, ← q0.2]; exact hP, va_K.moved hW.alike hK, (by rw [← q0.2]; exact hD)⟩, hS.F ht⟩) hS.2.2 d_States_moveBehind_111 hlocks
      · rw [if_neg c_1] at hF
        refine lv_iconst (v := 0) hx hb d_States_moveBehind_21 (by decide) ?_
        refine lv_istore (lv' := [(6, .int 0), (0, .ref a0), (1, .ref a2), (2, .int l2), (3, .int l3), (4, .int l4), (5, .int l5)]) hx hb d_States_moveBehind_22 hl (by decide) rfl (fun ls hl => ?_)
        exact ih.2 l2 l3 l4 l5 0 f1 hF _ _ _ hP hD hS (lv_sub hl [1, 2, 3, 4, 5, 6, 0] rfl)
    · intro l2 l3 l4 l5 l6 f1 hF H locs ls hP hD hS hl
      have hF : B_States_moveBehind_1 (F_States_moveBehind x0_3 f3 f4 n) x0_3 f3 f4 l2 l3 l4 l5 l6 f1 = some (r, of1) := hF
      unfold B_States_moveBehind_1 at hF
      refine lv_iload hx hb d_States_moveBehind_24 (lv_at hl 6 rfl) ?_
      refine lv_aload_n hx hb d_States_moveBehind_26 rfl (lv_at hl 1 rfl) ?_
      refine lv_iload hx hb d_States_moveBehind_27 (lv_at hl 5 rfl) ?_
      obtain ⟨u_3, hS_3, hF⟩ := rd_bind hF
      have hPc := hP.sub (ws' := (wd_Grammar_sizeOf kA a2 a4 v2_0 (.ref a3) v2_3 v2_4 v2_5 v2_6 f4)) [2, 4] rfl
      have hDc := hD.sub (ws' := (wd_Grammar_sizeOf kA a2 a4 v2_0 (.ref a3) v2_3 v2_4 v2_5 v2_6 f4)) [2, 4] (by decide) rfl
      have hFc := va_free (wc := (wd_Grammar_sizeOf kA a2 a4 v2_0 (.ref a3) v2_3 v2_4 v2_5 v2_6 f4)) hD hS hA [2, 4] rfl
      refine va_calli (va_runV (As := [.int l5]) (rest := [.int l6]) ⟨hx, hb, hml, hown, hts⟩ (c_Grammar_sizeOf l dC dI kA H.size a2 a4 v2_0 (.ref a3) v2_3 v2_4 v2_5 v2_6 l5 f4 u_3 hS_3) (cwV 1 hts (gw_V gw_194 gw_55 gw_56 gw_42 gw_57) rfl rfl rfl (by decide +kernel) ⟨Nat.le_of_ble_eq_true rfl, Nat.le_of_ble_eq_true rfl⟩) ⟨fun a U g mk q => by obtain ⟨q0, q1, qP, qK, qD⟩ := q; exact ⟨q0, q1, qP, va_K.moved (u := U) (U := U.calling g mk a) (Vm.Alike.refl U.vm) qK, qD⟩, va_recv hK hP (ci := 2) (q0 := 2) rfl rfl, fun U hU hW => ⟨rfl, by rw [hU], by rw [hU]; exact hPc, va_K.moved hW.alike hK, hDc.weaken (fun _ _ _ _ => trivial)⟩⟩ rfl rfl hl.1 rfl (lv_room (Nat.le_of_ble_eq_true rfl)) d_States_moveBehind_29 ⟨Nat.zero_le _, Nat.zero_le _⟩) hS (fun q _ h => hFc q h) hFc (fun r1 u t H1 locs ht hvm hw hB hz1 hk1 hS => ?_)
      rw [show r1 = _ from hw]
      obtain ⟨hP1, hK1, hD1⟩ := hB
      rw [ht] at hP1
      obtain ⟨hP, hD⟩ := va_join (wr := [(a0, .inr (6, [.ref a1, v0_1, v0_2, .int x0_3, v0_4])), (a1, .inl (kA 0, 2255, .inl f1)), (a3, .inl (kA 0, 48, .inl f3))]) (w1 := (wd_Grammar_sizeOf kA a2 a4 v2_0 (.ref a3) v2_3 v2_4 v2_5 v2_6 f4)) hP hD [2, 4] [0, 1, 3] rfl rfl (by decide) (by decide) hk1 hFc hP1 hD1
      have hP := hP.sub (ws' := (wd_States_moveBehind kA a0 a1 a2 a3 a4 v0_1 v0_2 v0_4 v2_0 v2_3 v2_4 v2_5 v2_6 x0_3 f1 f3 f4)) [0, 1, 3, 2, 4] rfl
      have hD := hD.sub (ws' := (wd_States_moveBehind kA a0 a1 a2 a3 a4 v0_1 v0_2 v0_4 v2_0 v2_3 v2_4 v2_5 v2_6 x0_3 f1 f3 f4)) [0, 1, 3, 2, 4] (by decide) rfl
      clear hPc hDc hFc hP1 hK1 hD1
      generalize H1 = H at hP hS ⊢
      refine lv_icmp_ge (tgt := 103) hx hb d_States_moveBehind_32 (by decide) (fun c_4 => ?_) (fun c_4 => ?_)
      · rw [if_pos c_4] at hF
        refine lv_iinc (v := (l5 + 1)) (lv' := [(5, .int (l5 + 1)), (0, .ref a0), (1, .ref a2), (2, .int l2), (3, .int l3), (4, .int l4), (6, .int l6)]) hx hb d_States_moveBehind_103 hl (k := 5) rfl (by rfl) (by decide) rfl (fun ls hl => ?_)
        refine lv_goto (tgt := 14) hx hb d_States_moveBehind_106 (by decide) ?_
        exact ih.1 l2 l3 l4 (l5 + 1) 0 f1 hF _ _ _ hP hD hS (lv_sub hl [1, 2, 3, 4, 5, 0] rfl)
      · rw [if_neg c_4] at hF
        refine lv_iload hx hb d_States_moveBehind_35 (lv_at hl 5 rfl) ?_
        refine lv_iconst (v := 5) hx hb d_States_moveBehind_37 (by decide) ?_
        refine lv_imul hx hb d_States_moveBehind_38 ?_
        refine lv_iload hx hb d_States_moveBehind_39 (lv_at hl 6 rfl) ?_
        refine lv_iadd hx hb d_States_moveBehind_41 ?_
        refine lv_istore (lv' := [(7, .int ((l5 * 5) + l6)), (0, .ref a0), (1, .ref a2), (2, .int l2), (3, .int l3), (4, .int l4), (5, .int l5), (6, .int l6)]) hx hb d_States_moveBehind_42 hl (by decide) rfl (fun ls hl => ?_)
        refine lv_aload_n hx hb d_States_moveBehind_44 rfl (lv_at hl 1 rfl) ?_
        refine va_get (D := (dC, dI)) (ci := 6) (v := .ref a1) (C := R_States) (T := F_States) (N := 5) hx hb hg iw_States hown hK hP 0 rfl rfl 0 (by decide) (hg _ gw_188) (fun _ h9 => h9) rfl d_States_moveBehind_45 ?_
        refine lv_iload_n hx hb d_States_moveBehind_48 rfl (lv_at hl 3 rfl) ?_
        refine lv_bipush (v := 55) hx hb d_States_moveBehind_49 (by decide) ?_
        refine lv_imul hx hb d_States_moveBehind_51 ?_
        refine lv_iload hx hb d_States_moveBehind_52 (lv_at hl 0 rfl) ?_
        refine lv_iadd hx hb d_States_moveBehind_54 ?_
        obtain ⟨h_5, hF⟩ := rd_chk hF
        refine va_iald hx hb hK hP 1 0 rfl rfl h_5 d_States_moveBehind_55 ?_
        refine lv_istore (lv' := [(8, .int (f1 (Int32.toNatClampNeg ((l2 * 55) + ((l5 * 5) + l6))))), (7, .int ((l5 * 5) + l6)), (0, .ref a0), (1, .ref a2), (2, .int l2), (3, .int l3), (4, .int l4), (5, .int l5), (6, .int l6)]) hx hb d_States_moveBehind_56 hl (by decide) rfl (fun ls hl => ?_)
        refine lv_iload hx hb d_States_moveBehind_58 (lv_at hl 0 rfl) ?_
        refine lv_if_eq (tgt := 97) hx hb d_States_moveBehind_60 (by decide) (fun c_6 => ?_) (fun c_6 => ?_)
        · rw [if_pos c_6] at hF
          refine lv_iinc (v := (l6 + 1)) (lv' := [(6, .int (l6 + 1)), (8, .int (f1 (Int32.toNatClampNeg ((l2 * 55) + ((l5 * 5) + l6))))), (7, .int ((l5 * 5) + l6)), (0, .ref a0), (1, .ref a2), (2, .int l2), (3, .int l3), (4, .int l4), (5, .int l5)]) hx hb d_States_moveBehind_97 hl (k := 8) rfl (by rfl) (by decide) rfl (fun ls hl => ?_)
          refine lv_goto (tgt := 24) hx hb d_States_moveBehind_100 (by decide) ?_
          exact ih.2 l2 l3 l4 l5 (l6 + 1) f1 hF _ _ _ hP hD hS (lv_sub hl [3, 4, 5, 6, 7, 8, 0] rfl)
        · rw [if_neg c_6] at hF
          refine lv_aload_n hx hb d_States_moveBehind_63 rfl (lv_at hl 3 rfl) ?_
          refine lv_iload hx hb d_States_moveBehind_64 (lv_at hl 7 rfl) ?_
          refine lv_iload hx hb d_States_moveBehind_66 (lv_at hl 8 rfl) ?_
          obtain ⟨u_7, hS_7, hF⟩ := rd_bind hF
          have hPc := hP.sub (ws' := (wd_Grammar_symbolAt kA a2 a3 a4 v2_0 v2_3 v2_4 v2_5 v2_6 f3 f4)) [2, 3, 4] rfl
          have hDc := hD.sub (ws' := (wd_Grammar_symbolAt kA a2 a3 a4 v2_0 v2_3 v2_4 v2_5 v2_6 f3 f4)) [2, 3, 4] (by decide) rfl
          have hFc := va_free (wc := (wd_Grammar_symbolAt kA a2 a3 a4 v2_0 v2_3 v2_4 v2_5 v2_6 f3 f4)) hD hS hA [2, 3, 4] rfl
          refine va_calli (va_runV (As := [.int l5, .int l6]) (rest := []) ⟨hx, hb, hml, hown, hts⟩ (c_Grammar_symbolAt l dC dI kA H.size a2 a3 a4 v2_0 v2_3 v2_4 v2_5 v2_6 l5 l6 f3 f4 u_7 hS_7) (cwV 2 hts (gw_V gw_195 gw_59 gw_60 gw_42 gw_61) rfl rfl rfl (by decide +kernel) ⟨Nat.le_of_ble_eq_true rfl, Nat.le_of_ble_eq_true rfl⟩) ⟨fun a U g mk q => by obtain ⟨q0, q1, qP, qK, qD⟩ := q; exact ⟨q0, q1, qP, va_K.moved (u := U) (U := U.calling g mk a) (Vm.Alike.refl U.vm) qK, qD⟩, va_recv hK hP (ci := 2) (q0 := 2) rfl rfl, fun U hU hW => ⟨rfl, by rw [hU], by rw [hU]; exact hPc, va_K.moved hW.alike hK, hDc.weaken (fun _ _ _ _ => trivial)⟩⟩ rfl rfl hl.1 rfl (lv_room (Nat.le_of_ble_eq_true rfl)) d_States_moveBehind_68 ⟨Nat.zero_le _, Nat.zero_le _⟩) hS (fun q _ h => hFc q h) hFc (fun r1 u t H1 locs ht hvm hw hB hz1 hk1 hS => ?_)
          rw [show r1 = _ from hw]
          obtain ⟨hP1, hK1, hD1⟩ := hB
          rw [ht] at hP1
          obtain ⟨hP, hD⟩ := va_join (wr := [(a0, .inr (6, [.ref a1, v0_1, v0_2, .int x0_3, v0_4])), (a1, .inl (kA 0, 2255, .inl f1))]) (w1 := (wd_Grammar_symbolAt kA a2 a3 a4 v2_0 v2_3 v2_4 v2_5 v2_6 f3 f4)) hP hD [2, 3, 4] [0, 1] rfl rfl (by decide) (by decide) hk1 hFc hP1 hD1
          have hP := hP.sub (ws' := (wd_States_moveBehind kA a0 a1 a2 a3 a4 v0_1 v0_2 v0_4 v2_0 v2_3 v2_4 v2_5 v2_6 x0_3 f1 f3 f4)) [0, 1, 2, 3, 4] rfl
          have hD := hD.sub (ws' := (wd_States_moveBehind kA a0 a1 a2 a3 a4 v0_1 v0_2 v0_4 v2_0 v2_3 v2_4 v2_5 v2_6 x0_3 f1 f3 f4)) [0, 1, 2, 3, 4] (by decide) rfl
          clear hPc hDc hFc hP1 hK1 hD1
          generalize H1 = H at hP hS ⊢
          refine lv_iload_n hx hb d_States_moveBehind_71 rfl (lv_at hl 5 rfl) ?_
          refine lv_icmp_ne (tgt := 97) hx hb d_States_moveBehind_72 (by decide) (fun c_8 => ?_) (fun c_8 => ?_)
          · rw [if_pos c_8] at hF
            refine lv_iinc (v := (l6 + 1)) (lv' := [(6, .int (l6 + 1)), (8, .int (f1 (Int32.toNatClampNeg ((l2 * 55) + ((l5 * 5) + l6))))), (7, .int ((l5 * 5) + l6)), (0, .ref a0), (1, .ref a2), (2, .int l2), (3, .int l3), (4, .int l4), (5, .int l5)]) hx hb d_States_moveBehind_97 hl (k := 8) rfl (by rfl) (by decide) rfl (fun ls hl => ?_)
            refine lv_goto (tgt := 24) hx hb d_States_moveBehind_100 (by decide) ?_
            exact ih.2 l2 l3 l4 l5 (l6 + 1) f1 hF _ _ _ hP hD hS (lv_sub hl [3, 4, 5, 6, 7, 8, 0] rfl)
          · rw [if_neg (fun z => z c_8)] at hF
            refine lv_aload_n hx hb d_States_moveBehind_75 rfl (lv_at hl 2 rfl) ?_
            refine va_get (D := (dC, dI)) (ci := 6) (v := .ref a1) (C := R_States) (T := F_States) (N := 5) hx hb hg iw_States hown hK hP 0 rfl rfl 0 (by decide) (hg _ gw_188) (fun _ h9 => h9) rfl d_States_moveBehind_76 ?_
            refine lv_aload_n hx hb d_States_moveBehind_79 rfl (lv_at hl 2 rfl) ?_
            refine va_get (D := (dC, dI)) (ci := 6) (v := .int x0_3) (C := R_States) (T := F_States) (N := 5) hx hb hg iw_States hown hK hP 0 rfl rfl 3 (by decide) (hg _ gw_79) (fun _ h9 => h9) rfl d_States_moveBehind_80 ?_
            refine lv_bipush (v := 55) hx hb d_States_moveBehind_83 (by decide) ?_
            refine lv_imul hx hb d_States_moveBehind_85 ?_
            refine lv_iload hx hb d_States_moveBehind_86 (lv_at hl 1 rfl) ?_
            refine lv_iadd hx hb d_States_moveBehind_88 ?_
            refine lv_iconst (v := 1) hx hb d_States_moveBehind_89 (by decide) ?_
            refine lv_iadd hx hb d_States_moveBehind_90 ?_
            refine lv_iload hx hb d_States_moveBehind_91 (lv_at hl 0 rfl) ?_
            obtain ⟨h_9, hF⟩ := rd_chk hF
            refine va_iast hx hb hK hP hD hS 1 0 rfl rfl h_9 d_States_moveBehind_93 (fun H locs hP hD hS => ?_)
            have hP : va_P (dC, dI) classes (wd_States_moveBehind kA a0 a1 a2 a3 a4 v0_1 v0_2 v0_4 v2_0 v2_3 v2_4 v2_5 v2_6 x0_3 (upd f1 (Int32.toNatClampNeg (((x0_3 * 55) + ((l5 * 5) + l6)) + 1)) (f1 (Int32.toNatClampNeg ((l2 * 55) + ((l5 * 5) + l6))))) f3 f4) H := hP
            have hD : va_D A (wd_States_moveBehind kA a0 a1 a2 a3 a4 v0_1 v0_2 v0_4 v2_0 v2_3 v2_4 v2_5 v2_6 x0_3 (upd f1 (Int32.toNatClampNeg (((x0_3 * 55) + ((l5 * 5) + l6)) + 1)) (f1 (Int32.toNatClampNeg ((l2 * 55) + ((l5 * 5) + l6))))) f3 f4) := hD
            refine lv_iconst (v := 1) hx hb d_States_moveBehind_94 (by decide) ?_
            refine lv_istore (lv' := [(4, .int 1), (8, .int (f1 (Int32.toNatClampNeg ((l2 * 55) + ((l5 * 5) + l6))))), (7, .int ((l5 * 5) + l6)), (0, .ref a0), (1, .ref a2), (2, .int l2), (3, .int l3), (5, .int l5), (6, .int l6)]) hx hb d_States_moveBehind_95 hl (by decide) rfl (fun ls hl => ?_)
            refine lv_iinc (v := (l6 + 1)) (lv' := [(6, .int (l6 + 1)), (4, .int 1), (8, .int (f1 (Int32.toNatClampNeg ((l2 * 55) + ((l5 * 5) + l6))))), (7, .int ((l5 * 5) + l6)), (0, .ref a0), (1, .ref a2), (2, .int l2), (3, .int l3), (5, .int l5)]) hx hb d_States_moveBehind_97 hl (k := 8) rfl (by rfl) (by decide) rfl (fun ls hl => ?_)
            refine lv_goto (tgt := 24) hx hb d_States_moveBehind_100 (by decide) ?_
            exact ih.2 l2 l3 1 l5 (l6 + 1) (upd f1 (Int32.toNatClampNeg (((x0_3 * 55) + ((l5 * 5) + l6)) + 1)) (f1 (Int32.toNatClampNeg ((l2 * 55) + ((l5 * 5) + l6))))) hF _ _ _ hP hD hS (lv_sub hl [4, 5, 6, 7, 1, 8, 0] rfl)
def S_States_moveBehind (p2 : Int32) (p3 : Int32) (x0_3 : Int32) (f1 : (Nat → Int32)) (f3 : (Nat → Int32)) (f4 : (Nat → Int32)) : Option (Int32 × (Nat → Int32)) := ((S_States_clearSet x0_3 f1).bind fun u_10 => (F_States_moveBehind x0_3 f3 f4 fuel_ 0 p2 p3 0 0 0 u_10))
set_option maxHeartbeats 4000000 in
set_option maxRecDepth 100000 in
theorem c_States_moveBehind (l : Launch) (dC : Nat → ClassId) (dI : Nat → Nat → Nat) (kA : Nat → ClassId) (sz : Nat) (a0 a1 a2 a3 a4 : Nat) (v0_1 v0_2 v0_4 v2_0 v2_3 v2_4 v2_5 v2_6 : Value) (p2 : Int32) (p3 : Int32) (x0_3 : Int32) (f1 : (Nat → Int32)) (f3 : (Nat → Int32)) (f4 : (Nat → Int32)) (r : Int32) (of1 : (Nat → Int32)) (hF : S_States_moveBehind p2 p3 x0_3 f1 f3 f4 = some (r, of1)) : Met l y_States_moveBehind w_States_moveBehind rm_States_moveBehind (va_Pc [.ref a0, .ref a2, .int p2, .int p3] (fun U => U.heap.size = sz ∧ va_P (dC, dI) classes (wd_States_moveBehind kA a0 a1 a2 a3 a4 v0_1 v0_2 v0_4 v2_0 v2_3 v2_4 v2_5 v2_6 x0_3 f1 f3 f4) U.heap ∧ va_K (dC, dI) classes (tys_ kA) U ∧ va_D (fun _ => True) (wd_States_moveBehind kA a0 a1 a2 a3 a4 v0_1 v0_2 v0_4 v2_0 v2_3 v2_4 v2_5 v2_6 x0_3 f1 f3 f4))) (va_Qi (fun (r1 : Int32) (_ : Unit) => r1 = r) (fun _ t => va_P (dC, dI) classes (wd_States_moveBehind kA a0 a1 a2 a3 a4 v0_1 v0_2 v0_4 v2_0 v2_3 v2_4 v2_5 v2_6 x0_3 of1 f3 f4) t.heap ∧ va_K (dC, dI) classes (tys_ kA) t ∧ va_D (va_A (wd_States_moveBehind kA a0 a1 a2 a3 a4 v0_1 v0_2 v0_4 v2_0 v2_3 v2_4 v2_5 v2_6 x0_3 f1 f3 f4) sz) (wd_States_moveBehind kA a0 a1 a2 a3 a4 v0_1 v0_2 v0_4 v2_0 v2_3 v2_4 v2_5 v2_6 x0_3 of1 f3 f4)) (va_A (wd_States_moveBehind kA a0 a1 a2 a3 a4 v0_1 v0_2 v0_4 v2_0 v2_3 v2_4 v2_5 v2_6 x0_3 f1 f3 f4) sz)) 0 0 (va_A (wd_States_moveBehind kA a0 a1 a2 a3 a4 v0_1 v0_2 v0_4 v2_0 v2_3 v2_4 v2_5 v2_6 x0_3 f1 f3 f4) sz) := by
  refine Met.ofW (cc := b_States_moveBehind) (maxL := 9) (ret := some .boolean) (by decide) rfl ?_
  intro p e s m args below meth c s₁ B hml hv
  obtain ⟨rfl, hsz, hP, hK, hD0⟩ := hv
  have hx := B.exec
  have hb := B.bytes
  have hr := B.returns
  have hts := atoms_spec (ws := w_States_moveBehind) B.pre
  have hown : s.vm.findClass R_States = some m.cls := findClass_of_methodNamed B.named
  have hg := fun (w : Cond) (h : w ∈ gw) => hts w (List.mem_cons_of_mem _ h)
  have hlocks := B.notSynchronized
  subst hsz
  have hD := hD0.self (sz := s.heap.size)
  generalize hAe : va_A (wd_States_moveBehind kA a0 a1 a2 a3 a4 v0_1 v0_2 v0_4 v2_0 v2_3 v2_4 v2_5 v2_6 x0_3 f1 f3 f4) s.heap.size = A at hD ⊢
  have hA : ∀ q : Nat, s.heap.size ≤ q → A q := fun q h => by rw [← hAe]; exact Or.inr h
  have hS : va_S A s.heap s.heap [] := va_S.rf
  have hl := lv_entry ([.ref a0, .ref a2, .int p2, .int p3]) (n := 9) (Nat.le_of_ble_eq_true rfl)
  rw [lg_entry_eq]
  generalize (lg_sl ([.ref a0, .ref a2, .int p2, .int p3]) ++ List.replicate (9 - (lg_sl ([.ref a0, .ref a2, .int p2, .int p3])).length) Slot.unset).toArray = ls at hl ⊢
  have hl : lv_has ls 9 [(0, .ref a0), (1, .ref a2), (2, .int p2), (3, .int p3)] := hl
  unfold S_States_moveBehind at hF
  have ih := L_States_moveBehind (l := l) (e := e) (below := below) hx hb hr hlocks hml hown hts hA hK a0 a1 a2 a3 a4 v0_1 v0_2 v0_4 v2_0 v2_3 v2_4 v2_5 v2_6 x0_3 f3 f4 r of1 fuel_
  refine lv_iconst (v := 0) hx hb d_States_moveBehind_0 (by decide) ?_
  refine lv_istore (lv' := [(4, .int 0), (0, .ref a0), (1, .ref a2), (2, .int p2), (3, .int p3)]) hx hb d_States_moveBehind_1 hl (by decide) rfl (fun ls hl => ?_)
  refine lv_aload_n hx hb d_States_moveBehind_3 rfl (lv_at hl 1 rfl) ?_
  refine lv_aload_n hx hb d_States_moveBehind_4 rfl (lv_at hl 1 rfl) ?_
  refine va_get (D := (dC, dI)) (ci := 6) (v := .int x0_3) (C := R_States) (T := F_States) (N := 5) hx hb hg iw_States hown hK hP 0 rfl rfl 3 (by decide) (hg _ gw_79) (fun _ h9 => h9) rfl d_States_moveBehind_5 ?_
  obtain ⟨u_10, hS_10, hF⟩ := rd_bind hF
  have hPc := hP.sub (ws' := (wd_States_clearSet kA a0 a1 v0_1 v0_2 (.int x0_3) v0_4 f1)) [0, 1] rfl
  have hDc := hD.sub (ws' := (wd_States_clearSet kA a0 a1 v0_1 v0_2 (.int x0_3) v0_4 f1)) [0, 1] (by decide) rfl
  have hFc := va_free (wc := (wd_States_clearSet kA a0 a1 v0_1 v0_2 (.int x0_3) v0_4 f1)) hD hS hA [0, 1] rfl
  refine va_callv (va_runV (As := [.int x0_3]) (rest := []) ⟨hx, hb, hml, hown, hts⟩ (c_States_clearSet l dC dI kA s.heap.size a0 a1 v0_1 v0_2 (.int x0_3) v0_4 x0_3 f1 u_10 hS_10) (cwV 1 hts (gw_V gw_201 gw_202 gw_203 gw_91 gw_204) rfl rfl rfl (by decide +kernel) ⟨Nat.le_of_ble_eq_true rfl, Nat.le_of_ble_eq_true rfl⟩) ⟨fun a U g mk q => by obtain ⟨q0, q1, qP, qK, qD⟩ := q; exact ⟨q0, q1, qP, va_K.moved (u := U) (U := U.calling g mk a) (Vm.Alike.refl U.vm) qK, qD⟩, va_recv hK hP (ci := 6) (q0 := 0) rfl rfl, fun U hU hW => ⟨rfl, by rw [hU], by rw [hU]; exact hPc, va_K.moved hW.alike hK, hDc.weaken (fun _ _ _ _ => trivial)⟩⟩ rfl rfl hl.1 rfl (lv_room (Nat.le_of_ble_eq_true rfl)) d_States_moveBehind_8 ⟨Nat.zero_le _, Nat.zero_le _⟩) hS (fun q _ h => hFc q h) hFc (fun u t H1 locs ht hvm hw hB hz1 hk1 hS => ?_)
  obtain ⟨hP1, hK1, hD1⟩ := hB
  rw [ht] at hP1
  obtain ⟨hP, hD⟩ := va_join (wr := [(a2, .inr (2, [v2_0, .ref a4, .ref a3, v2_3, v2_4, v2_5, v2_6])), (a3, .inl (kA 0, 48, .inl f3)), (a4, .inl (kA 0, 12, .inl f4))]) (w1 := (wd_States_clearSet kA a0 a1 v0_1 v0_2 (.int x0_3) v0_4 u_10)) hP hD [0, 1] [2, 3, 4] rfl rfl (by decide) (by decide) hk1 hFc hP1 hD1
  have hP := hP.sub (ws' := (wd_States_moveBehind kA a0 a1 a2 a3 a4 v0_1 v0_2 v0_4 v2_0 v2_3 v2_4 v2_5 v2_6 x0_3 u_10 f3 f4)) [3, 4, 0, 1, 2] rfl
  have hD := hD.sub (ws' := (wd_States_moveBehind kA a0 a1 a2 a3 a4 v0_1 v0_2 v0_4 v2_0 v2_3 v2_4 v2_5 v2_6 x0_3 u_10 f3 f4)) [3, 4, 0, 1, 2] (by decide) rfl
  clear hPc hDc hFc hP1 hK1 hD1
  generalize H1 = H at hP hS ⊢
  refine lv_iconst (v := 0) hx hb d_States_moveBehind_11 (by decide) ?_
  refine lv_istore (lv' := [(5, .int 0), (4, .int 0), (0, .ref a0), (1, .ref a2), (2, .int p2), (3, .int p3)]) hx hb d_States_moveBehind_12 hl (by decide) rfl (fun ls hl => ?_)
  exact ih.1 p2 p3 0 0 0 u_10 hF _ _ _ hP hD hS (lv_sub hl [2, 3, 4, 5, 1, 0] rfl)
-- ===== RepairDesk$States.isSameAsNew(I)Z
abbrev wd_States_isSameAsNew (kA : Nat → ClassId) (a0 a1 : Nat) (v0_1 v0_2 v0_4 : Value) (x0_3 : Int32) (f1 : (Nat → Int32)) : va_W := [(a0, .inr (6, [.ref a1, v0_1, v0_2, .int x0_3, v0_4])), (a1, .inl (kA 0, 2255, .inl f1))]
abbrev rm_States_isSameAsNew : Room := { frames := 0, cells := 0, slots := 0, locals := 0 }
def B_States_isSameAsNew_0 (K : Nat → Int32 → Int32 → Option (Int32)) (x0_3 : Int32) (f1 : (Nat → Int32)) (l1 : Int32) (l2 : Int32)  : Option (Int32) := (if 55 ≤ l2 then (some 1) else (if (((l1 * 55) + l2) : Int32) < 0 ∨ 2255 ≤ (Int32.toNatClampNeg ((l1 * 55) + l2)) then none else (if (((x0_3 * 55) + l2) : Int32) < 0 ∨ 2255 ≤ (Int32.toNatClampNeg ((x0_3 * 55) + l2)) then none else (if (f1 (Int32.toNatClampNeg ((l1 * 55) + l2))) = (f1 (Int32.toNatClampNeg ((x0_3 * 55) + l2))) then (K 0 l1 (l2 + 1)) else (some 0)))))
def F_States_isSameAsNew (x0_3 : Int32) (f1 : (Nat → Int32)) : Nat → Nat → Int32 → Int32 → Option (Int32)
  | 0 => fun _ _ _ => none
  | n + 1 => fun hd l1 l2 => match hd with
    | 0 => B_States_isSameAsNew_0 (F_States_isSameAsNew x0_3 f1 n) x0_3 f1 l1 l2
    | _ => none
set_option maxHeartbeats 4000000 in
set_option maxRecDepth 100000 in
theorem L_States_isSameAsNew {p : Program} {l : Launch} {e : Env} {s : State} {m : MethodId} {args : Array Value} {below : List Frame} {meth : Method} {c : Code} {A : Nat → Prop} {dC : Nat → ClassId} {dI : Nat → Nat → Nat} {kA : Nat → ClassId} (hx : p.tables.exec = Jvm.exec) (hb : c.code = b_States_isSameAsNew) (hr : meth.sig.returnType = some .boolean) (hlocks : meth.locks = false) (hml : c.maxLocals = 3) (hown : s.vm.findClass R_States = some m.cls) (hts : ∀ w ∈ w_States_isSameAsNew, w.before args s = true) (hA : ∀ q : Nat, s.heap.size ≤ q → A q) (hK : va_K (dC, dI) classes (tys_ kA) s) (a0 a1 : Nat) (v0_1 v0_2 v0_4 : Value) (x0_3 : Int32) (f1 : (Nat → Int32)) (r : Int32) : ∀ n : Nat, (∀ (l1 l2 : Int32), F_States_isSameAsNew x0_3 f1 n 0 l1 l2 = some r → ∀ (H : Heap) (locs : List Loc) (ls : Array Slot), va_P (dC, dI) classes (wd_States_isSameAsNew kA a0 a1 v0_1 v0_2 v0_4 x0_3 f1) H → va_D A (wd_States_isSameAsNew kA a0 a1 v0_1 v0_2 v0_4 x0_3 f1) → va_S A s.heap H locs → lv_has ls 3 [(0, .ref a0), (1, .int l1), (2, .int l2)] → W p l e (headSpec w_States_isSameAsNew rm_States_isSameAsNew).room s m args below meth c H locs 0 0 (MQ below (va_Qi (fun (r1 : Int32) (_ : Unit) => r1 = r) (fun _ t => va_P (dC, dI) classes (wd_States_isSameAsNew kA a0 a1 v0_1 v0_2 v0_4 x0_3 f1) t.heap ∧ va_K (dC, dI) classes (tys_ kA) t ∧ va_D A (wd_States_isSameAsNew kA a0 a1 v0_1 v0_2 v0_4 x0_3 f1)) A) args s 0 0 A) (F0 m 2 ls [])) := by
  have hg := fun (w : Cond) (h : w ∈ gw) => hts w (List.mem_cons_of_mem _ h)
  intro n
  induction n with
  | zero =>
    exact fun _ _ hF => absurd (show (none : Option _) = some _ from hF) (fun z => by cases z)
  | succ n ih =>
    intro l1 l2 hF H locs ls hP hD hS hl
    have hF : B_States_isSameAsNew_0 (F_States_isSameAsNew x0_3 f1 n) x0_3 f1 l1 l2 = some r := hF
    unfold B_States_isSameAsNew_0 at hF
    refine lv_iload_n hx hb d_States_isSameAsNew_2 rfl (lv_at hl 2 rfl) ?_
    refine lv_bipush (v := 55) hx hb d_States_isSameAsNew_3 (by decide) ?_
    refine lv_icmp_ge (tgt := 44) hx hb d_States_isSameAsNew_5 (by decide) (fun c_1 => ?_) (fun c_1 => ?_)
    · rw [if_pos c_1] at hF
      refine lv_iconst (v := 1) hx hb d_States_isSameAsNew_44 (by decide) ?_
      have e0 := Option.some.inj hF
      exact W.zret (v := 1) hx hb hr rfl (fun t ht hW => ⟨⟨1, (), rfl, e0, by rw [ht]; exact hP, va_K.moved hW.alike hK, (by exact hD)⟩, hS.F ht⟩) hS.2.2 d_States_isSameAsNew_45 hlocks
    · rw [if_neg c_1] at hF
      refine lv_aload_n hx hb d_States_isSameAsNew_8 rfl (lv_at hl 0 rfl) ?_
      refine va_get (D := (dC, dI)) (ci := 6) (v := .ref a1) (C := R_States) (T := F_States) (N := 5) hx hb hg iw_States hown hK hP 0 rfl rfl 0 (by decide) (hg _ gw_188) (fun _ h9 => h9) rfl d_States_isSameAsNew_9 ?_
      refine lv_iload_n hx hb d_States_isSameAsNew_12 rfl (lv_at hl 1 rfl) ?_
      refine lv_bipush (v := 55) hx hb d_States_isSameAsNew_13 (by decide) ?_
      refine lv_imul hx hb d_States_isSameAsNew_15 ?_
      refine lv_iload_n hx hb d_States_isSameAsNew_16 rfl (lv_at hl 2 rfl) ?_
      refine lv_iadd hx hb d_States_isSameAsNew_17 ?_
      obtain ⟨h_2, hF⟩ := rd_chk hF
      refine va_iald hx hb hK hP 1 0 rfl rfl h_2 d_States_isSameAsNew_18 ?_
      refine lv_aload_n hx hb d_States_isSameAsNew_19 rfl (lv_at hl 0 rfl) ?_
      refine va_get (D := (dC, dI)) (ci := 6) (v := .ref a1) (C := R_States) (T := F_States) (N := 5) hx hb hg iw_States hown hK hP 0 rfl rfl 0 (by decide) (hg _ gw_188) (fun _ h9 => h9) rfl d_States_isSameAsNew_20 ?_
      refine lv_aload_n hx hb d_States_isSameAsNew_23 rfl (lv_at hl 0 rfl) ?_
      refine va_get (D := (dC, dI)) (ci := 6) (v := .int x0_3) (C := R_States) (T := F_States) (N := 5) hx hb hg iw_States hown hK hP 0 rfl rfl 3 (by decide) (hg _ gw_79) (fun _ h9 => h9) rfl d_States_isSameAsNew_24 ?_
      refine lv_bipush (v := 55) hx hb d_States_isSameAsNew_27 (by decide) ?_
      refine lv_imul hx hb d_States_isSameAsNew_29 ?_
      refine lv_iload_n hx hb d_States_isSameAsNew_30 rfl (lv_at hl 2 rfl) ?_
      refine lv_iadd hx hb d_States_isSameAsNew_31 ?_
      obtain ⟨h_3, hF⟩ := rd_chk hF
      refine va_iald hx hb hK hP 1 0 rfl rfl h_3 d_States_isSameAsNew_32 ?_
      refine lv_icmp_eq (tgt := 38) hx hb d_States_isSameAsNew_33 (by decide) (fun c_4 => ?_) (fun c_4 => ?_)
      · rw [if_pos c_4] at hF
        refine lv_iinc (v := (l2 + 1)) (lv' := [(2, .int (l2 + 1)), (0, .ref a0), (1, .int l1)]) hx hb d_States_isSameAsNew_38 hl (k := 2) rfl (by rfl) (by decide) rfl (fun ls hl => ?_)
        refine lv_goto (tgt := 2) hx hb d_States_isSameAsNew_41 (by decide) ?_
        exact ih l1 (l2 + 1) hF _ _ _ hP hD hS (lv_sub hl [1, 2, 0] rfl)
      · rw [if_neg c_4] at hF
        refine lv_iconst (v := 0) hx hb d_States_isSameAsNew_36 (by decide) ?_
        have e0 := Option.some.inj hF
        exact W.zret (v := 0) hx hb hr rfl (fun t ht hW => ⟨⟨0, (), rfl, e0, by rw [ht]; exact hP, va_K.moved hW.alike hK, (by exact hD)⟩, hS.F ht⟩) hS.2.2 d_States_isSameAsNew_37 hlocks
def S_States_isSameAsNew (p1 : Int32) (x0_3 : Int32) (f1 : (Nat → Int32)) : Option (Int32) := (F_States_isSameAsNew x0_3 f1 fuel_ 0 p1 0)
set_option maxHeartbeats 4000000 in
set_option maxRecDepth 100000 in
theorem c_States_isSameAsNew (l : Launch) (dC : Nat → ClassId) (dI : Nat → Nat → Nat) (kA : Nat → ClassId) (sz : Nat) (a0 a1 : Nat) (v0_1 v0_2 v0_4 : Value) (p1 : Int32) (x0_3 : Int32) (f1 : (Nat → Int32)) (r : Int32) (hF : S_States_isSameAsNew p1 x0_3 f1 = some r) : Met l y_States_isSameAsNew w_States_isSameAsNew rm_States_isSameAsNew (va_Pc [.ref a0, .int p1] (fun U => U.heap.size = sz ∧ va_P (dC, dI) classes (wd_States_isSameAsNew kA a0 a1 v0_1 v0_2 v0_4 x0_3 f1) U.heap ∧ va_K (dC, dI) classes (tys_ kA) U ∧ va_D (fun _ => True) (wd_States_isSameAsNew kA a0 a1 v0_1 v0_2 v0_4 x0_3 f1))) (va_Qi (fun (r1 : Int32) (_ : Unit) => r1 = r) (fun _ t => va_P (dC, dI) classes (wd_States_isSameAsNew kA a0 a1 v0_1 v0_2 v0_4 x0_3 f1) t.heap ∧ va_K (dC, dI) classes (tys_ kA) t ∧ va_D (va_A (wd_States_isSameAsNew kA a0 a1 v0_1 v0_2 v0_4 x0_3 f1) sz) (wd_States_isSameAsNew kA a0 a1 v0_1 v0_2 v0_4 x0_3 f1)) (va_A (wd_States_isSameAsNew kA a0 a1 v0_1 v0_2 v0_4 x0_3 f1) sz)) 0 0 (va_A (wd_States_isSameAsNew kA a0 a1 v0_1 v0_2 v0_4 x0_3 f1) sz) := by
  refine Met.ofW (cc := b_States_isSameAsNew) (maxL := 3) (ret := some .boolean) (by decide) rfl ?_
  intro p e s m args below meth c s₁ B hml hv
  obtain ⟨rfl, hsz, hP, hK, hD0⟩ := hv
  have hx := B.exec
  have hb := B.bytes
  have hr := B.returns
  have hts := atoms_spec (ws := w_States_isSameAsNew) B.pre
  have hown : s.vm.findClass R_States = some m.cls := findClass_of_methodNamed B.named
  have hg := fun (w : Cond) (h : w ∈ gw) => hts w (List.mem_cons_of_mem _ h)
  have hlocks := B.notSynchronized
  subst hsz
  have hD := hD0.self (sz := s.heap.size)
  generalize hAe : va_A (wd_States_isSameAsNew kA a0 a1 v0_1 v0_2 v0_4 x0_3 f1) s.heap.size = A at hD ⊢
  have hA : ∀ q : Nat, s.heap.size ≤ q → A q := fun q h => by rw [← hAe]; exact Or.inr h
  have hS : va_S A s.heap s.heap [] := va_S.rf
  have hl := lv_entry ([.ref a0, .int p1]) (n := 3) (Nat.le_of_ble_eq_true rfl)
  rw [lg_entry_eq]
  generalize (lg_sl ([.ref a0, .int p1]) ++ List.replicate (3 - (lg_sl ([.ref a0, .int p1])).length) Slot.unset).toArray = ls at hl ⊢
  have hl : lv_has ls 3 [(0, .ref a0), (1, .int p1)] := hl
  unfold S_States_isSameAsNew at hF
  have ih := L_States_isSameAsNew (l := l) (e := e) (below := below) hx hb hr hlocks hml hown hts hA hK a0 a1 v0_1 v0_2 v0_4 x0_3 f1 r fuel_
  refine lv_iconst (v := 0) hx hb d_States_isSameAsNew_0 (by decide) ?_
  refine lv_istore_n (lv' := [(2, .int 0), (0, .ref a0), (1, .int p1)]) hx hb d_States_isSameAsNew_1 rfl hl (by decide) rfl (fun ls hl => ?_)
  exact ih p1 0 hF _ _ _ hP hD hS (lv_sub hl [1, 2, 0] rfl)
-- ===== RepairDesk$States.enter(LRepairDesk$Grammar;II)I
abbrev wd_States_enter (kA : Nat → ClassId) (a0 a1 a2 a3 a4 a5 a6 a7 : Nat) (v0_1 v0_2 v0_4 v2_4 v2_6 : Value) (x0_3 : Int32) (f1 : (Nat → Int32)) (f3 : (Nat → Int32)) (f4 : (Nat → Int32)) (f5 : (Nat → Int32)) (f6 : (Nat → Int32)) (f7 : (Nat → Int32)) : va_W := [(a0, .inr (6, [.ref a1, v0_1, v0_2, .int x0_3, v0_4])), (a1, .inl (kA 0, 2255, .inl f1)), (a2, .inr (2, [.ref a4, .ref a6, .ref a5, .ref a7, v2_4, .ref a3, v2_6])), (a3, .inl (kA 0, 6, .inl f3)), (a4, .inl (kA 0, 12, .inl f4)), (a5, .inl (kA 0, 48, .inl f5)), (a6, .inl (kA 0, 12, .inl f6)), (a7, .inl (kA 1, 12, .inl f7))]
abbrev rm_States_enter : Room := { frames := 4, cells := 0, slots := 0, locals := 98 }
def B_States_enter_0 (K : Nat → Int32 → Int32 → Int32 → Int32 → (Nat → Int32) → Option (Int32 × Int32 × (Nat → Int32))) (f3 : (Nat → Int32)) (f4 : (Nat → Int32)) (f5 : (Nat → Int32)) (f6 : (Nat → Int32)) (f7 : (Nat → Int32)) (l2 : Int32) (l3 : Int32) (l4 : Int32) (x0_3 : Int32) (f1 : (Nat → Int32)) : Option (Int32 × Int32 × (Nat → Int32)) := (if x0_3 ≤ l4 then (if x0_3 < 40 then (some (((x0_3 + 1) - 1), (x0_3 + 1), f1)) else (some (40, x0_3, f1))) else ((S_States_isSameAsNew l4 x0_3 f1).bind fun u_3 => (if u_3 = 0 then (K 0 l2 l3 (l4 + 1) x0_3 f1) else (some (l4, x0_3, f1)))))
def F_States_enter (f3 : (Nat → Int32)) (f4 : (Nat → Int32)) (f5 : (Nat → Int32)) (f6 : (Nat → Int32)) (f7 : (Nat → Int32)) : Nat → Nat → Int32 → Int32 → Int32 → Int32 → (Nat → Int32) → Option (Int32 × Int32 × (Nat → Int32))
  | 0 => fun _ _ _ _ _ _ => none
  | n + 1 => fun hd l2 l3 l4 x0_3 f1 => match hd with
    | 0 => B_States_enter_0 (F_States_enter f3 f4 f5 f6 f7 n) f3 f4 f5 f6 f7 l2 l3 l4 x0_3 f1
    | _ => none
set_option maxHeartbeats 4000000 in
set_option maxRecDepth 100000 in
theorem L_States_enter {p : Program} {l : Launch} {e : Env} {s : State} {m : MethodId} {args : Array Value} {below : List Frame} {meth : Method} {c : Code} {A : Nat → Prop} {dC : Nat → ClassId} {dI : Nat → Nat → Nat} {kA : Nat → ClassId} (hx : p.tables.exec = Jvm.exec) (hb : c.code = b_States_enter) (hr : meth.sig.returnType = some .int) (hlocks : meth.locks = false) (hml : c.maxLocals = 5) (hown : s.vm.findClass R_States = some m.cls) (hts : ∀ w ∈ w_States_enter, w.before args s = true) (hA : ∀ q : Nat, s.heap.size ≤ q → A q) (hK : va_K (dC, dI) classes (tys_ kA) s) (a0 a1 a2 a3 a4 a5 a6 a7 : Nat) (v0_1 v0_2 v0_4 v2_4 v2_6 : Value) (f3 : (Nat → Int32)) (f4 : (Nat → Int32)) (f5 : (Nat → Int32)) (f6 : (Nat → Int32)) (f7 : (Nat → Int32)) (r : Int32) (ox0_3 : Int32) (of1 : (Nat → Int32)) : ∀ n : Nat, (∀ (l2 l3 l4 : Int32) (x0_3 : Int32) (f1 : (Nat → Int32)), F_States_enter f3 f4 f5 f6 f7 n 0 l2 l3 l4 x0_3 f1 = some (r, ox0_3, of1) → ∀ (H : Heap) (locs : List Loc) (ls : Array Slot), va_P (dC, dI) classes (wd_States_enter kA a0 a1 a2 a3 a4 a5 a6 a7 v0_1 v0_2 v0_4 v2_4 v2_6 x0_3 f1 f3 f4 f5 f6 f7) H → va_D A (wd_States_enter kA a0 a1 a2 a3 a4 a5 a6 a7 v0_1 v0_2 v0_4 v2_4 v2_6 x0_3 f1 f3 f4 f5 f6 f7) → va_S A s.heap H locs → lv_has ls 5 [(0, .ref a0), (1, .ref a2), (2, .int l2), (3, .int l3), (4, .int l4)] → W p l e (headSpec w_States_enter rm_States_enter).room s m args below meth c H locs 0 0 (MQ below (va_Qi (fun (r1 : Int32) (_ : Unit) => r1 = r) (fun _ t => va_P (dC, dI) classes (wd_States_enter kA a0 a1 a2 a3 a4 a5 a6 a7 v0_1 v0_2 v0_4 v2_4 v2_6 ox0_3 of1 f3 f4 f5 f6 f7) t.heap ∧ va_K (dC, dI) classes (tys_ kA) t ∧ va_D A (wd_States_enter kA a0 a1 a2 a3 a4 a5 a6 a7 v0_1 v0_2 v0_4 v2_4 v2_6 ox0_3 of1 f3 f4 f5 f6 f7)) A) args s 0 0 A) (F0 m 24 ls [])) := by
  have hg := fun (w : Cond) (h : w ∈ gw) => hts w (List.mem_cons_of_mem _ h)
  intro n
  induction n with
  | zero =>
    exact fun _ _ _ _ _ hF => absurd (show (none : Option _) = some _ from hF) (fun z => by cases z)
  | succ n ih =>
    intro l2 l3 l4 x0_3 f1 hF H locs ls hP hD hS hl
    have hF : B_States_enter_0 (F_States_enter f3 f4 f5 f6 f7 n) f3 f4 f5 f6 f7 l2 l3 l4 x0_3 f1 = some (r, ox0_3, of1) := hF
    unfold B_States_enter_0 at hF
    refine lv_iload hx hb d_States_enter_24 (lv_at hl 4 rfl) ?_
    refine lv_aload_n hx hb d_States_enter_26 rfl (lv_at hl 0 rfl) ?_
    refine va_get (D := (dC, dI)) (ci := 6) (v := .int x0_3) (C := R_States) (T := F_States) (N := 5) hx hb hg iw_States hown hK hP 0 rfl rfl 3 (by decide) (hg _ gw_79) (fun _ h9 => h9) rfl d_States_enter_27 ?_
    refine lv_icmp_ge (tgt := 51) hx hb d_States_enter_30 (by decide) (fun c_1 => ?_) (fun c_1 => ?_)
    · rw [if_pos c_1] at hF
      refine lv_aload_n hx hb d_States_enter_51 rfl (lv_at hl 0 rfl) ?_
      refine va_get (D := (dC, dI)) (ci := 6) (v := .int x0_3) (C := R_States) (T := F_States) (N := 5) hx hb hg iw_States hown hK hP 0 rfl rfl 3 (by decide) (hg _ gw_79) (fun _ h9 => h9) rfl d_States_enter_52 ?_
      refine lv_bipush (v := 40) hx hb d_States_enter_55 (by decide) ?_
      refine lv_icmp_lt (tgt := 63) hx hb d_States_enter_57 (by decide) (fun c_2 => ?_) (fun c_2 => ?_)
      · rw [if_pos c_2] at hF
        refine lv_aload_n hx hb d_States_enter_63 rfl (lv_at hl 0 rfl) ?_
        refine lv_dup hx hb d_States_enter_64 rfl ?_
        refine va_get (D := (dC, dI)) (ci := 6) (v := .int x0_3) (C := R_States) (T := F_States) (N := 5) hx hb hg iw_States hown hK hP 0 rfl rfl 3 (by decide) (hg _ gw_79) (fun _ h9 => h9) rfl d_States_enter_65 ?_
        refine lv_iconst (v := 1) hx hb d_States_enter_68 (by decide) ?_
        refine lv_iadd hx hb d_States_enter_69 ?_
        refine va_put (D := (dC, dI)) (ci := 6) (v := .int (x0_3 + 1)) (ty := .int) (C := R_States) (T := F_States) (N := 5) hx hb hg iw_States t_States t_States_ok n_States hown hK hP hD hS 0 rfl rfl 3 (by decide) (hg _ gw_79) (fun _ h9 => h9) rfl (by decide +kernel) rfl rfl (Nat.le_of_ble_eq_true rfl) d_States_enter_70 (fun H locs hP hD hS => ?_)
        have hP : va_P (dC, dI) classes (wd_States_enter kA a0 a1 a2 a3 a4 a5 a6 a7 v0_1 v0_2 v0_4 v2_4 v2_6 (x0_3 + 1) f1 f3 f4 f5 f6 f7) H := hP
        have hD : va_D A (wd_States_enter kA a0 a1 a2 a3 a4 a5 a6 a7 v0_1 v0_2 v0_4 v2_4 v2_6 (x0_3 + 1) f1 f3 f4 f5 f6 f7) := hD
        refine lv_aload_n hx hb d_States_enter_73 rfl (lv_at hl 0 rfl) ?_
        refine va_get (D := (dC, dI)) (ci := 6) (v := .int (x0_3 + 1)) (C := R_States) (T := F_States) (N := 5) hx hb hg iw_States hown hK hP 0 rfl rfl 3 (by decide) (hg _ gw_79) (fun _ h9 => h9) rfl d_States_enter_74 ?_
        refine lv_iconst (v := 1) hx hb d_States_enter_77 (by decide) ?_
        refine lv_isub hx hb d_States_enter_78 ?_
        have e0 := Option.some.inj hF
        have q0 := Prod.mk.inj e0
        have q1 := Prod.mk.inj q0.2
        exact W.iret (v := ((x0_3 + 1) - 1)) hx hb hr (fun t ht hW => ⟨⟨((x0_3 + 1) - 1), (), rfl, q0.1, by rw [ht, ← q1.1, ← q1.2]; exact hP, va_K.moved hW.alike hK, (by rw [← q1.1, ← q1.2]; exact hD)⟩, hS.F ht⟩) hS.2.2 d_States_enter_79 hlocks
      · rw [if_neg c_2] at hF
        refine lv_bipush (v := 40) hx hb d_States_enter_60 (by decide) ?_
        have e0 := Option.some.inj hF
        have q0 := Prod.mk.inj e0
        have q1 := Prod.mk.inj q0.2
        exact W.iret (v := 40) hx hb hr (fun t ht hW => ⟨⟨40, (), rfl, q0.1, by rw [ht, ← q1.1, ← q1.2]; exact hP, va_K.moved hW.alike hK, (by rw [← q1.1, ← q1.2]; exact hD)⟩, hS.F ht⟩) hS.2.2 d_States_enter_62 hlocks
    · rw [if_neg c_1] at hF
      refine lv_aload_n hx hb d_States_enter_33 rfl (lv_at hl 0 rfl) ?_
      refine lv_iload hx hb d_States_enter_34 (lv_at hl 4 rfl) ?_
      obtain ⟨u_3, hS_3, hF⟩ := rd_bind hF
      have hPc := hP.sub (ws' := (wd_States_isSameAsNew kA a0 a1 v0_1 v0_2 v0_4 x0_3 f1)) [0, 1] rfl
      have hDc := hD.sub (ws' := (wd_States_isSameAsNew kA a0 a1 v0_1 v0_2 v0_4 x0_3 f1)) [0, 1] (by decide) rfl
      have hFc := va_free (wc := (wd_States_isSameAsNew kA a0 a1 v0_1 v0_2 v0_4 x0_3 f1)) hD hS hA [0, 1] rfl
      refine va_calli (va_runV (As := [.int l4]) (rest := []) ⟨hx, hb, hml, hown, hts⟩ (c_States_isSameAsNew l dC dI kA H.size a0 a1 v0_1 v0_2 v0_4 l4 x0_3 f1 u_3 hS_3) (cwV 1 hts (gw_V gw_205 gw_206 gw_207 gw_91 gw_208) rfl rfl rfl (by decide +kernel) ⟨Nat.le_of_ble_eq_true rfl, Nat.le_of_ble_eq_true rfl⟩) ⟨fun a U g mk q => by obtain ⟨q0, q1, qP, qK, qD⟩ := q; exact ⟨q0, q1, qP, va_K.moved (u := U) (U := U.calling g mk a) (Vm.Alike.refl U.vm) qK, qD⟩, va_recv hK hP (ci := 6) (q0 := 0) rfl rfl, fun U hU hW => ⟨rfl, by rw [hU], by rw [hU]; exact hPc, va_K.moved hW.alike hK, hDc.weaken (fun _ _ _ _ => trivial)⟩⟩ rfl rfl hl.1 rfl (lv_room (Nat.le_of_ble_eq_true rfl)) d_States_enter_36 ⟨Nat.zero_le _, Nat.zero_le _⟩) hS (fun q _ h => hFc q h) hFc (fun r1 u t H1 locs ht hvm hw hB hz1 hk1 hS => ?_)
      rw [show r1 = _ from hw]
      obtain ⟨hP1, hK1, hD1⟩ := hB
      rw [ht] at hP1
      obtain ⟨hP, hD⟩ := va_join (wr := [(a2, .inr (2, [.ref a4, .ref a6, .ref a5, .ref a7, v2_4, .ref a3, v2_6])), (a3, .inl (kA 0, 6, .inl f3)), (a4, .inl (kA 0, 12, .inl f4)), (a5, .inl (kA 0, 48, .inl f5)), (a6, .inl (kA 0, 12, .inl f6)), (a7, .inl (kA 1, 12, .inl f7))]) (w1 := (wd_States_isSameAsNew kA a0 a1 v0_1 v0_2 v0_4 x0_3 f1)) hP hD [0, 1] [2, 3, 4, 5, 6, 7] rfl rfl (by decide) (by decide) hk1 hFc hP1 hD1
      have hP := hP.sub (ws' := (wd_States_enter kA a0 a1 a2 a3 a4 a5 a6 a7 v0_1 v0_2 v0_4 v2_4 v2_6 x0_3 f1 f3 f4 f5 f6 f7)) [6, 7, 0, 1, 2, 3, 4, 5] rfl
      have hD := hD.sub (ws' := (wd_States_enter kA a0 a1 a2 a3 a4 a5 a6 a7 v0_1 v0_2 v0_4 v2_4 v2_6 x0_3 f1 f3 f4 f5 f6 f7)) [6, 7, 0, 1, 2, 3, 4, 5] (by decide) rfl
      clear hPc hDc hFc hP1 hK1 hD1
      generalize H1 = H at hP hS ⊢
      refine lv_if_eq (tgt := 45) hx hb d_States_enter_39 (by decide) (fun c_4 => ?_) (fun c_4 => ?_)
      · rw [if_pos c_4] at hF
        refine lv_iinc (v := (l4 + 1)) (lv' := [(4, .int (l4 + 1)), (0, .ref a0), (1, .ref a2), (2, .int l2), (3, .int l3)]) hx hb d_States_enter_45 hl (k := 4) rfl (by rfl) (by decide) rfl (fun ls hl => ?_)
        refine lv_goto (tgt := 24) hx hb d_States_enter_48 (by decide) ?_
        exact ih l2 l3 (l4 + 1) x0_3 f1 hF _ _ _ hP hD hS (lv_sub hl [1, 2, 3, 4, 0] rfl)
      · rw [if_neg c_4] at hF
        refine lv_iload hx hb d_States_enter_42 (lv_at hl 4 rfl) ?_
        have e0 := Option.some.inj hF
        have q0 := Prod.mk.inj e0
        have q1 := Prod.mk.inj q0.2
        exact W.iret (v := l4) hx hb hr (fun t ht hW => ⟨⟨l4, (), rfl, q0.1, by rw [ht, ← q1.1, ← q1.2]; exact hP, va_K.moved hW.alike hK, (by rw [← q1.1, ← q1.2]; exact hD)⟩, hS.F ht⟩) hS.2.2 d_States_enter_44 hlocks
def S_States_enter (p2 : Int32) (p3 : Int32) (x0_3 : Int32) (f1 : (Nat → Int32)) (f3 : (Nat → Int32)) (f4 : (Nat → Int32)) (f5 : (Nat → Int32)) (f6 : (Nat → Int32)) (f7 : (Nat → Int32)) : Option (Int32 × Int32 × (Nat → Int32)) := ((S_States_moveBehind p2 p3 x0_3 f1 f5 f6).bind fun u_5 => (if ¬ u_5.1 = 0 then ((S_States_close x0_3 u_5.2 f3 f4 f5 f6 f7).bind fun u_7 => (F_States_enter f3 f4 f5 f6 f7 fuel_ 0 p2 p3 0 x0_3 u_7)) else (some ((-1), x0_3, u_5.2))))
set_option maxHeartbeats 4000000 in
set_option maxRecDepth 100000 in
theorem c_States_enter (l : Launch) (dC : Nat → ClassId) (dI : Nat → Nat → Nat) (kA : Nat → ClassId) (sz : Nat) (a0 a1 a2 a3 a4 a5 a6 a7 : Nat) (v0_1 v0_2 v0_4 v2_4 v2_6 : Value) (p2 : Int32) (p3 : Int32) (x0_3 : Int32) (f1 : (Nat → Int32)) (f3 : (Nat → Int32)) (f4 : (Nat → Int32)) (f5 : (Nat → Int32)) (f6 : (Nat → Int32)) (f7 : (Nat → Int32)) (r : Int32) (ox0_3 : Int32) (of1 : (Nat → Int32)) (hF : S_States_enter p2 p3 x0_3 f1 f3 f4 f5 f6 f7 = some (r, ox0_3, of1)) : Met l y_States_enter w_States_enter rm_States_enter (va_Pc [.ref a0, .ref a2, .int p2, .int p3] (fun U => U.heap.size = sz ∧ va_P (dC, dI) classes (wd_States_enter kA a0 a1 a2 a3 a4 a5 a6 a7 v0_1 v0_2 v0_4 v2_4 v2_6 x0_3 f1 f3 f4 f5 f6 f7) U.heap ∧ va_K (dC, dI) classes (tys_ kA) U ∧ va_D (fun _ => True) (wd_States_enter kA a0 a1 a2 a3 a4 a5 a6 a7 v0_1 v0_2 v0_4 v2_4 v2_6 x0_3 f1 f3 f4 f5 f6 f7))) (va_Qi (fun (r1 : Int32) (_ : Unit) => r1 = r) (fun _ t => va_P (dC, dI) classes (wd_States_enter kA a0 a1 a2 a3 a4 a5 a6 a7 v0_1 v0_2 v0_4 v2_4 v2_6 ox0_3 of1 f3 f4 f5 f6 f7) t.heap ∧ va_K (dC, dI) classes (tys_ kA) t ∧ va_D (va_A (wd_States_enter kA a0 a1 a2 a3 a4 a5 a6 a7 v0_1 v0_2 v0_4 v2_4 v2_6 x0_3 f1 f3 f4 f5 f6 f7) sz) (wd_States_enter kA a0 a1 a2 a3 a4 a5 a6 a7 v0_1 v0_2 v0_4 v2_4 v2_6 ox0_3 of1 f3 f4 f5 f6 f7)) (va_A (wd_States_enter kA a0 a1 a2 a3 a4 a5 a6 a7 v0_1 v0_2 v0_4 v2_4 v2_6 x0_3 f1 f3 f4 f5 f6 f7) sz)) 0 0 (va_A (wd_States_enter kA a0 a1 a2 a3 a4 a5 a6 a7 v0_1 v0_2 v0_4 v2_4 v2_6 x0_3 f1 f3 f4 f5 f6 f7) sz) := by
  refine Met.ofW (cc := b_States_enter) (maxL := 5) (ret := some .int) (by decide) rfl ?_
  intro p e s m args below meth c s₁ B hml hv
  obtain ⟨rfl, hsz, hP, hK, hD0⟩ := hv
  have hx := B.exec
  have hb := B.bytes
  have hr := B.returns
  have hts := atoms_spec (ws := w_States_enter) B.pre
  have hown : s.vm.findClass R_States = some m.cls := findClass_of_methodNamed B.named
  have hg := fun (w : Cond) (h : w ∈ gw) => hts w (List.mem_cons_of_mem _ h)
  have hlocks := B.notSynchronized
  subst hsz
  have hD := hD0.self (sz := s.heap.size)
  generalize hAe : va_A (wd_States_enter kA a0 a1 a2 a3 a4 a5 a6 a7 v0_1 v0_2 v0_4 v2_4 v2_6 x0_3 f1 f3 f4 f5 f6 f7) s.heap.size = A at hD ⊢
  have hA : ∀ q : Nat, s.heap.size ≤ q → A q := fun q h => by rw [← hAe]; exact Or.inr h
  have hS : va_S A s.heap s.heap [] := va_S.rf
  have hl := lv_entry ([.ref a0, .ref a2, .int p2, .int p3]) (n := 5) (Nat.le_of_ble_eq_true rfl)
  rw [lg_entry_eq]
  generalize (lg_sl ([.ref a0, .ref a2, .int p2, .int p3]) ++ List.replicate (5 - (lg_sl ([.ref a0, .ref a2, .int p2, .int p3])).length) Slot.unset).toArray = ls at hl ⊢
  have hl : lv_has ls 5 [(0, .ref a0), (1, .ref a2), (2, .int p2), (3, .int p3)] := hl
  unfold S_States_enter at hF
  have ih := L_States_enter (l := l) (e := e) (below := below) hx hb hr hlocks hml hown hts hA hK a0 a1 a2 a3 a4 a5 a6 a7 v0_1 v0_2 v0_4 v2_4 v2_6 f3 f4 f5 f6 f7 r ox0_3 of1 fuel_
  refine lv_aload_n hx hb d_States_enter_0 rfl (lv_at hl 0 rfl) ?_
  refine lv_aload_n hx hb d_States_enter_1 rfl (lv_at hl 1 rfl) ?_
  refine lv_iload_n hx hb d_States_enter_2 rfl (lv_at hl 2 rfl) ?_
  refine lv_iload_n hx hb d_States_enter_3 rfl (lv_at hl 3 rfl) ?_
  obtain ⟨u_5, hS_5, hF⟩ := rd_bind hF
  have hPc := hP.sub (ws' := (wd_States_moveBehind kA a0 a1 a2 a5 a6 v0_1 v0_2 v0_4 (.ref a4) (.ref a7) v2_4 (.ref a3) v2_6 x0_3 f1 f5 f6)) [0, 1, 2, 5, 6] rfl
  have hDc := hD.sub (ws' := (wd_States_moveBehind kA a0 a1 a2 a5 a6 v0_1 v0_2 v0_4 (.ref a4) (.ref a7) v2_4 (.ref a3) v2_6 x0_3 f1 f5 f6)) [0, 1, 2, 5, 6] (by decide) rfl
  have hFc := va_free (wc := (wd_States_moveBehind kA a0 a1 a2 a5 a6 v0_1 v0_2 v0_4 (.ref a4) (.ref a7) v2_4 (.ref a3) v2_6 x0_3 f1 f5 f6)) hD hS hA [0, 1, 2, 5, 6] rfl
  refine va_calli (va_runV (As := [.ref a2, .int p2, .int p3]) (rest := []) ⟨hx, hb, hml, hown, hts⟩ (c_States_moveBehind l dC dI kA s.heap.size a0 a1 a2 a5 a6 v0_1 v0_2 v0_4 (.ref a4) (.ref a7) v2_4 (.ref a3) v2_6 p2 p3 x0_3 f1 f5 f6 u_5.1 u_5.2 hS_5) (cwV 3 hts (gw_V gw_209 gw_210 gw_211 gw_91 gw_212) rfl rfl rfl (by decide +kernel) ⟨Nat.le_of_ble_eq_true rfl, Nat.le_of_ble_eq_true rfl⟩) ⟨fun a U g mk q => by obtain ⟨q0, q1, qP, qK, qD⟩ := q; exact ⟨q0, q1, qP, va_K.moved (u := U) (U := U.calling g mk a) (Vm.Alike.refl U.vm) qK, qD⟩, va_recv hK hP (ci := 6) (q0 := 0) rfl rfl, fun U hU hW => ⟨rfl, by rw [hU], by rw [hU]; exact hPc, va_K.moved hW.alike hK, hDc.weaken (fun _ _ _ _ => trivial)⟩⟩ rfl rfl hl.1 rfl (lv_room (Nat.le_of_ble_eq_true rfl)) d_States_enter_4 ⟨Nat.zero_le _, Nat.zero_le _⟩) hS (fun q _ h => hFc q h) hFc (fun r1 u t H1 locs ht hvm hw hB hz1 hk1 hS => ?_)
  rw [show r1 = _ from hw]
  obtain ⟨hP1, hK1, hD1⟩ := hB
  rw [ht] at hP1
  obtain ⟨hP, hD⟩ := va_join (wr := [(a3, .inl (kA 0, 6, .inl f3)), (a4, .inl (kA 0, 12, .inl f4)), (a7, .inl (kA 1, 12, .inl f7))]) (w1 := (wd_States_moveBehind kA a0 a1 a2 a5 a6 v0_1 v0_2 v0_4 (.ref a4) (.ref a7) v2_4 (.ref a3) v2_6 x0_3 u_5.2 f5 f6)) hP hD [0, 1, 2, 5, 6] [3, 4, 7] rfl rfl (by decide) (by decide) hk1 hFc hP1 hD1
  have hP := hP.sub (ws' := (wd_States_enter kA a0 a1 a2 a3 a4 a5 a6 a7 v0_1 v0_2 v0_4 v2_4 v2_6 x0_3 u_5.2 f3 f4 f5 f6 f7)) [3, 4, 5, 0, 1, 6, 7, 2] rfl
  have hD := hD.sub (ws' := (wd_States_enter kA a0 a1 a2 a3 a4 a5 a6 a7 v0_1 v0_2 v0_4 v2_4 v2_6 x0_3 u_5.2 f3 f4 f5 f6 f7)) [3, 4, 5, 0, 1, 6, 7, 2] (by decide) rfl
  clear hPc hDc hFc hP1 hK1 hD1
  generalize H1 = H at hP hS ⊢
  refine lv_if_ne (tgt := 12) hx hb d_States_enter_7 (by decide) (fun c_6 => ?_) (fun c_6 => ?_)
  · rw [if_pos c_6] at hF
    refine lv_aload_n hx hb d_States_enter_12 rfl (lv_at hl 0 rfl) ?_
    refine lv_aload_n hx hb d_States_enter_13 rfl (lv_at hl 1 rfl) ?_
    refine lv_aload_n hx hb d_States_enter_14 rfl (lv_at hl 0 rfl) ?_
    refine va_get (D := (dC, dI)) (ci := 6) (v := .int x0_3) (C := R_States) (T := F_States) (N := 5) hx hb hg iw_States hown hK hP 0 rfl rfl 3 (by decide) (hg _ gw_79) (fun _ h9 => h9) rfl d_States_enter_15 ?_
    obtain ⟨u_7, hS_7, hF⟩ := rd_bind hF
    have hPc := hP.sub (ws' := (wd_States_close kA a0 a1 a2 a3 a4 a5 a6 a7 v0_1 v0_2 (.int x0_3) v0_4 v2_4 v2_6 u_5.2 f3 f4 f5 f6 f7)) [0, 1, 2, 3, 4, 5, 6, 7] rfl
    have hDc := hD.sub (ws' := (wd_States_close kA a0 a1 a2 a3 a4 a5 a6 a7 v0_1 v0_2 (.int x0_3) v0_4 v2_4 v2_6 u_5.2 f3 f4 f5 f6 f7)) [0, 1, 2, 3, 4, 5, 6, 7] (by decide) rfl
    have hFc := va_free (wc := (wd_States_close kA a0 a1 a2 a3 a4 a5 a6 a7 v0_1 v0_2 (.int x0_3) v0_4 v2_4 v2_6 u_5.2 f3 f4 f5 f6 f7)) hD hS hA [0, 1, 2, 3, 4, 5, 6, 7] rfl
    refine va_callv (va_runV (As := [.ref a2, .int x0_3]) (rest := []) ⟨hx, hb, hml, hown, hts⟩ (c_States_close l dC dI kA H.size a0 a1 a2 a3 a4 a5 a6 a7 v0_1 v0_2 (.int x0_3) v0_4 v2_4 v2_6 x0_3 u_5.2 f3 f4 f5 f6 f7 u_7 hS_7) (cwV 2 hts (gw_V gw_213 gw_214 gw_215 gw_91 gw_216) rfl rfl rfl (by decide +kernel) ⟨Nat.le_of_ble_eq_true rfl, Nat.le_of_ble_eq_true rfl⟩) ⟨fun a U g mk q => by obtain ⟨q0, q1, qP, qK, qD⟩ := q; exact ⟨q0, q1, qP, va_K.moved (u := U) (U := U.calling g mk a) (Vm.Alike.refl U.vm) qK, qD⟩, va_recv hK hP (ci := 6) (q0 := 0) rfl rfl, fun U hU hW => ⟨rfl, by rw [hU], by rw [hU]; exact hPc, va_K.moved hW.alike hK, hDc.weaken (fun _ _ _ _ => trivial)⟩⟩ rfl rfl hl.1 rfl (lv_room (Nat.le_of_ble_eq_true rfl)) d_States_enter_18 ⟨Nat.zero_le _, Nat.zero_le _⟩) hS (fun q _ h => hFc q h) hFc (fun u t H1 locs ht hvm hw hB hz1 hk1 hS => ?_)
    obtain ⟨hP1, hK1, hD1⟩ := hB
    rw [ht] at hP1
    obtain ⟨hP, hD⟩ := va_join (wr := []) (w1 := (wd_States_close kA a0 a1 a2 a3 a4 a5 a6 a7 v0_1 v0_2 (.int x0_3) v0_4 v2_4 v2_6 u_7 f3 f4 f5 f6 f7)) hP hD [0, 1, 2, 3, 4, 5, 6, 7] [] rfl rfl (by decide) (by decide) hk1 hFc hP1 hD1
    have hP := hP.sub (ws' := (wd_States_enter kA a0 a1 a2 a3 a4 a5 a6 a7 v0_1 v0_2 v0_4 v2_4 v2_6 x0_3 u_7 f3 f4 f5 f6 f7)) [0, 1, 2, 3, 4, 5, 6, 7] rfl
    have hD := hD.sub (ws' := (wd_States_enter kA a0 a1 a2 a3 a4 a5 a6 a7 v0_1 v0_2 v0_4 v2_4 v2_6 x0_3 u_7 f3 f4 f5 f6 f7)) [0, 1, 2, 3, 4, 5, 6, 7] (by decide) rfl
    clear hPc hDc hFc hP1 hK1 hD1
    generalize H1 = H at hP hS ⊢
    refine lv_iconst (v := 0) hx hb d_States_enter_21 (by decide) ?_
    refine lv_istore (lv' := [(4, .int 0), (0, .ref a0), (1, .ref a2), (2, .int p2), (3, .int p3)]) hx hb d_States_enter_22 hl (by decide) rfl (fun ls hl => ?_)
    exact ih p2 p3 0 x0_3 u_7 hF _ _ _ hP hD hS (lv_sub hl [1, 2, 3, 4, 0] rfl)
  · rw [if_neg (fun z => z c_6)] at hF
    refine lv_iconst (v := (-1)) hx hb d_States_enter_10 (by decide) ?_
    have e0 := Option.some.inj hF
    have q0 := Prod.mk.inj e0
    have q1 := Prod.mk.inj q0.2
    exact W.iret (v := (-1)) hx hb hr (fun t ht hW => ⟨⟨(-1), (), rfl, q0.1, by rw [ht, ← q1.1, ← q1.2]; exact hP, va_K.moved hW.alike hK, (by rw [← q1.1, ← q1.2]; exact hD)⟩, hS.F ht⟩) hS.2.2 d_States_enter_11 hlocks
-- ===== RepairDesk$States.makeTargets(LRepairDesk$Grammar;)Z
abbrev wd_States_makeTargets (kA : Nat → ClassId) (a0 a1 a2 a3 a4 a5 a6 a7 a8 : Nat) (v0_2 v0_4 v3_4 v3_6 : Value) (x0_3 : Int32) (f1 : (Nat → Int32)) (f2 : (Nat → Int32)) (f4 : (Nat → Int32)) (f5 : (Nat → Int32)) (f6 : (Nat → Int32)) (f7 : (Nat → Int32)) (f8 : (Nat → Int32)) : va_W := [(a0, .inr (6, [.ref a1, .ref a2, v0_2, .int x0_3, v0_4])), (a1, .inl (kA 0, 2255, .inl f1)), (a2, .inl (kA 0, 480, .inl f2)), (a3, .inr (2, [.ref a5, .ref a7, .ref a6, .ref a8, v3_4, .ref a4, v3_6])), (a4, .inl (kA 0, 6, .inl f4)), (a5, .inl (kA 0, 12, .inl f5)), (a6, .inl (kA 0, 48, .inl f6)), (a7, .inl (kA 0, 12, .inl f7)), (a8, .inl (kA 1, 12, .inl f8))]
abbrev rm_States_makeTargets : Room := { frames := 5, cells := 0, slots := 0, locals := 122 }
def B_States_makeTargets_0 (K : Nat → Int32 → Int32 → Int32 → (Nat → Int32) → (Nat → Int32) → Option (Int32 × Int32 × (Nat → Int32) × (Nat → Int32))) (f4 : (Nat → Int32)) (f5 : (Nat → Int32)) (f6 : (Nat → Int32)) (f7 : (Nat → Int32)) (f8 : (Nat → Int32)) (l2 : Int32) (l3 : Int32) (x0_3 : Int32) (f1 : (Nat → Int32)) (f2 : (Nat → Int32)) : Option (Int32 × Int32 × (Nat → Int32) × (Nat → Int32)) := (if x0_3 ≤ l2 then (some (1, x0_3, f1, f2)) else (if 40 ≤ l2 then (some (1, x0_3, f1, f2)) else (K 1 l2 0 x0_3 f1 f2)))
def B_States_makeTargets_1 (K : Nat → Int32 → Int32 → Int32 → (Nat → Int32) → (Nat → Int32) → Option (Int32 × Int32 × (Nat → Int32) × (Nat → Int32))) (f4 : (Nat → Int32)) (f5 : (Nat → Int32)) (f6 : (Nat → Int32)) (f7 : (Nat → Int32)) (f8 : (Nat → Int32)) (l2 : Int32) (l3 : Int32) (x0_3 : Int32) (f1 : (Nat → Int32)) (f2 : (Nat → Int32)) : Option (Int32 × Int32 × (Nat → Int32) × (Nat → Int32)) := (if 12 ≤ l3 then (K 0 (l2 + 1) 0 x0_3 f1 f2) else ((S_States_enter l2 l3 x0_3 f1 f4 f5 f6 f7 f8).bind fun u_4 => (if ¬ u_4.1 = 40 then (if (((l2 * 12) + l3) : Int32) < 0 ∨ 480 ≤ (Int32.toNatClampNeg ((l2 * 12) + l3)) then none else (K 1 l2 (l3 + 1) u_4.2.1 u_4.2.2 (upd f2 (Int32.toNatClampNeg ((l2 * 12) + l3)) u_4.1))) else (some (0, u_4.2.1, u_4.2.2, f2)))))
def F_States_makeTargets (f4 : (Nat → Int32)) (f5 : (Nat → Int32)) (f6 : (Nat → Int32)) (f7 : (Nat → Int32)) (f8 : (Nat → Int32)) : Nat → Nat → Int32 → Int32 → Int32 → (Nat → Int32) → (Nat → Int32) → Option (Int32 × Int32 × (Nat → Int32) × (Nat → Int32))
  | 0 => fun _ _ _ _ _ _ => none
  | n + 1 => fun hd l2 l3 x0_3 f1 f2 => match hd with
    | 0 => B_States_makeTargets_0 (F_States_makeTargets f4 f5 f6 f7 f8 n) f4 f5 f6 f7 f8 l2 l3 x0_3 f1 f2
    | 1 => B_States_makeTargets_1 (F_States_makeTargets f4 f5 f6 f7 f8 n) f4 f5 f6 f7 f8 l2 l3 x0_3 f1 f2
    | _ => none
set_option maxHeartbeats 4000000 in
set_option maxRecDepth 100000 in
theorem L_States_makeTargets {p : Program} {l : Launch} {e : Env} {s : State} {m : MethodId} {args : Array Value} {below : List Frame} {meth : Method} {c : Code} {A : Nat → Prop} {dC : Nat → ClassId} {dI : Nat → Nat → Nat} {kA : Nat → ClassId} (hx : p.tables.exec = Jvm.exec) (hb : c.code = b_States_makeTargets) (hr : meth.sig.returnType = some .boolean) (hlocks : meth.locks = false) (hml : c.maxLocals = 5) (hown : s.vm.findClass R_States = some m.cls) (hts : ∀ w ∈ w_States_makeTargets, w.before args s = true) (hA : ∀ q : Nat, s.heap.size ≤ q → A q) (hK : va_K (dC, dI) classes (tys_ kA) s) (a0 a1 a2 a3 a4 a5 a6 a7 a8 : Nat) (v0_2 v0_4 v3_4 v3_6 : Value) (f4 : (Nat → Int32)) (f5 : (Nat → Int32)) (f6 : (Nat → Int32)) (f7 : (Nat → Int32)) (f8 : (Nat → Int32)) (r : Int32) (ox0_3 : Int32) (of1 : (Nat → Int32)) (of2 : (Nat → Int32)) : ∀ n : Nat, (∀ (l2 l3 : Int32) (x0_3 : Int32) (f1 : (Nat → Int32)) (f2 : (Nat → Int32)), F_States_makeTargets f4 f5 f6 f7 f8 n 0 l2 l3 x0_3 f1 f2 = some (r, ox0_3, of1, of2) → ∀ (H : Heap) (locs : List Loc) (ls : Array Slot), va_P (dC, dI) classes (wd_States_makeTargets kA a0 a1 a2 a3 a4 a5 a6 a7 a8 v0_2 v0_4 v3_4 v3_6 x0_3 f1 f2 f4 f5 f6 f7 f8) H → va_D A (wd_States_makeTargets kA a0 a1 a2 a3 a4 a5 a6 a7 a8 v0_2 v0_4 v3_4 v3_6 x0_3 f1 f2 f4 f5 f6 f7 f8) → va_S A s.heap H locs → lv_has ls 5 [(0, .ref a0), (1, .ref a3), (2, .int l2)] → W p l e (headSpec w_States_makeTargets rm_States_makeTargets).room s m args below meth c H locs 0 0 (MQ below (va_Qi (fun (r1 : Int32) (_ : Unit) => r1 = r) (fun _ t => va_P (dC, dI) classes (wd_States_makeTargets kA a0 a1 a2 a3 a4 a5 a6 a7 a8 v0_2 v0_4 v3_4 v3_6 ox0_3 of1 of2 f4 f5 f6 f7 f8) t.heap ∧ va_K (dC, dI) classes (tys_ kA) t ∧ va_D A (wd_States_makeTargets kA a0 a1 a2 a3 a4 a5 a6 a7 a8 v0_2 v0_4 v3_4 v3_6 ox0_3 of1 of2 f4 f5 f6 f7 f8)) A) args s 0 0 A) (F0 m 2 ls [])) ∧ (∀ (l2 l3 : Int32) (x0_3 : Int32) (f1 : (Nat → Int32)) (f2 : (Nat → Int32)), F_States_makeTargets f4 f5 f6 f7 f8 n 1 l2 l3 x0_3 f1 f2 = some (r, ox0_3, of1, of2) → ∀ (H : Heap) (locs : List Loc) (ls : Array Slot), va_P (dC, dI) classes (wd_States_makeTargets kA a0 a1 a2 a3 a4 a5 a6 a7 a8 v0_2 v0_4 v3_4 v3_6 x0_3 f1 f2 f4 f5 f6 f7 f8) H → va_D A (wd_States_makeTargets kA a0 a1 a2 a3 a4 a5 a6 a7 a8 v0_2 v0_4 v3_4 v3_6 x0_3 f1 f2 f4 f5 f6 f7 f8) → va_S A s.heap H locs → lv_has ls 5 [(0, .ref a0), (1, .ref a3), (2, .int l2), (3, .int l3)] → W p l e (headSpec w_States_makeTargets rm_States_makeTargets).room s m args below meth c H locs 0 0 (MQ below (va_Qi (fun (r1 : Int32) (_ : Unit) => r1 = r) (fun _ t => va_P (dC, dI) classes (wd_States_makeTargets kA a0 a1 a2 a3 a4 a5 a6 a7 a8 v0_2 v0_4 v3_4 v3_6 ox0_3 of1 of2 f4 f5 f6 f7 f8) t.heap ∧ va_K (dC, dI) classes (tys_ kA) t ∧ va_D A (wd_States_makeTargets kA a0 a1 a2 a3 a4 a5 a6 a7 a8 v0_2 v0_4 v3_4 v3_6 ox0_3 of1 of2 f4 f5 f6 f7 f8)) A) args s 0 0 A) (F0 m 18 ls [])) := by
  have hg := fun (w : Cond) (h : w ∈ gw) => hts w (List.mem_cons_of_mem _ h)
  intro n
  induction n with
  | zero =>
    exact ⟨fun _ _ _ _ _ hF => absurd (show (none : Option _) = some _ from hF) (fun z => by cases z), fun _ _ _ _ _ hF => absurd (show (none : Option _) = some _ from hF) (fun z => by cases z)⟩
  | succ n ih =>
    refine ⟨?_, ?_⟩
    · intro l2 l3 x0_3 f1 f2 hF H locs ls hP hD hS hl
      have hF : B_States_makeTargets_0 (F_States_makeTargets f4 f5 f6 f7 f8 n) f4 f5 f6 f7 f8 l2 l3 x0_3 f1 f2 = some (r, ox0_3, of1, of2) := hF
      unfold B_States_makeTargets_0 at hF
      refine lv_iload_n hx hb d_States_makeTargets_2 rfl (lv_at hl 2 rfl) ?_
      refine lv_aload_n hx hb d_States_makeTargets_3 rfl (lv_at hl 0 rfl) ?_
      refine va_get (D := (dC, dI)) (ci := 6) (v := .int x0_3) (C := R_States) (T := F_States) (N := 5) hx hb hg iw_States hown hK hP 0 rfl rfl 3 (by decide) (hg _ gw_79) (fun _ h9 => h9) rfl d_States_makeTargets_4 ?_
      refine lv_icmp_ge (tgt := 67) hx hb d_States_makeTargets_7 (by decide) (fun c_1 => ?_) (fun c_1 => ?_)
      · rw [if_pos c_1] at hF
        refine lv_iconst (v := 1) hx hb d_States_makeTargets_67 (by decide) ?_
        have e0 := Option.some.inj hF
        have q0 := Prod.mk.inj e0
        have q1 := Prod.mk.inj q0.2
        have q2 := Prod.mk.inj q1.2
        exact W.zret (v := 1) hx hb hr rfl (fun t ht hW => ⟨⟨1, (), rfl, q0.1, by rw [ht, ← q1.1, ← q2.1, ← q2.2]; exact hP, va_K.moved hW.alike hK, (by rw [← q1.1, ← q2.1, ← q2.2]; exact hD)⟩, hS.F ht⟩) hS.2.2 d_States_makeTargets_68 hlocks
      · rw [if_neg c_1] at hF
        refine lv_iload_n hx hb d_States_makeTargets_10 rfl (lv_at hl 2 rfl) ?_
        refine lv_bipush (v := 40) hx hb d_States_makeTargets_11 (by decide) ?_
        refine lv_icmp_ge (tgt := 67) hx hb d_States_makeTargets_13 (by decide) (fun c_2 => ?_) (fun c_2 => ?_)
        · rw [if_pos c_2] at hF
          refine lv_iconst (v := 1) hx hb d_States_makeTargets_67 (by decide) ?_
          have e0 := Option.some.inj hF
          have q0 := Prod.mk.inj e0
          have q1 := Prod.mk.inj q0.2
          have q2 := Prod.mk.inj q1.2
          exact W.zret (v := 1) hx hb hr rfl (fun t ht hW => ⟨⟨1, (), rfl, q0.1, by rw [ht, ← q1.1, ← q2.1, ← q2.2]; exact hP, va_K.moved hW.alike hK, (by rw [← q1.1, ← q2.1, ← q2.2]; exact hD)⟩, hS.F ht⟩) hS.2.2 d_States_makeTargets_68 hlocks
        · rw [if_neg c_2] at hF
          refine lv_iconst (v := 0) hx hb d_States_makeTargets_16 (by decide) ?_
          refine lv_istore_n (lv' := [(3, .int 0), (0, .ref a0), (1, .ref a3), (2, .int l2)]) hx hb d_States_makeTargets_17 rfl hl (by decide) rfl (fun ls hl => ?_)
          exact ih.2 l2 0 x0_3 f1 f2 hF _ _ _ hP hD hS (lv_sub hl [1, 2, 3, 0] rfl)
    · intro l2 l3 x0_3 f1 f2 hF H locs ls hP hD hS hl
      have hF : B_States_makeTargets_1 (F_States_makeTargets f4 f5 f6 f7 f8 n) f4 f5 f6 f7 f8 l2 l3 x0_3 f1 f2 = some (r, ox0_3, of1, of2) := hF
      unfold B_States_makeTargets_1 at hF
      refine lv_iload_n hx hb d_States_makeTargets_18 rfl (lv_at hl 3 rfl) ?_
      refine lv_bipush (v := 12) hx hb d_States_makeTargets_19 (by decide) ?_
      refine lv_icmp_ge (tgt := 61) hx hb d_States_makeTargets_21 (by decide) (fun c_3 => ?_) (fun c_3 => ?_)
      · rw [if_pos c_3] at hF
        refine lv_iinc (v := (l2 + 1)) (lv' := [(2, .int (l2 + 1)), (0, .ref a0), (1, .ref a3), (3, .int l3)]) hx hb d_States_makeTargets_61 hl (k := 2) rfl (by rfl) (by decide) rfl (fun ls hl => ?_)
        refine lv_goto (tgt := 2) hx hb d_States_makeTargets_64 (by decide) ?_
        exact ih.1 (l2 + 1) 0 x0_3 f1 f2 hF _ _ _ hP hD hS (lv_sub hl [1, 2, 0] rfl)
      · rw [if_neg c_3] at hF
        refine lv_aload_n hx hb d_States_makeTargets_24 rfl (lv_at hl 0 rfl) ?_
        refine lv_aload_n hx hb d_States_makeTargets_25 rfl (lv_at hl 1 rfl) ?_
        refine lv_iload_n hx hb d_States_makeTargets_26 rfl (lv_at hl 2 rfl) ?_
        refine lv_iload_n hx hb d_States_makeTargets_27 rfl (lv_at hl 3 rfl) ?_
        obtain ⟨u_4, hS_4, hF⟩ := rd_bind hF
        have hPc := hP.sub (ws' := (wd_States_enter kA a0 a1 a3 a4 a5 a6 a7 a8 (.ref a2) v0_2 v0_4 v3_4 v3_6 x0_3 f1 f4 f5 f6 f7 f8)) [0, 1, 3, 4, 5, 6, 7, 8] rfl
        have hDc := hD.sub (ws' := (wd_States_enter kA a0 a1 a3 a4 a5 a6 a7 a8 (.ref a2) v0_2 v0_4 v3_4 v3_6 x0_3 f1 f4 f5 f6 f7 f8)) [0, 1, 3, 4, 5, 6, 7, 8] (by decide) rfl
        have hFc := va_free (wc := (wd_States_enter kA a0 a1 a3 a4 a5 a6 a7 a8 (.ref a2) v0_2 v0_4 v3_4 v3_6 x0_3 f1 f4 f5 f6 f7 f8)) hD hS hA [0, 1, 3, 4, 5, 6, 7, 8] rfl
        refine va_calli (va_runV (As := [.ref a3, .int l2, .int l3]) (rest := []) ⟨hx, hb, hml, hown, hts⟩ (c_States_enter l dC dI kA H.size a0 a1 a3 a4 a5 a6 a7 a8 (.ref a2) v0_2 v0_4 v3_4 v3_6 l2 l3 x0_3 f1 f4 f5 f6 f7 f8 u_4.1 u_4.2.1 u_4.2.2 hS_4) (cwV 3 hts (gw_V gw_217 gw_218 gw_219 gw_91 gw_220) rfl rfl rfl (by decide +kernel) ⟨Nat.le_of_ble_eq_true rfl, Nat.le_of_ble_eq_true rfl⟩) ⟨fun a U g mk q => by obtain ⟨q0, q1, qP, qK, qD⟩ := q; exact ⟨q0, q1, qP, va_K.moved (u := U) (U := U.calling g mk a) (Vm.Alike.refl U.vm) qK, qD⟩, va_recv hK hP (ci := 6) (q0 := 0) rfl rfl, fun U hU hW => ⟨rfl, by rw [hU], by rw [hU]; exact hPc, va_K.moved hW.alike hK, hDc.weaken (fun _ _ _ _ => trivial)⟩⟩ rfl rfl hl.1 rfl (lv_room (Nat.le_of_ble_eq_true rfl)) d_States_makeTargets_28 ⟨Nat.zero_le _, Nat.zero_le _⟩) hS (fun q _ h => hFc q h) hFc (fun r1 u t H1 locs ht hvm hw hB hz1 hk1 hS => ?_)
        rw [show r1 = _ from hw]
        obtain ⟨hP1, hK1, hD1⟩ := hB
        rw [ht] at hP1
        obtain ⟨hP, hD⟩ := va_join (wr := [(a2, .inl (kA 0, 480, .inl f2))]) (w1 := (wd_States_enter kA a0 a1 a3 a4 a5 a6 a7 a8 (.ref a2) v0_2 v0_4 v3_4 v3_6 u_4.2.1 u_4.2.2 f4 f5 f6 f7 f8)) hP hD [0, 1, 3, 4, 5, 6, 7, 8] [2] rfl rfl (by decide) (by decide) hk1 hFc hP1 hD1
        have hP := hP.sub (ws' := (wd_States_makeTargets kA a0 a1 a2 a3 a4 a5 a6 a7 a8 v0_2 v0_4 v3_4 v3_6 u_4.2.1 u_4.2.2 f2 f4 f5 f6 f7 f8)) [1, 2, 0, 3, 4, 5, 6, 7, 8] rfl
        have hD := hD.sub (ws' := (wd_States_makeTargets kA a0 a1 a2 a3 a4 a5 a6 a7 a8 v0_2 v0_4 v3_4 v3_6 u_4.2.1 u_4.2.2 f2 f4 f5 f6 f7 f8)) [1, 2, 0, 3, 4, 5, 6, 7, 8] (by decide) rfl
        clear hPc hDc hFc hP1 hK1 hD1
        generalize H1 = H at hP hS ⊢
        refine lv_istore (lv' := [(4, .int u_4.1), (0, .ref a0), (1, .ref a3), (2, .int l2), (3, .int l3)]) hx hb d_States_makeTargets_31 hl (by decide) rfl (fun ls hl => ?_)
        refine lv_iload hx hb d_States_makeTargets_33 (lv_at hl 0 rfl) ?_
        refine lv_bipush (v := 40) hx hb d_States_makeTargets_35 (by decide) ?_
        refine lv_icmp_ne (tgt := 42) hx hb d_States_makeTargets_37 (by decide) (fun c_5 => ?_) (fun c_5 => ?_)
        · rw [if_pos c_5] at hF
          refine lv_aload_n hx hb d_States_makeTargets_42 rfl (lv_at hl 1 rfl) ?_
          refine va_get (D := (dC, dI)) (ci := 6) (v := .ref a2) (C := R_States) (T := F_States) (N := 5) hx hb hg iw_States hown hK hP 0 rfl rfl 1 (by decide) (hg _ gw_81) (fun _ h9 => h9) rfl d_States_makeTargets_43 ?_
          refine lv_iload_n hx hb d_States_makeTargets_46 rfl (lv_at hl 3 rfl) ?_
          refine lv_bipush (v := 12) hx hb d_States_makeTargets_47 (by decide) ?_
          refine lv_imul hx hb d_States_makeTargets_49 ?_
          refine lv_iload_n hx hb d_States_makeTargets_50 rfl (lv_at hl 4 rfl) ?_
          refine lv_iadd hx hb d_States_makeTargets_51 ?_
          refine lv_iload hx hb d_States_makeTargets_52 (lv_at hl 0 rfl) ?_
          obtain ⟨h_6, hF⟩ := rd_chk hF
          refine va_iast hx hb hK hP hD hS 2 0 rfl rfl h_6 d_States_makeTargets_54 (fun H locs hP hD hS => ?_)
          have hP : va_P (dC, dI) classes (wd_States_makeTargets kA a0 a1 a2 a3 a4 a5 a6 a7 a8 v0_2 v0_4 v3_4 v3_6 u_4.2.1 u_4.2.2 (upd f2 (Int32.toNatClampNeg ((l2 * 12) + l3)) u_4.1) f4 f5 f6 f7 f8) H := hP
          have hD : va_D A (wd_States_makeTargets kA a0 a1 a2 a3 a4 a5 a6 a7 a8 v0_2 v0_4 v3_4 v3_6 u_4.2.1 u_4.2.2 (upd f2 (Int32.toNatClampNeg ((l2 * 12) + l3)) u_4.1) f4 f5 f6 f7 f8) := hD
          refine lv_iinc (v := (l3 + 1)) (lv' := [(3, .int (l3 + 1)), (4, .int u_4.1), (0, .ref a0), (1, .ref a3), (2, .int l2)]) hx hb d_States_makeTargets_55 hl (k := 4) rfl (by rfl) (by decide) rfl (fun ls hl => ?_)
          refine lv_goto (tgt := 18) hx hb d_States_makeTargets_58 (by decide) ?_
          exact ih.2 l2 (l3 + 1) u_4.2.1 u_4.2.2 (upd f2 (Int32.toNatClampNeg ((l2 * 12) + l3)) u_4.1) hF _ _ _ hP hD hS (lv_sub hl [2, 3, 4, 0] rfl)
        · rw [if_neg (fun z => z c_5)] at hF
          refine lv_iconst (v := 0) hx hb d_States_makeTargets_40 (by decide) ?_
          have e0 := Option.some.inj hF
          have q0 := Prod.mk.inj e0
          have q1 := Prod.mk.inj q0.2
          have q2 := Prod.mk.inj q1.2
          exact W.zret (v := 0) hx hb hr rfl (fun t ht hW => ⟨⟨0, (), rfl, q0.1, by rw [ht, ← q1.1, ← q2.1, ← q2.2]; exact hP, va_K.moved hW.alike hK, (by rw [← q1.1, ← q2.1, ← q2.2]; exact hD)⟩, hS.F ht⟩) hS.2.2 d_States_makeTargets_41 hlocks
def S_States_makeTargets (x0_3 : Int32) (f1 : (Nat → Int32)) (f2 : (Nat → Int32)) (f4 : (Nat → Int32)) (f5 : (Nat → Int32)) (f6 : (Nat → Int32)) (f7 : (Nat → Int32)) (f8 : (Nat → Int32)) : Option (Int32 × Int32 × (Nat → Int32) × (Nat → Int32)) := (F_States_makeTargets f4 f5 f6 f7 f8 fuel_ 0 0 0 x0_3 f1 f2)
set_option maxHeartbeats 4000000 in
set_option maxRecDepth 100000 in
theorem c_States_makeTargets (l : Launch) (dC : Nat → ClassId) (dI : Nat → Nat → Nat) (kA : Nat → ClassId) (sz : Nat) (a0 a1 a2 a3 a4 a5 a6 a7 a8 : Nat) (v0_2 v0_4 v3_4 v3_6 : Value) (x0_3 : Int32) (f1 : (Nat → Int32)) (f2 : (Nat → Int32)) (f4 : (Nat → Int32)) (f5 : (Nat → Int32)) (f6 : (Nat → Int32)) (f7 : (Nat → Int32)) (f8 : (Nat → Int32)) (r : Int32) (ox0_3 : Int32) (of1 : (Nat → Int32)) (of2 : (Nat → Int32)) (hF : S_States_makeTargets x0_3 f1 f2 f4 f5 f6 f7 f8 = some (r, ox0_3, of1, of2)) : Met l y_States_makeTargets w_States_makeTargets rm_States_makeTargets (va_Pc [.ref a0, .ref a3] (fun U => U.heap.size = sz ∧ va_P (dC, dI) classes (wd_States_makeTargets kA a0 a1 a2 a3 a4 a5 a6 a7 a8 v0_2 v0_4 v3_4 v3_6 x0_3 f1 f2 f4 f5 f6 f7 f8) U.heap ∧ va_K (dC, dI) classes (tys_ kA) U ∧ va_D (fun _ => True) (wd_States_makeTargets kA a0 a1 a2 a3 a4 a5 a6 a7 a8 v0_2 v0_4 v3_4 v3_6 x0_3 f1 f2 f4 f5 f6 f7 f8))) (va_Qi (fun (r1 : Int32) (_ : Unit) => r1 = r) (fun _ t => va_P (dC, dI) classes (wd_States_makeTargets kA a0 a1 a2 a3 a4 a5 a6 a7 a8 v0_2 v0_4 v3_4 v3_6 ox0_3 of1 of2 f4 f5 f6 f7 f8) t.heap ∧ va_K (dC, dI) classes (tys_ kA) t ∧ va_D (va_A (wd_States_makeTargets kA a0 a1 a2 a3 a4 a5 a6 a7 a8 v0_2 v0_4 v3_4 v3_6 x0_3 f1 f2 f4 f5 f6 f7 f8) sz) (wd_States_makeTargets kA a0 a1 a2 a3 a4 a5 a6 a7 a8 v0_2 v0_4 v3_4 v3_6 ox0_3 of1 of2 f4 f5 f6 f7 f8)) (va_A (wd_States_makeTargets kA a0 a1 a2 a3 a4 a5 a6 a7 a8 v0_2 v0_4 v3_4 v3_6 x0_3 f1 f2 f4 f5 f6 f7 f8) sz)) 0 0 (va_A (wd_States_makeTargets kA a0 a1 a2 a3 a4 a5 a6 a7 a8 v0_2 v0_4 v3_4 v3_6 x0_3 f1 f2 f4 f5 f6 f7 f8) sz) := by
  refine Met.ofW (cc := b_States_makeTargets) (maxL := 5) (ret := some .boolean) (by decide) rfl ?_
  intro p e s m args below meth c s₁ B hml hv
  obtain ⟨rfl, hsz, hP, hK, hD0⟩ := hv
  have hx := B.exec
  have hb := B.bytes
  have hr := B.returns
  have hts := atoms_spec (ws := w_States_makeTargets) B.pre
  have hown : s.vm.findClass R_States = some m.cls := findClass_of_methodNamed B.named
  have hg := fun (w : Cond) (h : w ∈ gw) => hts w (List.mem_cons_of_mem _ h)
  have hlocks := B.notSynchronized
  subst hsz
  have hD := hD0.self (sz := s.heap.size)
  generalize hAe : va_A (wd_States_makeTargets kA a0 a1 a2 a3 a4 a5 a6 a7 a8 v0_2 v0_4 v3_4 v3_6 x0_3 f1 f2 f4 f5 f6 f7 f8) s.heap.size = A at hD ⊢
  have hA : ∀ q : Nat, s.heap.size ≤ q → A q := fun q h => by rw [← hAe]; exact Or.inr h
  have hS : va_S A s.heap s.heap [] := va_S.rf
  have hl := lv_entry ([.ref a0, .ref a3]) (n := 5) (Nat.le_of_ble_eq_true rfl)
  rw [lg_entry_eq]
  generalize (lg_sl ([.ref a0, .ref a3]) ++ List.replicate (5 - (lg_sl ([.ref a0, .ref a3])).length) Slot.unset).toArray = ls at hl ⊢
  have hl : lv_has ls 5 [(0, .ref a0), (1, .ref a3)] := hl
  unfold S_States_makeTargets at hF
  have ih := L_States_makeTargets (l := l) (e := e) (below := below) hx hb hr hlocks hml hown hts hA hK a0 a1 a2 a3 a4 a5 a6 a7 a8 v0_2 v0_4 v3_4 v3_6 f4 f5 f6 f7 f8 r ox0_3 of1 of2 fuel_
  refine lv_iconst (v := 0) hx hb d_States_makeTargets_0 (by decide) ?_
  refine lv_istore_n (lv' := [(2, .int 0), (0, .ref a0), (1, .ref a3)]) hx hb d_States_makeTargets_1 rfl hl (by decide) rfl (fun ls hl => ?_)
  exact ih.1 0 0 x0_3 f1 f2 hF _ _ _ hP hD hS (lv_sub hl [1, 2, 0] rfl)
-- ===== RepairDesk$States.reduceAtEnd(III)Z
abbrev wd_States_reduceAtEnd (kA : Nat → ClassId) (a0 a1 a2 a3 : Nat) (v0_4 : Value) (x0_3 : Int32) (f1 : (Nat → Int32)) (f2 : (Nat → Int32)) (f3 : (Nat → Int32)) : va_W := [(a0, .inr (6, [.ref a2, .ref a3, .ref a1, .int x0_3, v0_4])), (a1, .inl (kA 0, 280, .inl f1)), (a2, .inl (kA 0, 2255, .inl f2)), (a3, .inl (kA 0, 480, .inl f3))]
abbrev rm_States_reduceAtEnd : Room := { frames := 1, cells := 0, slots := 0, locals := 22 }
def B_States_reduceAtEnd_0 (K : Nat → Int32 → Int32 → Int32 → Int32 → Int32 → (Nat → Int32) → Option (Int32 × (Nat → Int32))) (x0_3 : Int32) (f2 : (Nat → Int32)) (f3 : (Nat → Int32)) (l1 : Int32) (l2 : Int32) (l3 : Int32) (l4 : Int32) (l5 : Int32) (f1 : (Nat → Int32)) : Option (Int32 × (Nat → Int32)) := (if 7 ≤ l5 then (some (1, f1)) else (if (l4 &&& ((1 : Int32) <<< ((l5 : Int32) &&& 31))) = 0 then (K 0 l1 l2 l3 l4 (l5 + 1) f1) else (if l5 = 6 then (if ¬ (0 : Int32) = 0 then (some (0, f1)) else ((S_States_reducedBy l1 l5 x0_3 f1).bind fun u_5 => (if u_5 < 0 then (if (((l1 * 7) + l5) : Int32) < 0 ∨ 280 ≤ (Int32.toNatClampNeg ((l1 * 7) + l5)) then none else (K 0 l1 l2 l3 l4 (l5 + 1) (upd f1 (Int32.toNatClampNeg ((l1 * 7) + l5)) l2))) else (some (0, f1))))) else ((S_States_targetOf l1 l5 x0_3 f3).bind fun u_8 => (if u_8 < 0 then (if ¬ (0 : Int32) = 0 then (some (0, f1)) else ((S_States_reducedBy l1 l5 x0_3 f1).bind fun u_11 => (if u_11 < 0 then (if (((l1 * 7) + l5) : Int32) < 0 ∨ 280 ≤ (Int32.toNatClampNeg ((l1 * 7) + l5)) then none else (K 0 l1 l2 l3 l4 (l5 + 1) (upd f1 (Int32.toNatClampNeg ((l1 * 7) + l5)) l2))) else (some (0, f1))))) else (if ¬ (1 : Int32) = 0 then (some (0, f1)) else ((S_States_reducedBy l1 l5 x0_3 f1).bind fun u_15 => (if u_15 < 0 then (if (((l1 * 7) + l5) : Int32) < 0 ∨ 280 ≤ (Int32.toNatClampNeg ((l1 * 7) + l5)) then none else (K 0 l1 l2 l3 l4 (l5 + 1) (upd f1 (Int32.toNatClampNeg ((l1 * 7) + l5)) l2))) else (some (0, f1))))))))))
def F_States_reduceAtEnd (x0_3 : Int32) (f2 : (Nat → Int32)) (f3 : (Nat → Int32)) : Nat → Nat → Int32 → Int32 → Int32 → Int32 → Int32 → (Nat → Int32) → Option (Int32 × (Nat → Int32))
  | 0 => fun _ _ _ _ _ _ _ => none
  | n + 1 => fun hd l1 l2 l3 l4 l5 f1 => match hd with
    | 0 => B_States_reduceAtEnd_0 (F_States_reduceAtEnd x0_3 f2 f3 n) x0_3 f2 f3 l1 l2 l3 l4 l5 f1
    | _ => none
set_option maxHeartbeats 4000000 in
set_option maxRecDepth 100000 in
theorem L_States_reduceAtEnd {p : Program} {l : Launch} {e : Env} {s : State} {m : MethodId} {args : Array Value} {below : List Frame} {meth : Method} {c : Code} {A : Nat → Prop} {dC : Nat → ClassId} {dI : Nat → Nat → Nat} {kA : Nat → ClassId} (hx : p.tables.exec = Jvm.exec) (hb : c.code = b_States_reduceAtEnd) (hr : meth.sig.returnType = some .boolean) (hlocks : meth.locks = false) (hml : c.maxLocals = 7) (hown : s.vm.findClass R_States = some m.cls) (hts : ∀ w ∈ w_States_reduceAtEnd, w.before args s = true) (hA : ∀ q : Nat, s.heap.size ≤ q → A q) (hK : va_K (dC, dI) classes (tys_ kA) s) (a0 a1 a2 a3 : Nat) (v0_4 : Value) (x0_3 : Int32) (f2 : (Nat → Int32)) (f3 : (Nat → Int32)) (r : Int32) (of1 : (Nat → Int32)) : ∀ n : Nat, (∀ (l1 l2 l3 l4 l5 : Int32) (f1 : (Nat → Int32)), F_States_reduceAtEnd x0_3 f2 f3 n 0 l1 l2 l3 l4 l5 f1 = some (r, of1) → ∀ (H : Heap) (locs : List Loc) (ls : Array Slot), va_P (dC, dI) classes (wd_States_reduceAtEnd kA a0 a1 a2 a3 v0_4 x0_3 f1 f2 f3) H → va_D A (wd_States_reduceAtEnd kA a0 a1 a2 a3 v0_4 x0_3 f1 f2 f3) → va_S A s.heap H locs → lv_has ls 7 [(0, .ref a0), (1, .int l1), (2, .int l2), (3, .int l3), (4, .int l4), (5, .int l5)] → W p l e (headSpec w_States_reduceAtEnd rm_States_reduceAtEnd).room s m args below meth c H locs 0 0 (MQ below (va_Qi (fun (r1 : Int32) (_ : Unit) => r1 = r) (fun _ t => va_P (dC, dI) classes (wd_States_reduceAtEnd kA a0 a1 a2 a3 v0_4 x0_3 of1 f2 f3) t.heap ∧ va_K (dC, dI) classes (tys_ kA) t ∧ va_D A (wd_States_reduceAtEnd kA a0 a1 a2 a3 v0_4 x0_3 of1 f2 f3)) A) args s 0 0 A) (F0 m 20 ls [])) := by
  have hg := fun (w : Cond) (h : w ∈ gw) => hts w (List.mem_cons_of_mem _ h)
  intro n
  induction n with
  | zero =>
    exact fun _ _ _ _ _ _ hF => absurd (show (none : Option _) = some _ from hF) (fun z => by cases z)
  | succ n ih =>
    intro l1 l2 l3 l4 l5 f1 hF H locs ls hP hD hS hl
    have hF : B_States_reduceAtEnd_0 (F_States_reduceAtEnd x0_3 f2 f3 n) x0_3 f2 f3 l1 l2 l3 l4 l5 f1 = some (r, of1) := hF
    unfold B_States_reduceAtEnd_0 at hF
    refine lv_iload hx hb d_States_reduceAtEnd_20 (lv_at hl 5 rfl) ?_
    refine lv_bipush (v := 7) hx hb d_States_reduceAtEnd_22 (by decide) ?_
    refine lv_icmp_ge (tgt := 97) hx hb d_States_reduceAtEnd_24 (by decide) (fun c_1 => ?_) (fun c_1 => ?_)
    · rw [if_pos c_1] at hF
      refine lv_iconst (v := 1) hx hb d_States_reduceAtEnd_97 (by decide) ?_
      have e0 := Option.some.inj hF
      have q0 := Prod.mk.inj e0
      exact W.zret (v := 1) hx hb hr rfl (fun t ht hW => ⟨⟨1, (), rfl, q0.1, by rw [ht, ← q0.2]; exact hP, va_K.moved hW.alike hK, (by rw [← q0.2]; exact hD)⟩, hS.F ht⟩) hS.2.2 d_States_reduceAtEnd_98 hlocks
    · rw [if_neg c_1] at hF
      refine lv_iload hx hb d_States_reduceAtEnd_27 (lv_at hl 4 rfl) ?_
      refine lv_iconst (v := 1) hx hb d_States_reduceAtEnd_29 (by decide) ?_
      refine lv_iload hx hb d_States_reduceAtEnd_30 (lv_at hl 5 rfl) ?_
      refine lv_ishl hx hb d_States_reduceAtEnd_32 ?_
      refine lv_iand hx hb d_States_reduceAtEnd_33 ?_
      refine lv_if_eq (tgt := 91) hx hb d_States_reduceAtEnd_34 (by decide) (fun c_2 => ?_) (fun c_2 => ?_)
      · rw [if_pos c_2] at hF
        refine lv_iinc (v := (l5 + 1)) (lv' := [(5, .int (l5 + 1)), (0, .ref a0), (1, .int l1), (2, .int l2), (3, .int l3), (4, .int l4)]) hx hb d_States_reduceAtEnd_91 hl (k := 5) rfl (by rfl) (by decide) rfl (fun ls hl => ?_)
        refine lv_goto (tgt := 20) hx hb d_States_reduceAtEnd_94 (by decide) ?_
        exact ih l1 l2 l3 l4 (l5 + 1) f1 hF _ _ _ hP hD hS (lv_sub hl [1, 2, 3, 4, 5, 0] rfl)
      · rw [if_neg c_2] at hF
        refine lv_iload hx hb d_States_reduceAtEnd_37 (lv_at hl 5 rfl) ?_
        refine lv_bipush (v := 6) hx hb d_States_reduceAtEnd_39 (by decide) ?_
        refine lv_icmp_eq (tgt := 58) hx hb d_States_reduceAtEnd_41 (by decide) (fun c_3 => ?_) (fun c_3 => ?_)
        · rw [if_pos c_3] at hF
          refine lv_iconst (v := 0) hx hb d_States_reduceAtEnd_58 (by decide) ?_
          refine lv_istore (lv' := [(6, .int 0), (0, .ref a0), (1, .int l1), (2, .int l2), (3, .int l3), (4, .int l4), (5, .int l5)]) hx hb d_States_reduceAtEnd_59 hl (by decide) rfl (fun ls hl => ?_)
          refine lv_iload hx hb d_States_reduceAtEnd_61 (lv_at hl 0 rfl) ?_
          refine lv_if_ne (tgt := 76) hx hb d_States_reduceAtEnd_63 (by decide) (fun c_4 => ?_) (fun c_4 => ?_)
          · rw [if_pos c_4] at hF
            refine lv_iconst (v := 0) hx hb d_States_reduceAtEnd_76 (by decide) ?_
            have e0 := Option.some.inj hF
            have q0 := Prod.mk.inj e0
            exact W.zret (v := 0) hx hb hr rfl (fun t ht hW => ⟨⟨0, (), rfl, q0.1, by rw [ht, ← q0.2]; exact hP, va_K.moved hW.alike hK, (by rw [← q0.2]; exact hD)⟩, hS.F ht⟩) hS.2.2 d_States_reduceAtEnd_77 hlocks
          · rw [if_neg (fun z => z c_4)] at hF
            refine lv_aload_n hx hb d_States_reduceAtEnd_66 rfl (lv_at hl 1 rfl) ?_
            refine lv_iload_n hx hb d_States_reduceAtEnd_67 rfl (lv_at hl 2 rfl) ?_
            refine lv_iload hx hb d_States_reduceAtEnd_68 (lv_at hl 6 rfl) ?_
            obtain ⟨u_5, hS_5, hF⟩ := rd_bind hF
            have hPc := hP.sub (ws' := (wd_States_reducedBy kA a0 a1 (.ref a2) (.ref a3) v0_4 x0_3 f1)) [0, 1] rfl
            have hDc := hD.sub (ws' := (wd_States_reducedBy kA a0 a1 (.ref a2) (.ref a3) v0_4 x0_3 f1)) [0, 1] (by decide) rfl
            have hFc := va_free (wc := (wd_States_reducedBy kA a0 a1 (.ref a2) (.ref a3) v0_4 x0_3 f1)) hD hS hA [0, 1] rfl
            refine va_calli (va_runV (As := [.int l1, .int l5]) (rest := []) ⟨hx, hb, hml, hown, hts⟩ (c_States_reducedBy l dC dI kA H.size a0 a1 (.ref a2) (.ref a3) v0_4 l1 l5 x0_3 f1 u_5 hS_5) (cwV 2 hts (gw_V gw_221 gw_89 gw_90 gw_91 gw_92) rfl rfl rfl (by decide +kernel) ⟨Nat.le_of_ble_eq_true rfl, Nat.le_of_ble_eq_true rfl⟩) ⟨fun a U g mk q => by obtain ⟨q0, q1, qP, qK, qD⟩ := q; exact ⟨q0, q1, qP, va_K.moved (u := U) (U := U.calling g mk a) (Vm.Alike.refl U.vm) qK, qD⟩, va_recv hK hP (ci := 6) (q0 := 0) rfl rfl, fun U hU hW => ⟨rfl, by rw [hU], by rw [hU]; exact hPc, va_K.moved hW.alike hK, hDc.weaken (fun _ _ _ _ => trivial)⟩⟩ rfl rfl hl.1 rfl (lv_room (Nat.le_of_ble_eq_true rfl)) d_States_reduceAtEnd_70 ⟨Nat.zero_le _, Nat.zero_le _⟩) hS (fun q _ h => hFc q h) hFc (fun r1 u t H1 locs ht hvm hw hB hz1 hk1 hS => ?_)
            rw [show r1 = _ from hw]
            obtain ⟨hP1, hK1, hD1⟩ := hB
            rw [ht] at hP1
            obtain ⟨hP, hD⟩ := va_join (wr := [(a2, .inl (kA 0, 2255, .inl f2)), (a3, .inl (kA 0, 480, .inl f3))]) (w1 := (wd_States_reducedBy kA a0 a1 (.ref a2) (.ref a3) v0_4 x0_3 f1)) hP hD [0, 1] [2, 3] rfl rfl (by decide) (by decide) hk1 hFc hP1 hD1
            have hP := hP.sub (ws' := (wd_States_reduceAtEnd kA a0 a1 a2 a3 v0_4 x0_3 f1 f2 f3)) [2, 3, 0, 1] rfl
            have hD := hD.sub (ws' := (wd_States_reduceAtEnd kA a0 a1 a2 a3 v0_4 x0_3 f1 f2 f3)) [2, 3, 0, 1] (by decide) rfl
            clear hPc hDc hFc hP1 hK1 hD1
            generalize H1 = H at hP hS ⊢
            refine lv_if_lt (tgt := 78) hx hb d_States_reduceAtEnd_73 (by decide) (fun c_6 => ?_) (fun c_6 => ?_)
            · rw [if_pos c_6] at hF
              refine lv_aload_n hx hb d_States_reduceAtEnd_78 rfl (lv_at hl 1 rfl) ?_
              refine va_get (D := (dC, dI)) (ci := 6) (v := .ref a1) (C := R_States) (T := F_States) (N := 5) hx hb hg iw_States hown hK hP 0 rfl rfl 2 (by decide) (hg _ gw_80) (fun _ h9 => h9) rfl d_States_reduceAtEnd_79 ?_
              refine lv_iload_n hx hb d_States_reduceAtEnd_82 rfl (lv_at hl 2 rfl) ?_
              refine lv_bipush (v := 7) hx hb d_States_reduceAtEnd_83 (by decide) ?_
              refine lv_imul hx hb d_States_reduceAtEnd_85 ?_
              refine lv_iload hx hb d_States_reduceAtEnd_86 (lv_at hl 6 rfl) ?_
              refine lv_iadd hx hb d_States_reduceAtEnd_88 ?_
              refine lv_iload_n hx hb d_States_reduceAtEnd_89 rfl (lv_at hl 3 rfl) ?_
              obtain ⟨h_7, hF⟩ := rd_chk hF
              refine va_iast hx hb hK hP hD hS 1 0 rfl rfl h_7 d_States_reduceAtEnd_90 (fun H locs hP hD hS => ?_)
              have hP : va_P (dC, dI) classes (wd_States_reduceAtEnd kA a0 a1 a2 a3 v0_4 x0_3 (upd f1 (Int32.toNatClampNeg ((l1 * 7) + l5)) l2) f2 f3) H := hP
              have hD : va_D A (wd_States_reduceAtEnd kA a0 a1 a2 a3 v0_4 x0_3 (upd f1 (Int32.toNatClampNeg ((l1 * 7) + l5)) l2) f2 f3) := hD
              refine lv_iinc (v := (l5 + 1)) (lv' := [(5, .int (l5 + 1)), (6, .int 0), (0, .ref a0), (1, .int l1), (2, .int l2), (3, .int l3), (4, .int l4)]) hx hb d_States_reduceAtEnd_91 hl (k := 6) rfl (by rfl) (by decide) rfl (fun ls hl => ?_)
              refine lv_goto (tgt := 20) hx hb d_States_reduceAtEnd_94 (by decide) ?_
              exact ih l1 l2 l3 l4 (l5 + 1) (upd f1 (Int32.toNatClampNeg ((l1 * 7) + l5)) l2) hF _ _ _ hP hD hS (lv_sub hl [2, 3, 4, 5, 6, 0] rfl)
            · rw [if_neg c_6] at hF
              refine lv_iconst (v := 0) hx hb d_States_reduceAtEnd_76 (by decide) ?_
              have e0 := Option.some.inj hF
              have q0 := Prod.mk.inj e0
              exact W.zret (v := 0) hx hb hr rfl (fun t ht hW => ⟨⟨0, (), rfl, q0.1, by rw [ht, ← q0.2]; exact hP, va_K.moved hW.alike hK, (by rw [← q0.2]; exact hD)⟩, hS.F ht⟩) hS.2.2 d_States_reduceAtEnd_77 hlocks
        · rw [if_neg c_3] at hF
          refine lv_aload_n hx hb d_States_reduceAtEnd_44 rfl (lv_at hl 0 rfl) ?_
          refine lv_iload_n hx hb d_States_reduceAtEnd_45 rfl (lv_at hl 1 rfl) ?_
          refine lv_iload hx hb d_States_reduceAtEnd_46 (lv_at hl 5 rfl) ?_
          obtain ⟨u_8, hS_8, hF⟩ := rd_bind hF
          have hPc := hP.sub (ws' := (wd_States_targetOf kA a0 a3 (.ref a2) (.ref a1) v0_4 x0_3 f3)) [0, 3] rfl
          have hDc := hD.sub (ws' := (wd_States_targetOf kA a0 a3 (.ref a2) (.ref a1) v0_4 x0_3 f3)) [0, 3] (by decide) rfl
          have hFc := va_free (wc := (wd_States_targetOf kA a0 a3 (.ref a2) (.ref a1) v0_4 x0_3 f3)) hD hS hA [0, 3] rfl
          refine va_calli (va_runV (As := [.int l1, .int l5]) (rest := []) ⟨hx, hb, hml, hown, hts⟩ (c_States_targetOf l dC dI kA H.size a0 a3 (.ref a2) (.ref a1) v0_4 l1 l5 x0_3 f3 u_8 hS_8) (cwV 2 hts (gw_V gw_222 gw_94 gw_95 gw_91 gw_96) rfl rfl rfl (by decide +kernel) ⟨Nat.le_of_ble_eq_true rfl, Nat.le_of_ble_eq_true rfl⟩) ⟨fun a U g mk q => by obtain ⟨q0, q1, qP, qK, qD⟩ := q; exact ⟨q0, q1, qP, va_K.moved (u := U) (U := U.calling g mk a) (Vm.Alike.refl U.vm) qK, qD⟩, va_recv hK hP (ci := 6) (q0 := 0) rfl rfl, fun U hU hW => ⟨rfl, by rw [hU], by rw [hU]; exact hPc, va_K.moved hW.alike hK, hDc.weaken (fun _ _ _ _ => trivial)⟩⟩ rfl rfl hl.1 rfl (lv_room (Nat.le_of_ble_eq_true rfl)) d_States_reduceAtEnd_48 ⟨Nat.zero_le _, Nat.zero_le _⟩) hS (fun q _ h => hFc q h) hFc (fun r1 u t H1 locs ht hvm hw hB hz1 hk1 hS => ?_)
          rw [show r1 = _ from hw]
          obtain ⟨hP1, hK1, hD1⟩ := hB
          rw [ht] at hP1
          obtain ⟨hP, hD⟩ := va_join (wr := [(a1, .inl (kA 0, 280, .inl f1)), (a2, .inl (kA 0, 2255, .inl f2))]) (w1 := (wd_States_targetOf kA a0 a3 (.ref a2) (.ref a1) v0_4 x0_3 f3)) hP hD [0, 3] [1, 2] rfl rfl (by decide) (by decide) hk1 hFc hP1 hD1
          have hP := hP.sub (ws' := (wd_States_reduceAtEnd kA a0 a1 a2 a3 v0_4 x0_3 f1 f2 f3)) [2, 0, 1, 3] rfl
          have hD := hD.sub (ws' := (wd_States_reduceAtEnd kA a0 a1 a2 a3 v0_4 x0_3 f1 f2 f3)) [2, 0, 1, 3] (by decide) rfl
          clear hPc hDc hFc hP1 hK1 hD1
          generalize H1 = H at hP hS ⊢
          refine lv_if_lt (tgt := 58) hx hb d_States_reduceAtEnd_51 (by decide) (fun c_9 => ?_) (fun c_9 => ?_)
          · rw [if_pos c_9] at hF
            refine lv_iconst (v := 0) hx hb d_States_reduceAtEnd_58 (by decide) ?_
            refine lv_istore (lv' := [(6, .int 0), (0, .ref a0), (1, .int l1), (2, .int l2), (3, .int l3), (4, .int l4), (5, .int l5)]) hx hb d_States_reduceAtEnd_59 hl (by decide) rfl (fun ls hl => ?_)
            refine lv_iload hx hb d_States_reduceAtEnd_61 (lv_at hl 0 rfl) ?_
            refine lv_if_ne (tgt := 76) hx hb d_States_reduceAtEnd_63 (by decide) (fun c_10 => ?_) (fun c_10 => ?_)
            · rw [if_pos c_10] at hF
              refine lv_iconst (v := 0) hx hb d_States_reduceAtEnd_76 (by decide) ?_
              have e0 := Option.some.inj hF
              have q0 := Prod.mk.inj e0
              exact W.zret (v := 0) hx hb hr rfl (fun t ht hW => ⟨⟨0, (), rfl, q0.1, by rw [ht, ← q0.2]; exact hP, va_K.moved hW.alike hK, (by rw [← q0.2]; exact hD)⟩, hS.F ht⟩) hS.2.2 d_States_reduceAtEnd_77 hlocks
            · rw [if_neg (fun z => z c_10)] at hF
              refine lv_aload_n hx hb d_States_reduceAtEnd_66 rfl (lv_at hl 1 rfl) ?_
              refine lv_iload_n hx hb d_States_reduceAtEnd_67 rfl (lv_at hl 2 rfl) ?_
              refine lv_iload hx hb d_States_reduceAtEnd_68 (lv_at hl 6 rfl) ?_
              obtain ⟨u_11, hS_11, hF⟩ := rd_bind hF
              have hPc := hP.sub (ws' := (wd_States_reducedBy kA a0 a1 (.ref a2) (.ref a3) v0_4 x0_3 f1)) [0, 1] rfl
              have hDc := hD.sub (ws' := (wd_States_reducedBy kA a0 a1 (.ref a2) (.ref a3) v0_4 x0_3 f1)) [0, 1] (by decide) rfl
              have hFc := va_free (wc := (wd_States_reducedBy kA a0 a1 (.ref a2) (.ref a3) v0_4 x0_3 f1)) hD hS hA [0, 1] rfl
              refine va_calli (va_runV (As := [.int l1, .int l5]) (rest := []) ⟨hx, hb, hml, hown, hts⟩ (c_States_reducedBy l dC dI kA H.size a0 a1 (.ref a2) (.ref a3) v0_4 l1 l5 x0_3 f1 u_11 hS_11) (cwV 2 hts (gw_V gw_221 gw_89 gw_90 gw_91 gw_92) rfl rfl rfl (by decide +kernel) ⟨Nat.le_of_ble_eq_true rfl, Nat.le_of_ble_eq_true rfl⟩) ⟨fun a U g mk q => by obtain ⟨q0, q1, qP, qK, qD⟩ := q; exact ⟨q0, q1, qP, va_K.moved (u := U) (U := U.calling g mk a) (Vm.Alike.refl U.vm) qK, qD⟩, va_recv hK hP (ci := 6) (q0 := 0) rfl rfl, fun U hU hW => ⟨rfl, by rw [hU], by rw [hU]; exact hPc, va_K.moved hW.alike hK, hDc.weaken (fun _ _ _ _ => trivial)⟩⟩ rfl rfl hl.1 rfl (lv_room (Nat.le_of_ble_eq_true rfl)) d_States_reduceAtEnd_70 ⟨Nat.zero_le _, Nat.zero_le _⟩) hS (fun q _ h => hFc q h) hFc (fun r1 u t H1 locs ht hvm hw hB hz1 hk1 hS => ?_)
              rw [show r1 = _ from hw]
              obtain ⟨hP1, hK1, hD1⟩ := hB
              rw [ht] at hP1
              obtain ⟨hP, hD⟩ := va_join (wr := [(a2, .inl (kA 0, 2255, .inl f2)), (a3, .inl (kA 0, 480, .inl f3))]) (w1 := (wd_States_reducedBy kA a0 a1 (.ref a2) (.ref a3) v0_4 x0_3 f1)) hP hD [0, 1] [2, 3] rfl rfl (by decide) (by decide) hk1 hFc hP1 hD1
              have hP := hP.sub (ws' := (wd_States_reduceAtEnd kA a0 a1 a2 a3 v0_4 x0_3 f1 f2 f3)) [2, 3, 0, 1] rfl
              have hD := hD.sub (ws' := (wd_States_reduceAtEnd kA a0 a1 a2 a3 v0_4 x0_3 f1 f2 f3)) [2, 3, 0, 1] (by decide) rfl
              clear hPc hDc hFc hP1 hK1 hD1
              generalize H1 = H at hP hS ⊢
              refine lv_if_lt (tgt := 78) hx hb d_States_reduceAtEnd_73 (by decide) (fun c_12 => ?_) (fun c_12 => ?_)
              · rw [if_pos c_12] at hF
                refine lv_aload_n hx hb d_States_reduceAtEnd_78 rfl (lv_at hl 1 rfl) ?_
                refine va_get (D := (dC, dI)) (ci := 6) (v := .ref a1) (C := R_States) (T := F_States) (N := 5) hx hb hg iw_States hown hK hP 0 rfl rfl 2 (by decide) (hg _ gw_80) (fun _ h9 => h9) rfl d_States_reduceAtEnd_79 ?_
                refine lv_iload_n hx hb d_States_reduceAtEnd_82 rfl (lv_at hl 2 rfl) ?_
                refine lv_bipush (v := 7) hx hb d_States_reduceAtEnd_83 (by decide) ?_
                refine lv_imul hx hb d_States_reduceAtEnd_85 ?_
                refine lv_iload hx hb d_States_reduceAtEnd_86 (lv_at hl 6 rfl) ?_
                refine lv_iadd hx hb d_States_reduceAtEnd_88 ?_
                refine lv_iload_n hx hb d_States_reduceAtEnd_89 rfl (lv_at hl 3 rfl) ?_
                obtain ⟨h_13, hF⟩ := rd_chk hF
                refine va_iast hx hb hK hP hD hS 1 0 rfl rfl h_13 d_States_reduceAtEnd_90 (fun H locs hP hD hS => ?_)
                have hP : va_P (dC, dI) classes (wd_States_reduceAtEnd kA a0 a1 a2 a3 v0_4 x0_3 (upd f1 (Int32.toNatClampNeg ((l1 * 7) + l5)) l2) f2 f3) H := hP
                have hD : va_D A (wd_States_reduceAtEnd kA a0 a1 a2 a3 v0_4 x0_3 (upd f1 (Int32.toNatClampNeg ((l1 * 7) + l5)) l2) f2 f3) := hD
                refine lv_iinc (v := (l5 + 1)) (lv' := [(5, .int (l5 + 1)), (6, .int 0), (0, .ref a0), (1, .int l1), (2, .int l2), (3, .int l3), (4, .int l4)]) hx hb d_States_reduceAtEnd_91 hl (k := 6) rfl (by rfl) (by decide) rfl (fun ls hl => ?_)
                refine lv_goto (tgt := 20) hx hb d_States_reduceAtEnd_94 (by decide) ?_
                exact ih l1 l2 l3 l4 (l5 + 1) (upd f1 (Int32.toNatClampNeg ((l1 * 7) + l5)) l2) hF _ _ _ hP hD hS (lv_sub hl [2, 3, 4, 5, 6, 0] rfl)
              · rw [if_neg c_12] at hF
                refine lv_iconst (v := 0) hx hb d_States_reduceAtEnd_76 (by decide) ?_
                have e0 := Option.some.inj hF
                have q0 := Prod.mk.inj e0
                exact W.zret (v := 0) hx hb hr rfl (fun t ht hW => ⟨⟨0, (), rfl, q0.1, by rw [ht, ← q0.2]; exact hP, va_K.moved hW.alike hK, (by rw [← q0.2]; exact hD)⟩, hS.F ht⟩) hS.2.2 d_States_reduceAtEnd_77 hlocks
          · rw [if_neg c_9] at hF
            refine lv_iconst (v := 1) hx hb d_States_reduceAtEnd_54 (by decide) ?_
            refine lv_goto (tgt := 59) hx hb d_States_reduceAtEnd_55 (by decide) ?_
            refine lv_istore (lv' := [(6, .int 1), (0, .ref a0), (1, .int l1), (2, .int l2), (3, .int l3), (4, .int l4), (5, .int l5)]) hx hb d_States_reduceAtEnd_59 hl (by decide) rfl (fun ls hl => ?_)
            refine lv_iload hx hb d_States_reduceAtEnd_61 (lv_at hl 0 rfl) ?_
            refine lv_if_ne (tgt := 76) hx hb d_States_reduceAtEnd_63 (by decide) (fun c_14 => ?_) (fun c_14 => ?_)
            · rw [if_pos c_14] at hF
              refine lv_iconst (v := 0) hx hb d_States_reduceAtEnd_76 (by decide) ?_
              have e0 := Option.some.inj hF
              have q0 := Prod.mk.inj e0
              exact W.zret (v := 0) hx hb hr rfl (fun t ht hW => ⟨⟨0, (), rfl, q0.1, by rw [ht, ← q0.2]; exact hP, va_K.moved hW.alike hK, (by rw [← q0.2]; exact hD)⟩, hS.F ht⟩) hS.2.2 d_States_reduceAtEnd_77 hlocks
            · rw [if_neg (fun z => z c_14)] at hF
              refine lv_aload_n hx hb d_States_reduceAtEnd_66 rfl (lv_at hl 1 rfl) ?_
              refine lv_iload_n hx hb d_States_reduceAtEnd_67 rfl (lv_at hl 2 rfl) ?_
              refine lv_iload hx hb d_States_reduceAtEnd_68 (lv_at hl 6 rfl) ?_
              obtain ⟨u_15, hS_15, hF⟩ := rd_bind hF
              have hPc := hP.sub (ws' := (wd_States_reducedBy kA a0 a1 (.ref a2) (.ref a3) v0_4 x0_3 f1)) [0, 1] rfl
              have hDc := hD.sub (ws' := (wd_States_reducedBy kA a0 a1 (.ref a2) (.ref a3) v0_4 x0_3 f1)) [0, 1] (by decide) rfl
              have hFc := va_free (wc := (wd_States_reducedBy kA a0 a1 (.ref a2) (.ref a3) v0_4 x0_3 f1)) hD hS hA [0, 1] rfl
              refine va_calli (va_runV (As := [.int l1, .int l5]) (rest := []) ⟨hx, hb, hml, hown, hts⟩ (c_States_reducedBy l dC dI kA H.size a0 a1 (.ref a2) (.ref a3) v0_4 l1 l5 x0_3 f1 u_15 hS_15) (cwV 2 hts (gw_V gw_221 gw_89 gw_90 gw_91 gw_92) rfl rfl rfl (by decide +kernel) ⟨Nat.le_of_ble_eq_true rfl, Nat.le_of_ble_eq_true rfl⟩) ⟨fun a U g mk q => by obtain ⟨q0, q1, qP, qK, qD⟩ := q; exact ⟨q0, q1, qP, va_K.moved (u := U) (U := U.calling g mk a) (Vm.Alike.refl U.vm) qK, qD⟩, va_recv hK hP (ci := 6) (q0 := 0) rfl rfl, fun U hU hW => ⟨rfl, by rw [hU], by rw [hU]; exact hPc, va_K.moved hW.alike hK, hDc.weaken (fun _ _ _ _ => trivial)⟩⟩ rfl rfl hl.1 rfl (lv_room (Nat.le_of_ble_eq_true rfl)) d_States_reduceAtEnd_70 ⟨Nat.zero_le _, Nat.zero_le _⟩) hS (fun q _ h => hFc q h) hFc (fun r1 u t H1 locs ht hvm hw hB hz1 hk1 hS => ?_)
              rw [show r1 = _ from hw]
              obtain ⟨hP1, hK1, hD1⟩ := hB
              rw [ht] at hP1
              obtain ⟨hP, hD⟩ := va_join (wr := [(a2, .inl (kA 0, 2255, .inl f2)), (a3, .inl (kA 0, 480, .inl f3))]) (w1 := (wd_States_reducedBy kA a0 a1 (.ref a2) (.ref a3) v0_4 x0_3 f1)) hP hD [0, 1] [2, 3] rfl rfl (by decide) (by decide) hk1 hFc hP1 hD1
              have hP := hP.sub (ws' := (wd_States_reduceAtEnd kA a0 a1 a2 a3 v0_4 x0_3 f1 f2 f3)) [2, 3, 0, 1] rfl
              have hD := hD.sub (ws' := (wd_States_reduceAtEnd kA a0 a1 a2 a3 v0_4 x0_3 f1 f2 f3)) [2, 3, 0, 1] (by decide) rfl
              clear hPc hDc hFc hP1 hK1 hD1
              generalize H1 = H at hP hS ⊢
              refine lv_if_lt (tgt := 78) hx hb d_States_reduceAtEnd_73 (by decide) (fun c_16 => ?_) (fun c_16 => ?_)
              · rw [if_pos c_16] at hF
                refine lv_aload_n hx hb d_States_reduceAtEnd_78 rfl (lv_at hl 1 rfl) ?_
                refine va_get (D := (dC, dI)) (ci := 6) (v := .ref a1) (C := R_States) (T := F_States) (N := 5) hx hb hg iw_States hown hK hP 0 rfl rfl 2 (by decide) (hg _ gw_80) (fun _ h9 => h9) rfl d_States_reduceAtEnd_79 ?_
                refine lv_iload_n hx hb d_States_reduceAtEnd_82 rfl (lv_at hl 2 rfl) ?_
                refine lv_bipush (v := 7) hx hb d_States_reduceAtEnd_83 (by decide) ?_
                refine lv_imul hx hb d_States_reduceAtEnd_85 ?_
                refine lv_iload hx hb d_States_reduceAtEnd_86 (lv_at hl 6 rfl) ?_
                refine lv_iadd hx hb d_States_reduceAtEnd_88 ?_
                refine lv_iload_n hx hb d_States_reduceAtEnd_89 rfl (lv_at hl 3 rfl) ?_
                obtain ⟨h_17, hF⟩ := rd_chk hF
                refine va_iast hx hb hK hP hD hS 1 0 rfl rfl h_17 d_States_reduceAtEnd_90 (fun H locs hP hD hS => ?_)
                have hP : va_P (dC, dI) classes (wd_States_reduceAtEnd kA a0 a1 a2 a3 v0_4 x0_3 (upd f1 (Int32.toNatClampNeg ((l1 * 7) + l5)) l2) f2 f3) H := hP
                have hD : va_D A (wd_States_reduceAtEnd kA a0 a1 a2 a3 v0_4 x0_3 (upd f1 (Int32.toNatClampNeg ((l1 * 7) + l5)) l2) f2 f3) := hD
                refine lv_iinc (v := (l5 + 1)) (lv' := [(5, .int (l5 + 1)), (6, .int 1), (0, .ref a0), (1, .int l1), (2, .int l2), (3, .int l3), (4, .int l4)]) hx hb d_States_reduceAtEnd_91 hl (k := 6) rfl (by rfl) (by decide) rfl (fun ls hl => ?_)
                refine lv_goto (tgt := 20) hx hb d_States_reduceAtEnd_94 (by decide) ?_
                exact ih l1 l2 l3 l4 (l5 + 1) (upd f1 (Int32.toNatClampNeg ((l1 * 7) + l5)) l2) hF _ _ _ hP hD hS (lv_sub hl [2, 3, 4, 5, 6, 0] rfl)
              · rw [if_neg c_16] at hF
                refine lv_iconst (v := 0) hx hb d_States_reduceAtEnd_76 (by decide) ?_
                have e0 := Option.some.inj hF
                have q0 := Prod.mk.inj e0
                exact W.zret (v := 0) hx hb hr rfl (fun t ht hW => ⟨⟨0, (), rfl, q0.1, by rw [ht, ← q0.2]; exact hP, va_K.moved hW.alike hK, (by rw [← q0.2]; exact hD)⟩, hS.F ht⟩) hS.2.2 d_States_reduceAtEnd_77 hlocks
def S_States_reduceAtEnd (p1 : Int32) (p2 : Int32) (p3 : Int32) (x0_3 : Int32) (f1 : (Nat → Int32)) (f2 : (Nat → Int32)) (f3 : (Nat → Int32)) : Option (Int32 × (Nat → Int32)) := (if ((((p1 * 55) + (p2 * 5)) + p3) : Int32) < 0 ∨ 2255 ≤ (Int32.toNatClampNeg (((p1 * 55) + (p2 * 5)) + p3)) then none else (F_States_reduceAtEnd x0_3 f2 f3 fuel_ 0 p1 p2 p3 (f2 (Int32.toNatClampNeg (((p1 * 55) + (p2 * 5)) + p3))) 0 f1))
set_option maxHeartbeats 4000000 in
set_option maxRecDepth 100000 in
theorem c_States_reduceAtEnd (l : Launch) (dC : Nat → ClassId) (dI : Nat → Nat → Nat) (kA : Nat → ClassId) (sz : Nat) (a0 a1 a2 a3 : Nat) (v0_4 : Value) (p1 : Int32) (p2 : Int32) (p3 : Int32) (x0_3 : Int32) (f1 : (Nat → Int32)) (f2 : (Nat → Int32)) (f3 : (Nat → Int32)) (r : Int32) (of1 : (Nat → Int32)) (hF : S_States_reduceAtEnd p1 p2 p3 x0_3 f1 f2 f3 = some (r, of1)) : Met l y_States_reduceAtEnd w_States_reduceAtEnd rm_States_reduceAtEnd (va_Pc [.ref a0, .int p1, .int p2, .int p3] (fun U => U.heap.size = sz ∧ va_P (dC, dI) classes (wd_States_reduceAtEnd kA a0 a1 a2 a3 v0_4 x0_3 f1 f2 f3) U.heap ∧ va_K (dC, dI) classes (tys_ kA) U ∧ va_D (fun _ => True) (wd_States_reduceAtEnd kA a0 a1 a2 a3 v0_4 x0_3 f1 f2 f3))) (va_Qi (fun (r1 : Int32) (_ : Unit) => r1 = r) (fun _ t => va_P (dC, dI) classes (wd_States_reduceAtEnd kA a0 a1 a2 a3 v0_4 x0_3 of1 f2 f3) t.heap ∧ va_K (dC, dI) classes (tys_ kA) t ∧ va_D (va_A (wd_States_reduceAtEnd kA a0 a1 a2 a3 v0_4 x0_3 f1 f2 f3) sz) (wd_States_reduceAtEnd kA a0 a1 a2 a3 v0_4 x0_3 of1 f2 f3)) (va_A (wd_States_reduceAtEnd kA a0 a1 a2 a3 v0_4 x0_3 f1 f2 f3) sz)) 0 0 (va_A (wd_States_reduceAtEnd kA a0 a1 a2 a3 v0_4 x0_3 f1 f2 f3) sz) := by
  refine Met.ofW (cc := b_States_reduceAtEnd) (maxL := 7) (ret := some .boolean) (by decide) rfl ?_
  intro p e s m args below meth c s₁ B hml hv
  obtain ⟨rfl, hsz, hP, hK, hD0⟩ := hv
  have hx := B.exec
  have hb := B.bytes
  have hr := B.returns
  have hts := atoms_spec (ws := w_States_reduceAtEnd) B.pre
  have hown : s.vm.findClass R_States = some m.cls := findClass_of_methodNamed B.named
  have hg := fun (w : Cond) (h : w ∈ gw) => hts w (List.mem_cons_of_mem _ h)
  have hlocks := B.notSynchronized
  subst hsz
  have hD := hD0.self (sz := s.heap.size)
  generalize hAe : va_A (wd_States_reduceAtEnd kA a0 a1 a2 a3 v0_4 x0_3 f1 f2 f3) s.heap.size = A at hD ⊢
  have hA : ∀ q : Nat, s.heap.size ≤ q → A q := fun q h => by rw [← hAe]; exact Or.inr h
  have hS : va_S A s.heap s.heap [] := va_S.rf
  have hl := lv_entry ([.ref a0, .int p1, .int p2, .int p3]) (n := 7) (Nat.le_of_ble_eq_true rfl)
  rw [lg_entry_eq]
  generalize (lg_sl ([.ref a0, .int p1, .int p2, .int p3]) ++ List.replicate (7 - (lg_sl ([.ref a0, .int p1, .int p2, .int p3])).length) Slot.unset).toArray = ls at hl ⊢
  have hl : lv_has ls 7 [(0, .ref a0), (1, .int p1), (2, .int p2), (3, .int p3)] := hl
  unfold S_States_reduceAtEnd at hF
  have ih := L_States_reduceAtEnd (l := l) (e := e) (below := below) hx hb hr hlocks hml hown hts hA hK a0 a1 a2 a3 v0_4 x0_3 f2 f3 r of1 fuel_
  refine lv_aload_n hx hb d_States_reduceAtEnd_0 rfl (lv_at hl 0 rfl) ?_
  refine va_get (D := (dC, dI)) (ci := 6) (v := .ref a2) (C := R_States) (T := F_States) (N := 5) hx hb hg iw_States hown hK hP 0 rfl rfl 0 (by decide) (hg _ gw_188) (fun _ h9 => h9) rfl d_States_reduceAtEnd_1 ?_
  refine lv_iload_n hx hb d_States_reduceAtEnd_4 rfl (lv_at hl 1 rfl) ?_
  refine lv_bipush (v := 55) hx hb d_States_reduceAtEnd_5 (by decide) ?_
  refine lv_imul hx hb d_States_reduceAtEnd_7 ?_
  refine lv_iload_n hx hb d_States_reduceAtEnd_8 rfl (lv_at hl 2 rfl) ?_
  refine lv_iconst (v := 5) hx hb d_States_reduceAtEnd_9 (by decide) ?_
  refine lv_imul hx hb d_States_reduceAtEnd_10 ?_
  refine lv_iadd hx hb d_States_reduceAtEnd_11 ?_
  refine lv_iload_n hx hb d_States_reduceAtEnd_12 rfl (lv_at hl 3 rfl) ?_
  refine lv_iadd hx hb d_States_reduceAtEnd_13 ?_
  obtain ⟨h_18, hF⟩ := rd_chk hF
  refine va_iald hx hb hK hP 2 0 rfl rfl h_18 d_States_reduceAtEnd_14 ?_
  refine lv_istore (lv' := [(4, .int (f2 (Int32.toNatClampNeg (((p1 * 55) + (p2 * 5)) + p3)))), (0, .ref a0), (1, .int p1), (2, .int p2), (3, .int p3)]) hx hb d_States_reduceAtEnd_15 hl (by decide) rfl (fun ls hl => ?_)
  refine lv_iconst (v := 0) hx hb d_States_reduceAtEnd_17 (by decide) ?_
  refine lv_istore (lv' := [(5, .int 0), (4, .int (f2 (Int32.toNatClampNeg (((p1 * 55) + (p2 * 5)) + p3)))), (0, .ref a0), (1, .int p1), (2, .int p2), (3, .int p3)]) hx hb d_States_reduceAtEnd_18 hl (by decide) rfl (fun ls hl => ?_)
  exact ih p1 p2 p3 (f2 (Int32.toNatClampNeg (((p1 * 55) + (p2 * 5)) + p3))) 0 f1 hF _ _ _ hP hD hS (lv_sub hl [2, 3, 4, 5, 1, 0] rfl)
-- ===== RepairDesk$States.makeReduced(LRepairDesk$Grammar;)Z
abbrev wd_States_makeReduced (kA : Nat → ClassId) (a0 a1 a2 a3 a4 a5 a6 : Nat) (v0_4 v4_0 v4_2 v4_4 v4_5 v4_6 : Value) (x0_3 : Int32) (f1 : (Nat → Int32)) (f2 : (Nat → Int32)) (f3 : (Nat → Int32)) (f5 : (Nat → Int32)) (f6 : (Nat → Int32)) : va_W := [(a0, .inr (6, [.ref a2, .ref a3, .ref a1, .int x0_3, v0_4])), (a1, .inl (kA 0, 280, .inl f1)), (a2, .inl (kA 0, 2255, .inl f2)), (a3, .inl (kA 0, 480, .inl f3)), (a4, .inr (2, [v4_0, .ref a5, v4_2, .ref a6, v4_4, v4_5, v4_6])), (a5, .inl (kA 0, 12, .inl f5)), (a6, .inl (kA 1, 12, .inl f6))]
abbrev rm_States_makeReduced : Room := { frames := 2, cells := 0, slots := 0, locals := 48 }
def B_States_makeReduced_0 (K : Nat → Int32 → Int32 → (Nat → Int32) → Option (Int32 × (Nat → Int32))) (x0_3 : Int32) (f2 : (Nat → Int32)) (f3 : (Nat → Int32)) (f5 : (Nat → Int32)) (f6 : (Nat → Int32)) (l2 : Int32) (l3 : Int32) (f1 : (Nat → Int32)) : Option (Int32 × (Nat → Int32)) := (if x0_3 ≤ l2 then (some (1, f1)) else (K 1 l2 0 f1))
def B_States_makeReduced_1 (K : Nat → Int32 → Int32 → (Nat → Int32) → Option (Int32 × (Nat → Int32))) (x0_3 : Int32) (f2 : (Nat → Int32)) (f3 : (Nat → Int32)) (f5 : (Nat → Int32)) (f6 : (Nat → Int32)) (l2 : Int32) (l3 : Int32) (f1 : (Nat → Int32)) : Option (Int32 × (Nat → Int32)) := (if 7 ≤ l3 then (K 2 l2 0 f1) else (if (((l2 * 7) + l3) : Int32) < 0 ∨ 280 ≤ (Int32.toNatClampNeg ((l2 * 7) + l3)) then none else (K 1 l2 (l3 + 1) (upd f1 (Int32.toNatClampNeg ((l2 * 7) + l3)) (-1)))))
def B_States_makeReduced_2 (K : Nat → Int32 → Int32 → (Nat → Int32) → Option (Int32 × (Nat → Int32))) (x0_3 : Int32) (f2 : (Nat → Int32)) (f3 : (Nat → Int32)) (f5 : (Nat → Int32)) (f6 : (Nat → Int32)) (l2 : Int32) (l3 : Int32) (f1 : (Nat → Int32)) : Option (Int32 × (Nat → Int32)) := (if 10 < l3 then (K 0 (l2 + 1) 0 f1) else ((S_Grammar_isUsed l3 f6).bind fun u_5 => (if u_5 = 0 then (K 2 l2 (l3 + 1) f1) else ((S_Grammar_sizeOf l3 f5).bind fun u_7 => ((S_States_reduceAtEnd l2 l3 u_7 x0_3 f1 f2 f3).bind fun u_8 => (if ¬ u_8.1 = 0 then (K 2 l2 (l3 + 1) u_8.2) else (some (0, u_8.2))))))))
def F_States_makeReduced (x0_3 : Int32) (f2 : (Nat → Int32)) (f3 : (Nat → Int32)) (f5 : (Nat → Int32)) (f6 : (Nat → Int32)) : Nat → Nat → Int32 → Int32 → (Nat → Int32) → Option (Int32 × (Nat → Int32))
  | 0 => fun _ _ _ _ => none
  | n + 1 => fun hd l2 l3 f1 => match hd with
    | 0 => B_States_makeReduced_0 (F_States_makeReduced x0_3 f2 f3 f5 f6 n) x0_3 f2 f3 f5 f6 l2 l3 f1
    | 1 => B_States_makeReduced_1 (F_States_makeReduced x0_3 f2 f3 f5 f6 n) x0_3 f2 f3 f5 f6 l2 l3 f1
    | 2 => B_States_makeReduced_2 (F_States_makeReduced x0_3 f2 f3 f5 f6 n) x0_3 f2 f3 f5 f6 l2 l3 f1
    | _ => none
set_option maxHeartbeats 4000000 in
set_option maxRecDepth 100000 in
theorem L_States_makeReduced {p : Program} {l : Launch} {e : Env} {s : State} {m : MethodId} {args : Array Value} {below : List Frame} {meth : Method} {c : Code} {A : Nat → Prop} {dC : Nat → ClassId} {dI : Nat → Nat → Nat} {kA : Nat → ClassId} (hx : p.tables.exec = Jvm.exec) (hb : c.code = b_States_makeReduced) (hr : meth.sig.returnType = some .boolean) (hlocks : meth.locks = false) (hml : c.maxLocals = 4) (hown : s.vm.findClass R_States = some m.cls) (hts : ∀ w ∈ w_States_makeReduced, w.before args s = true) (hA : ∀ q : Nat, s.heap.size ≤ q → A q) (hK : va_K (dC, dI) classes (tys_ kA) s) (a0 a1 a2 a3 a4 a5 a6 : Nat) (v0_4 v4_0 v4_2 v4_4 v4_5 v4_6 : Value) (x0_3 : Int32) (f2 : (Nat → Int32)) (f3 : (Nat → Int32)) (f5 : (Nat → Int32)) (f6 : (Nat → Int32)) (r : Int32) (of1 : (Nat → Int32)) : ∀ n : Nat, (∀ (l2 l3 : Int32) (f1 : (Nat → Int32)), F_States_makeReduced x0_3 f2 f3 f5 f6 n 0 l2 l3 f1 = some (r, of1) → ∀ (H : Heap) (locs : List Loc) (ls : Array Slot), va_P (dC, dI) classes (wd_States_makeReduced kA a0 a1 a2 a3 a4 a5 a6 v0_4 v4_0 v4_2 v4_4 v4_5 v4_6 x0_3 f1 f2 f3 f5 f6) H → va_D A (wd_States_makeReduced kA a0 a1 a2 a3 a4 a5 a6 v0_4 v4_0 v4_2 v4_4 v4_5 v4_6 x0_3 f1 f2 f3 f5 f6) → va_S A s.heap H locs → lv_has ls 4 [(0, .ref a0), (1, .ref a4), (2, .int l2)] → W p l e (headSpec w_States_makeReduced rm_States_makeReduced).room s m args below meth c H locs 0 0 (MQ below (va_Qi (fun (r1 : Int32) (_ : Unit) => r1 = r) (fun _ t => va_P (dC, dI) classes (wd_States_makeReduced kA a0 a1 a2 a3 a4 a5 a6 v0_4 v4_0 v4_2 v4_4 v4_5 v4_6 x0_3 of1 f2 f3 f5 f6) t.heap ∧ va_K (dC, dI) classes (tys_ kA) t ∧ va_D A (wd_States_makeReduced kA a0 a1 a2 a3 a4 a5 a6 v0_4 v4_0 v4_2 v4_4 v4_5 v4_6 x0_3 of1 f2 f3 f5 f6)) A) args s 0 0 A) (F0 m 2 ls [])) ∧ (∀ (l2 l3 : Int32) (f1 : (Nat → Int32)), F_States_makeReduced x0_3 f2 f3 f5 f6 n 1 l2 l3 f1 = some (r, of1) → ∀ (H : Heap) (locs : List Loc) (ls : Array Slot), va_P (dC, dI) classes (wd_States_makeReduced kA a0 a1 a2 a3 a4 a5 a6 v0_4 v4_0 v4_2 v4_4 v4_5 v4_6 x0_3 f1 f2 f3 f5 f6) H → va_D A (wd_States_makeReduced kA a0 a1 a2 a3 a4 a5 a6 v0_4 v4_0 v4_2 v4_4 v4_5 v4_6 x0_3 f1 f2 f3 f5 f6) → va_S A s.heap H locs → lv_has ls 4 [(0, .ref a0), (1, .ref a4), (2, .int l2), (3, .int l3)] → W p l e (headSpec w_States_makeReduced rm_States_makeReduced).room s m args below meth c H locs 0 0 (MQ below (va_Qi (fun (r1 : Int32) (_ : Unit) => r1 = r) (fun _ t => va_P (dC, dI) classes (wd_States_makeReduced kA a0 a1 a2 a3 a4 a5 a6 v0_4 v4_0 v4_2 v4_4 v4_5 v4_6 x0_3 of1 f2 f3 f5 f6) t.heap ∧ va_K (dC, dI) classes (tys_ kA) t ∧ va_D A (wd_States_makeReduced kA a0 a1 a2 a3 a4 a5 a6 v0_4 v4_0 v4_2 v4_4 v4_5 v4_6 x0_3 of1 f2 f3 f5 f6)) A) args s 0 0 A) (F0 m 12 ls [])) ∧ (∀ (l2 l3 : Int32) (f1 : (Nat → Int32)), F_States_makeReduced x0_3 f2 f3 f5 f6 n 2 l2 l3 f1 = some (r, of1) → ∀ (H : Heap) (locs : List Loc) (ls : Array Slot), va_P (dC, dI) classes (wd_States_makeReduced kA a0 a1 a2 a3 a4 a5 a6 v0_4 v4_0 v4_2 v4_4 v4_5 v4_6 x0_3 f1 f2 f3 f5 f6) H → va_D A (wd_States_makeReduced kA a0 a1 a2 a3 a4 a5 a6 v0_4 v4_0 v4_2 v4_4 v4_5 v4_6 x0_3 f1 f2 f3 f5 f6) → va_S A s.heap H locs → lv_has ls 4 [(0, .ref a0), (1, .ref a4), (2, .int l2), (3, .int l3)] → W p l e (headSpec w_States_makeReduced rm_States_makeReduced).room s m args below meth c H locs 0 0 (MQ below (va_Qi (fun (r1 : Int32) (_ : Unit) => r1 = r) (fun _ t => va_P (dC, dI) classes (wd_States_makeReduced kA a0 a1 a2 a3 a4 a5 a6 v0_4 v4_0 v4_2 v4_4 v4_5 v4_6 x0_3 of1 f2 f3 f5 f6) t.heap ∧ va_K (dC, dI) classes (tys_ kA) t ∧ va_D A (wd_States_makeReduced kA a0 a1 a2 a3 a4 a5 a6 v0_4 v4_0 v4_2 v4_4 v4_5 v4_6 x0_3 of1 f2 f3 f5 f6)) A) args s 0 0 A) (F0 m 38 ls [])) := by
  have hg := fun (w : Cond) (h : w ∈ gw) => hts w (List.mem_cons_of_mem _ h)
  intro n
  induction n with
  | zero =>
    exact ⟨fun _ _ _ hF => absurd (show (none : Option _) = some _ from hF) (fun z => by cases z), fun _ _ _ hF => absurd (show (none : Option _) = some _ from hF) (fun z => by cases z), fun _ _ _ hF => absurd (show (none : Option _) = some _ from hF) (fun z => by cases z)⟩
  | succ n ih =>
    refine ⟨?_, ?_, ?_⟩
    · intro l2 l3 f1 hF H locs ls hP hD hS hl
      have hF : B_States_makeReduced_0 (F_States_makeReduced x0_3 f2 f3 f5 f6 n) x0_3 f2 f3 f5 f6 l2 l3 f1 = some (r, of1) := hF
      unfold B_States_makeReduced_0 at hF
      refine lv_iload_n hx hb d_States_makeReduced_2 rfl (lv_at hl 2 rfl) ?_
      refine lv_aload_n hx hb d_States_makeReduced_3 rfl (lv_at hl 0 rfl) ?_
      refine va_get (D := (dC, dI)) (ci := 6) (v := .int x0_3) (C := R_States) (T := F_States) (N := 5) hx hb hg iw_States hown hK hP 0 rfl rfl 3 (by decide) (hg _ gw_79) (fun _ h9 => h9) rfl d_States_makeReduced_4 ?_
      refine lv_icmp_ge (tgt := 80) hx hb d_States_makeReduced_7 (by decide) (fun c_1 => ?_) (fun c_1 => ?_)
      · rw [if_pos c_1] at hF
        refine lv_iconst (v := 1) hx hb d_States_makeReduced_80 (by decide) ?_
        have e0 := Option.some.inj hF
        have q0 := Prod.mk.inj e0
        exact W.zret (v := 1) hx hb hr rfl (fun t ht hW => ⟨⟨1, (), rfl, q0.1, by rw [ht, ← q0.2]; exact hP, va_K.moved hW.alike hK, (by rw [← q0.2]; exact hD)⟩, hS.F ht⟩) hS.2.2 d_States_makeReduced_81 hlocks
      · rw [if_neg c_1] at hF
        refine lv_iconst (v := 0) hx hb d_States_makeReduced_10 (by decide) ?_
        refine lv_istore_n (lv' := [(3, .int 0), (0, .ref a0), (1, .ref a4), (2, .int l2)]) hx hb d_States_makeReduced_11 rfl hl (by decide) rfl (fun ls hl => ?_)
        exact ih.2.1 l2 0 f1 hF _ _ _ hP hD hS (lv_sub hl [1, 2, 3, 0] rfl)
    · intro l2 l3 f1 hF H locs ls hP hD hS hl
      have hF : B_States_makeReduced_1 (F_States_makeReduced x0_3 f2 f3 f5 f6 n) x0_3 f2 f3 f5 f6 l2 l3 f1 = some (r, of1) := hF
      unfold B_States_makeReduced_1 at hF
      refine lv_iload_n hx hb d_States_makeReduced_12 rfl (lv_at hl 3 rfl) ?_
      refine lv_bipush (v := 7) hx hb d_States_makeReduced_13 (by decide) ?_
      refine lv_icmp_ge (tgt := 36) hx hb d_States_makeReduced_15 (by decide) (fun c_2 => ?_) (fun c_2 => ?_)
      · rw [if_pos c_2] at hF
        refine lv_iconst (v := 0) hx hb d_States_makeReduced_36 (by decide) ?_
        refine lv_istore_n (lv' := [(3, .int 0), (0, .ref a0), (1, .ref a4), (2, .int l2)]) hx hb d_States_makeReduced_37 rfl hl (by decide) rfl (fun ls hl => ?_)
        exact ih.2.2 l2 0 f1 hF _ _ _ hP hD hS (lv_sub hl [1, 2, 3, 0] rfl)
      · rw [if_neg c_2] at hF
        refine lv_aload_n hx hb d_States_makeReduced_18 rfl (lv_at hl 0 rfl) ?_
        refine va_get (D := (dC, dI)) (ci := 6) (v := .ref a1) (C := R_States) (T := F_States) (N := 5) hx hb hg iw_States hown hK hP 0 rfl rfl 2 (by decide) (hg _ gw_80) (fun _ h9 => h9) rfl d_States_makeReduced_19 ?_
        refine lv_iload_n hx hb d_States_makeReduced_22 rfl (lv_at hl 2 rfl) ?_
        refine lv_bipush (v := 7) hx hb d_States_makeReduced_23 (by decide) ?_
        refine lv_imul hx hb d_States_makeReduced_25 ?_
        refine lv_iload_n hx hb d_States_makeReduced_26 rfl (lv_at hl 3 rfl) ?_
        refine lv_iadd hx hb d_States_makeReduced_27 ?_
        refine lv_iconst (v := (-1)) hx hb d_States_makeReduced_28 (by decide) ?_
        obtain ⟨h_3, hF⟩ := rd_chk hF
        refine va_iast hx hb hK hP hD hS 1 0 rfl rfl h_3 d_States_makeReduced_29 (fun H locs hP hD hS => ?_)
        have hP : va_P (dC, dI) classes (wd_States_makeReduced kA a0 a1 a2 a3 a4 a5 a6 v0_4 v4_0 v4_2 v4_4 v4_5 v4_6 x0_3 (upd f1 (Int32.toNatClampNeg ((l2 * 7) + l3)) (-1)) f2 f3 f5 f6) H := hP
        have hD : va_D A (wd_States_makeReduced kA a0 a1 a2 a3 a4 a5 a6 v0_4 v4_0 v4_2 v4_4 v4_5 v4_6 x0_3 (upd f1 (Int32.toNatClampNeg ((l2 * 7) + l3)) (-1)) f2 f3 f5 f6) := hD
        refine lv_iinc (v := (l3 + 1)) (lv' := [(3, .int (l3 + 1)), (0, .ref a0), (1, .ref a4), (2, .int l2)]) hx hb d_States_makeReduced_30 hl (k := 3) rfl (by rfl) (by decide) rfl (fun ls hl => ?_)
        refine lv_goto (tgt := 12) hx hb d_States_makeReduced_33 (by decide) ?_
        exact ih.2.1 l2 (l3 + 1) (upd f1 (Int32.toNatClampNeg ((l2 * 7) + l3)) (-1)) hF _ _ _ hP hD hS (lv_sub hl [1, 2, 3, 0] rfl)
    · intro l2 l3 f1 hF H locs ls hP hD hS hl
      have hF : B_States_makeReduced_2 (F_States_makeReduced x0_3 f2 f3 f5 f6 n) x0_3 f2 f3 f5 f6 l2 l3 f1 = some (r, of1) := hF
      unfold B_States_makeReduced_2 at hF
      refine lv_iload_n hx hb d_States_makeReduced_38 rfl (lv_at hl 3 rfl) ?_
      refine lv_bipush (v := 10) hx hb d_States_makeReduced_39 (by decide) ?_
      refine lv_icmp_gt (tgt := 74) hx hb d_States_makeReduced_41 (by decide) (fun c_4 => ?_) (fun c_4 => ?_)
      · rw [if_pos c_4] at hF
        refine lv_iinc (v := (l2 + 1)) (lv' := [(2, .int (l2 + 1)), (0, .ref a0), (1, .ref a4), (3, .int l3)]) hx hb d_States_makeReduced_74 hl (k := 2) rfl (by rfl) (by decide) rfl (fun ls hl => ?_)
        refine lv_goto (tgt := 2) hx hb d_States_makeReduced_77 (by decide) ?_
        exact ih.1 (l2 + 1) 0 f1 hF _ _ _ hP hD hS (lv_sub hl [1, 2, 0] rfl)
      · rw [if_neg c_4] at hF
        refine lv_aload_n hx hb d_States_makeReduced_44 rfl (lv_at hl 1 rfl) ?_
        refine lv_iload_n hx hb d_States_makeReduced_45 rfl (lv_at hl 3 rfl) ?_
        obtain ⟨u_5, hS_5, hF⟩ := rd_bind hF
        have hPc := hP.sub (ws' := (wd_Grammar_isUsed kA a4 a6 v4_0 (.ref a5) v4_2 v4_4 v4_5 v4_6 f6)) [4, 6] rfl
        have hDc := hD.sub (ws' := (wd_Grammar_isUsed kA a4 a6 v4_0 (.ref a5) v4_2 v4_4 v4_5 v4_6 f6)) [4, 6] (by decide) rfl
        have hFc := va_free (wc := (wd_Grammar_isUsed kA a4 a6 v4_0 (.ref a5) v4_2 v4_4 v4_5 v4_6 f6)) hD hS hA [4, 6] rfl
        refine va_calli (va_runV (As := [.int l3]) (rest := []) ⟨hx, hb, hml, hown, hts⟩ (c_Grammar_isUsed l dC dI kA H.size a4 a6 v4_0 (.ref a5) v4_2 v4_4 v4_5 v4_6 l3 f6 u_5 hS_5) (cwV 1 hts (gw_V gw_189 gw_190 gw_191 gw_42 gw_192) rfl rfl rfl (by decide +kernel) ⟨Nat.le_of_ble_eq_true rfl, Nat.le_of_ble_eq_true rfl⟩) ⟨fun a U g mk q => by obtain ⟨q0, q1, qP, qK, qD⟩ := q; exact ⟨q0, q1, qP, va_K.moved (u := U) (U := U.calling g mk a) (Vm.Alike.refl U.vm) qK, qD⟩, va_recv hK hP (ci := 2) (q0 := 4) rfl rfl, fun U hU hW => ⟨rfl, by rw [hU], by rw [hU]; exact hPc, va_K.moved hW.alike hK, hDc.weaken (fun _ _ _ _ => trivial)⟩⟩ rfl rfl hl.1 rfl (lv_room (Nat.le_of_ble_eq_true rfl)) d_States_makeReduced_46 ⟨Nat.zero_le _, Nat.zero_le _⟩) hS (fun q _ h => hFc q h) hFc (fun r1 u t H1 locs ht hvm hw hB hz1 hk1 hS => ?_)
        rw [show r1 = _ from hw]
        obtain ⟨hP1, hK1, hD1⟩ := hB
        rw [ht] at hP1
        obtain ⟨hP, hD⟩ := va_join (wr := [(a0, .inr (6, [.ref a2, .ref a3, .ref a1, .int x0_3, v0_4])), (a1, .inl (kA 0, 280, .inl f1)), (a2, .inl (kA 0, 2255, .inl f2)), (a3, .inl (kA 0, 480, .inl f3)), (a5, .inl (kA 0, 12, .inl f5))]) (w1 := (wd_Grammar_isUsed kA a4 a6 v4_0 (.ref a5) v4_2 v4_4 v4_5 v4_6 f6)) hP hD [4, 6] [0, 1, 2, 3, 5] rfl rfl (by decide) (by decide) hk1 hFc hP1 hD1
        have hP := hP.sub (ws' := (wd_States_makeReduced kA a0 a1 a2 a3 a4 a5 a6 v0_4 v4_0 v4_2 v4_4 v4_5 v4_6 x0_3 f1 f2 f3 f5 f6)) [0, 1, 2, 3, 5, 4, 6] rfl
        have hD := hD.sub (ws' := (wd_States_makeReduced kA a0 a1 a2 a3 a4 a5 a6 v0_4 v4_0 v4_2 v4_4 v4_5 v4_6 x0_3 f1 f2 f3 f5 f6)) [0, 1, 2, 3, 5, 4, 6] (by decide) rfl
        clear hPc hDc hFc hP1 hK1 hD1
        generalize H1 = H at hP hS ⊢
        refine lv_if_eq (tgt := 68) hx hb d_States_makeReduced_49 (by decide) (fun c_6 => ?_) (fun c_6 => ?_)
        · rw [if_pos c_6] at hF
          refine lv_iinc (v := (l3 + 1)) (lv' := [(3, .int (l3 + 1)), (0, .ref a0), (1, .ref a4), (2, .int l2)]) hx hb d_States_makeReduced_68 hl (k := 3) rfl (by rfl) (by decide) rfl (fun ls hl => ?_)
          refine lv_goto (tgt := 38) hx hb d_States_makeReduced_71 (by decide) ?_
          exact ih.2.2 l2 (l3 + 1) f1 hF _ _ _ hP hD hS (lv_sub hl [1, 2, 3, 0] rfl)
        · rw [if_neg c_6] at hF
          refine lv_aload_n hx hb d_States_makeReduced_52 rfl (lv_at hl 0 rfl) ?_
          refine lv_iload_n hx hb d_States_makeReduced_53 rfl (lv_at hl 2 rfl) ?_
          refine lv_iload_n hx hb d_States_makeReduced_54 rfl (lv_at hl 3 rfl) ?_
          refine lv_aload_n hx hb d_States_makeReduced_55 rfl (lv_at hl 1 rfl) ?_
          refine lv_iload_n hx hb d_States_makeReduced_56 rfl (lv_at hl 3 rfl) ?_
          obtain ⟨u_7, hS_7, hF⟩ := rd_bind hF
          have hPc := hP.sub (ws' := (wd_Grammar_sizeOf kA a4 a5 v4_0 v4_2 (.ref a6) v4_4 v4_5 v4_6 f5)) [4, 5] rfl
          have hDc := hD.sub (ws' := (wd_Grammar_sizeOf kA a4 a5 v4_0 v4_2 (.ref a6) v4_4 v4_5 v4_6 f5)) [4, 5] (by decide) rfl
          have hFc := va_free (wc := (wd_Grammar_sizeOf kA a4 a5 v4_0 v4_2 (.ref a6) v4_4 v4_5 v4_6 f5)) hD hS hA [4, 5] rfl
          refine va_calli (va_runV (As := [.int l3]) (rest := [.int l3, .int l2, .ref a0]) ⟨hx, hb, hml, hown, hts⟩ (c_Grammar_sizeOf l dC dI kA H.size a4 a5 v4_0 v4_2 (.ref a6) v4_4 v4_5 v4_6 l3 f5 u_7 hS_7) (cwV 1 hts (gw_V gw_194 gw_55 gw_56 gw_42 gw_57) rfl rfl rfl (by decide +kernel) ⟨Nat.le_of_ble_eq_true rfl, Nat.le_of_ble_eq_true rfl⟩) ⟨fun a U g mk q => by obtain ⟨q0, q1, qP, qK, qD⟩ := q; exact ⟨q0, q1, qP, va_K.moved (u := U) (U := U.calling g mk a) (Vm.Alike.refl U.vm) qK, qD⟩, va_recv hK hP (ci := 2) (q0 := 4) rfl rfl, fun U hU hW => ⟨rfl, by rw [hU], by rw [hU]; exact hPc, va_K.moved hW.alike hK, hDc.weaken (fun _ _ _ _ => trivial)⟩⟩ rfl rfl hl.1 rfl (lv_room (Nat.le_of_ble_eq_true rfl)) d_States_makeReduced_57 ⟨Nat.zero_le _, Nat.zero_le _⟩) hS (fun q _ h => hFc q h) hFc (fun r1 u t H1 locs ht hvm hw hB hz1 hk1 hS => ?_)
          rw [show r1 = _ from hw]
          obtain ⟨hP1, hK1, hD1⟩ := hB
          rw [ht] at hP1
          obtain ⟨hP, hD⟩ := va_join (wr := [(a0, .inr (6, [.ref a2, .ref a3, .ref a1, .int x0_3, v0_4])), (a1, .inl (kA 0, 280, .inl f1)), (a2, .inl (kA 0, 2255, .inl f2)), (a3, .inl (kA 0, 480, .inl f3)), (a6, .inl (kA 1, 12, .inl f6))]) (w1 := (wd_Grammar_sizeOf kA a4 a5 v4_0 v4_2 (.ref a6) v4_4 v4_5 v4_6 f5)) hP hD [4, 5] [0, 1, 2, 3, 6] rfl rfl (by decide) (by decide) hk1 hFc hP1 hD1
          have hP := hP.sub (ws' := (wd_States_makeReduced kA a0 a1 a2 a3 a4 a5 a6 v0_4 v4_0 v4_2 v4_4 v4_5 v4_6 x0_3 f1 f2 f3 f5 f6)) [0, 1, 2, 3, 5, 6, 4] rfl
          have hD := hD.sub (ws' := (wd_States_makeReduced kA a0 a1 a2 a3 a4 a5 a6 v0_4 v4_0 v4_2 v4_4 v4_5 v4_6 x0_3 f1 f2 f3 f5 f6)) [0, 1, 2, 3, 5, 6, 4] (by decide) rfl
          clear hPc hDc hFc hP1 hK1 hD1
          generalize H1 = H at hP hS ⊢
          obtain ⟨u_8, hS_8, hF⟩ := rd_bind hF
          have hPc := hP.sub (ws' := (wd_States_reduceAtEnd kA a0 a1 a2 a3 v0_4 x0_3 f1 f2 f3)) [0, 1, 2, 3] rfl
          have hDc := hD.sub (ws' := (wd_States_reduceAtEnd kA a0 a1 a2 a3 v0_4 x0_3 f1 f2 f3)) [0, 1, 2, 3] (by decide) rfl
          have hFc := va_free (wc := (wd_States_reduceAtEnd kA a0 a1 a2 a3 v0_4 x0_3 f1 f2 f3)) hD hS hA [0, 1, 2, 3] rfl
          refine va_calli (va_runV (As := [.int l2, .int l3, .int u_7]) (rest := []) ⟨hx, hb, hml, hown, hts⟩ (c_States_reduceAtEnd l dC dI kA H.size a0 a1 a2 a3 v0_4 l2 l3 u_7 x0_3 f1 f2 f3 u_8.1 u_8.2 hS_8) (cwV 3 hts (gw_V gw_223 gw_224 gw_225 gw_91 gw_226) rfl rfl rfl (by decide +kernel) ⟨Nat.le_of_ble_eq_true rfl, Nat.le_of_ble_eq_true rfl⟩) ⟨fun a U g mk q => by obtain ⟨q0, q1, qP, qK, qD⟩ := q; exact ⟨q0, q1, qP, va_K.moved (u := U) (U := U.calling g mk a) (Vm.Alike.refl U.vm) qK, qD⟩, va_recv hK hP (ci := 6) (q0 := 0) rfl rfl, fun U hU hW => ⟨rfl, by rw [hU], by rw [hU]; exact hPc, va_K.moved hW.alike hK, hDc.weaken (fun _ _ _ _ => trivial)⟩⟩ rfl rfl hl.1 rfl (lv_room (Nat.le_of_ble_eq_true rfl)) d_States_makeReduced_60 ⟨Nat.zero_le _, Nat.zero_le _⟩) hS (fun q _ h => hFc q h) hFc (fun r1 u t H1 locs ht hvm hw hB hz1 hk1 hS => ?_)
          rw [show r1 = _ from hw]
          obtain ⟨hP1, hK1, hD1⟩ := hB
          rw [ht] at hP1
          obtain ⟨hP, hD⟩ := va_join (wr := [(a4, .inr (2, [v4_0, .ref a5, v4_2, .ref a6, v4_4, v4_5, v4_6])), (a5, .inl (kA 0, 12, .inl f5)), (a6, .inl (kA 1, 12, .inl f6))]) (w1 := (wd_States_reduceAtEnd kA a0 a1 a2 a3 v0_4 x0_3 u_8.2 f2 f3)) hP hD [0, 1, 2, 3] [4, 5, 6] rfl rfl (by decide) (by decide) hk1 hFc hP1 hD1
          have hP := hP.sub (ws' := (wd_States_makeReduced kA a0 a1 a2 a3 a4 a5 a6 v0_4 v4_0 v4_2 v4_4 v4_5 v4_6 x0_3 u_8.2 f2 f3 f5 f6)) [3, 4, 5, 6, 0, 1, 2] rfl
          have hD := hD.sub (ws' := (wd_States_makeReduced kA a0 a1 a2 a3 a4 a5 a6 v0_4 v4_0 v4_2 v4_4 v4_5 v4_6 x0_3 u_8.2 f2 f3 f5 f6)) [3, 4, 5, 6, 0, 1, 2] (by decide) rfl
          clear hPc hDc hFc hP1 hK1 hD1
          generalize H1 = H at hP hS ⊢
          refine lv_if_ne (tgt := 68) hx hb d_States_makeReduced_63 (by decide) (fun c_9 => ?_) (fun c_9 => ?_)
          · rw [if_pos c_9] at hF
            refine lv_iinc (v := (l3 + 1)) (lv' := [(3, .int (l3 + 1)), (0, .ref a0), (1, .ref a4), (2, .int l2)]) hx hb d_States_makeReduced_68 hl (k := 3) rfl (by rfl) (by decide) rfl (fun ls hl => ?_)
            refine lv_goto (tgt := 38) hx hb d_States_makeReduced_71 (by decide) ?_
            exact ih.2.2 l2 (l3 + 1) u_8.2 hF _ _ _ hP hD hS (lv_sub hl [1, 2, 3, 0] rfl)
          · rw [if_neg (fun z => z c_9)] at hF
            refine lv_iconst (v := 0) hx hb d_States_makeReduced_66 (by decide) ?_
            have e0 := Option.some.inj hF
            have q0 := Prod.mk.inj e0
            exact W.zret (v := 0) hx hb hr rfl (fun t ht hW => ⟨⟨0, (), rfl, q0.1, by rw [ht, ← q0.2]; exact hP, va_K.moved hW.alike hK, (by rw [← q0.2]; exact hD)⟩, hS.F ht⟩) hS.2.2 d_States_makeReduced_67 hlocks
def S_States_makeReduced (x0_3 : Int32) (f1 : (Nat → Int32)) (f2 : (Nat → Int32)) (f3 : (Nat → Int32)) (f5 : (Nat → Int32)) (f6 : (Nat → Int32)) : Option (Int32 × (Nat → Int32)) := (F_States_makeReduced x0_3 f2 f3 f5 f6 fuel_ 0 0 0 f1)
set_option maxHeartbeats 4000000 in
set_option maxRecDepth 100000 in
theorem c_States_makeReduced (l : Launch) (dC : Nat → ClassId) (dI : Nat → Nat → Nat) (kA : Nat → ClassId) (sz : Nat) (a0 a1 a2 a3 a4 a5 a6 : Nat) (v0_4 v4_0 v4_2 v4_4 v4_5 v4_6 : Value) (x0_3 : Int32) (f1 : (Nat → Int32)) (f2 : (Nat → Int32)) (f3 : (Nat → Int32)) (f5 : (Nat → Int32)) (f6 : (Nat → Int32)) (r : Int32) (of1 : (Nat → Int32)) (hF : S_States_makeReduced x0_3 f1 f2 f3 f5 f6 = some (r, of1)) : Met l y_States_makeReduced w_States_makeReduced rm_States_makeReduced (va_Pc [.ref a0, .ref a4] (fun U => U.heap.size = sz ∧ va_P (dC, dI) classes (wd_States_makeReduced kA a0 a1 a2 a3 a4 a5 a6 v0_4 v4_0 v4_2 v4_4 v4_5 v4_6 x0_3 f1 f2 f3 f5 f6) U.heap ∧ va_K (dC, dI) classes (tys_ kA) U ∧ va_D (fun _ => True) (wd_States_makeReduced kA a0 a1 a2 a3 a4 a5 a6 v0_4 v4_0 v4_2 v4_4 v4_5 v4_6 x0_3 f1 f2 f3 f5 f6))) (va_Qi (fun (r1 : Int32) (_ : Unit) => r1 = r) (fun _ t => va_P (dC, dI) classes (wd_States_makeReduced kA a0 a1 a2 a3 a4 a5 a6 v0_4 v4_0 v4_2 v4_4 v4_5 v4_6 x0_3 of1 f2 f3 f5 f6) t.heap ∧ va_K (dC, dI) classes (tys_ kA) t ∧ va_D (va_A (wd_States_makeReduced kA a0 a1 a2 a3 a4 a5 a6 v0_4 v4_0 v4_2 v4_4 v4_5 v4_6 x0_3 f1 f2 f3 f5 f6) sz) (wd_States_makeReduced kA a0 a1 a2 a3 a4 a5 a6 v0_4 v4_0 v4_2 v4_4 v4_5 v4_6 x0_3 of1 f2 f3 f5 f6)) (va_A (wd_States_makeReduced kA a0 a1 a2 a3 a4 a5 a6 v0_4 v4_0 v4_2 v4_4 v4_5 v4_6 x0_3 f1 f2 f3 f5 f6) sz)) 0 0 (va_A (wd_States_makeReduced kA a0 a1 a2 a3 a4 a5 a6 v0_4 v4_0 v4_2 v4_4 v4_5 v4_6 x0_3 f1 f2 f3 f5 f6) sz) := by
  refine Met.ofW (cc := b_States_makeReduced) (maxL := 4) (ret := some .boolean) (by decide) rfl ?_
  intro p e s m args below meth c s₁ B hml hv
  obtain ⟨rfl, hsz, hP, hK, hD0⟩ := hv
  have hx := B.exec
  have hb := B.bytes
  have hr := B.returns
  have hts := atoms_spec (ws := w_States_makeReduced) B.pre
  have hown : s.vm.findClass R_States = some m.cls := findClass_of_methodNamed B.named
  have hg := fun (w : Cond) (h : w ∈ gw) => hts w (List.mem_cons_of_mem _ h)
  have hlocks := B.notSynchronized
  subst hsz
  have hD := hD0.self (sz := s.heap.size)
  generalize hAe : va_A (wd_States_makeReduced kA a0 a1 a2 a3 a4 a5 a6 v0_4 v4_0 v4_2 v4_4 v4_5 v4_6 x0_3 f1 f2 f3 f5 f6) s.heap.size = A at hD ⊢
  have hA : ∀ q : Nat, s.heap.size ≤ q → A q := fun q h => by rw [← hAe]; exact Or.inr h
  have hS : va_S A s.heap s.heap [] := va_S.rf
  have hl := lv_entry ([.ref a0, .ref a4]) (n := 4) (Nat.le_of_ble_eq_true rfl)
  rw [lg_entry_eq]
  generalize (lg_sl ([.ref a0, .ref a4]) ++ List.replicate (4 - (lg_sl ([.ref a0, .ref a4])).length) Slot.unset).toArray = ls at hl ⊢
  have hl : lv_has ls 4 [(0, .ref a0), (1, .ref a4)] := hl
  unfold S_States_makeReduced at hF
  have ih := L_States_makeReduced (l := l) (e := e) (below := below) hx hb hr hlocks hml hown hts hA hK a0 a1 a2 a3 a4 a5 a6 v0_4 v4_0 v4_2 v4_4 v4_5 v4_6 x0_3 f2 f3 f5 f6 r of1 fuel_
  refine lv_iconst (v := 0) hx hb d_States_makeReduced_0 (by decide) ?_
  refine lv_istore_n (lv' := [(2, .int 0), (0, .ref a0), (1, .ref a4)]) hx hb d_States_makeReduced_1 rfl hl (by decide) rfl (fun ls hl => ?_)
  exact ih.1 0 0 f1 hF _ _ _ hP hD hS (lv_sub hl [1, 2, 0] rfl)
-- ===== RepairDesk$States.build(LRepairDesk$Grammar;)Z
abbrev wd_States_build (kA : Nat → ClassId) (a0 a1 a2 a3 a4 a5 a6 a7 a8 a9 : Nat) (v4_4 v4_6 : Value) (x0_3 : Int32) (x0_4 : Int32) (f1 : (Nat → Int32)) (f2 : (Nat → Int32)) (f3 : (Nat → Int32)) (f5 : (Nat → Int32)) (f6 : (Nat → Int32)) (f7 : (Nat → Int32)) (f8 : (Nat → Int32)) (f9 : (Nat → Int32)) : va_W := [(a0, .inr (6, [.ref a2, .ref a3, .ref a1, .int x0_3, .int x0_4])), (a1, .inl (kA 0, 280, .inl f1)), (a2, .inl (kA 0, 2255, .inl f2)), (a3, .inl (kA 0, 480, .inl f3)), (a4, .inr (2, [.ref a6, .ref a8, .ref a7, .ref a9, v4_4, .ref a5, v4_6])), (a5, .inl (kA 0, 6, .inl f5)), (a6, .inl (kA 0, 12, .inl f6)), (a7, .inl (kA 0, 48, .inl f7)), (a8, .inl (kA 0, 12, .inl f8)), (a9, .inl (kA 1, 12, .inl f9))]
abbrev rm_States_build : Room := { frames := 6, cells := 0, slots := 0, locals := 146 }
def B_States_build_0 (K : Nat → Int32 → Int32 → Int32 → (Nat → Int32) → (Nat → Int32) → (Nat → Int32) → Option (Int32 × Int32 × Int32 × (Nat → Int32) × (Nat → Int32) × (Nat → Int32))) (f5 : (Nat → Int32)) (f6 : (Nat → Int32)) (f7 : (Nat → Int32)) (f8 : (Nat → Int32)) (f9 : (Nat → Int32)) (l2 : Int32) (x0_3 : Int32) (x0_4 : Int32) (f1 : (Nat → Int32)) (f2 : (Nat → Int32)) (f3 : (Nat → Int32)) : Option (Int32 × Int32 × Int32 × (Nat → Int32) × (Nat → Int32) × (Nat → Int32)) := (if (x0_3 * 55) ≤ l2 then (some (1, x0_3, x0_4, f1, f2, f3)) else (if (l2 : Int32) < 0 ∨ 2255 ≤ (Int32.toNatClampNeg l2) then none else ((S_Integer_bitCount (f2 (Int32.toNatClampNeg l2))).bind fun u_3 => (K 0 (l2 + 1) x0_3 (x0_4 + u_3) f1 f2 f3))))
def F_States_build (f5 : (Nat → Int32)) (f6 : (Nat → Int32)) (f7 : (Nat → Int32)) (f8 : (Nat → Int32)) (f9 : (Nat → Int32)) : Nat → Nat → Int32 → Int32 → Int32 → (Nat → Int32) → (Nat → Int32) → (Nat → Int32) → Option (Int32 × Int32 × Int32 × (Nat → Int32) × (Nat → Int32) × (Nat → Int32))
  | 0 => fun _ _ _ _ _ _ _ => none
  | n + 1 => fun hd l2 x0_3 x0_4 f1 f2 f3 => match hd with
    | 0 => B_States_build_0 (F_States_build f5 f6 f7 f8 f9 n) f5 f6 f7 f8 f9 l2 x0_3 x0_4 f1 f2 f3
    | _ => none
set_option maxHeartbeats 4000000 in
set_option maxRecDepth 100000 in
theorem L_States_build {p : Program} {l : Launch} {e : Env} {s : State} {m : MethodId} {args : Array Value} {below : List Frame} {meth : Method} {c : Code} {A : Nat → Prop} {dC : Nat → ClassId} {dI : Nat → Nat → Nat} {kA : Nat → ClassId} (hx : p.tables.exec = Jvm.exec) (hb : c.code = b_States_build) (hr : meth.sig.returnType = some .boolean) (hlocks : meth.locks = false) (hml : c.maxLocals = 3) (hown : s.vm.findClass R_States = some m.cls) (hts : ∀ w ∈ w_States_build, w.before args s = true) (hA : ∀ q : Nat, s.heap.size ≤ q → A q) (hK : va_K (dC, dI) classes (tys_ kA) s) (a0 a1 a2 a3 a4 a5 a6 a7 a8 a9 : Nat) (v4_4 v4_6 : Value) (f5 : (Nat → Int32)) (f6 : (Nat → Int32)) (f7 : (Nat → Int32)) (f8 : (Nat → Int32)) (f9 : (Nat → Int32)) (r : Int32) (ox0_3 : Int32) (ox0_4 : Int32) (of1 : (Nat → Int32)) (of2 : (Nat → Int32)) (of3 : (Nat → Int32)) : ∀ n : Nat, (∀ (l2 : Int32) (x0_3 : Int32) (x0_4 : Int32) (f1 : (Nat → Int32)) (f2 : (Nat → Int32)) (f3 : (Nat → Int32)), F_States_build f5 f6 f7 f8 f9 n 0 l2 x0_3 x0_4 f1 f2 f3 = some (r, ox0_3, ox0_4, of1, of2, of3) → ∀ (H : Heap) (locs : List Loc) (ls : Array Slot), va_P (dC, dI) classes (wd_States_build kA a0 a1 a2 a3 a4 a5 a6 a7 a8 a9 v4_4 v4_6 x0_3 x0_4 f1 f2 f3 f5 f6 f7 f8 f9) H → va_D A (wd_States_build kA a0 a1 a2 a3 a4 a5 a6 a7 a8 a9 v4_4 v4_6 x0_3 x0_4 f1 f2 f3 f5 f6 f7 f8 f9) → va_S A s.heap H locs → lv_has ls 3 [(0, .ref a0), (1, .ref a4), (2, .int l2)] → W p l e (headSpec w_States_build rm_States_build).room s m args below meth c H locs 0 0 (MQ below (va_Qi (fun (r1 : Int32) (_ : Unit) => r1 = r) (fun _ t => va_P (dC, dI) classes (wd_States_build kA a0 a1 a2 a3 a4 a5 a6 a7 a8 a9 v4_4 v4_6 ox0_3 ox0_4 of1 of2 of3 f5 f6 f7 f8 f9) t.heap ∧ va_K (dC, dI) classes (tys_ kA) t ∧ va_D A (wd_States_build kA a0 a1 a2 a3 a4 a5 a6 a7 a8 a9 v4_4 v4_6 ox0_3 ox0_4 of1 of2 of3 f5 f6 f7 f8 f9)) A) args s 0 0 A) (F0 m 53 ls [])) := by
  have hg := fun (w : Cond) (h : w ∈ gw) => hts w (List.mem_cons_of_mem _ h)
  intro n
  induction n with
  | zero =>
    exact fun _ _ _ _ _ _ hF => absurd (show (none : Option _) = some _ from hF) (fun z => by cases z)
  | succ n ih =>
    intro l2 x0_3 x0_4 f1 f2 f3 hF H locs ls hP hD hS hl
    have hF : B_States_build_0 (F_States_build f5 f6 f7 f8 f9 n) f5 f6 f7 f8 f9 l2 x0_3 x0_4 f1 f2 f3 = some (r, ox0_3, ox0_4, of1, of2, of3) := hF
    unfold B_States_build_0 at hF
    refine lv_iload_n hx hb d_States_build_53 rfl (lv_at hl 2 rfl) ?_
    refine lv_aload_n hx hb d_States_build_54 rfl (lv_at hl 0 rfl) ?_
    refine va_get (D := (dC, dI)) (ci := 6) (v := .int x0_3) (C := R_States) (T := F_States) (N := 5) hx hb hg iw_States hown hK hP 0 rfl rfl 3 (by decide) (hg _ gw_79) (fun _ h9 => h9) rfl d_States_build_55 ?_
    refine lv_bipush (v := 55) hx hb d_States_build_58 (by decide) ?_
    refine lv_imul hx hb d_States_build_60 ?_
    refine lv_icmp_ge (tgt := 88) hx hb d_States_build_61 (by decide) (fun c_1 => ?_) (fun c_1 => ?_)
    · rw [if_pos c_1] at hF
      refine lv_iconst (v := 1) hx hb d_States_build_88 (by decide) ?_
      have e0 := Option.some.inj hF
      have q0 := Prod.mk.inj e0
      have q1 := Prod.mk.inj q0.2
      have q2 := Prod.mk.inj q1.2
      have q3 := Prod.mk.inj q2.2
      have q4 := Prod.mk.inj q3.2
      exact W.zret (v := 1) hx hb hr rfl (fun t ht hW => ⟨⟨1, (), rfl, q0.1, by rw [ht, ← q1.1, ← q2.1, ← q3.1, ← q4.1, ← q4.2]; exact hP, va_K.moved hW.alike hK, (by rw [← q1.1, ← q2.1, ← q3.1, ← q4.1, ← q4.2]; exact hD)⟩, hS.F ht⟩) hS.2.2 d_States_build_89 hlocks
    · rw [if_neg c_1] at hF
      refine lv_aload_n hx hb d_States_build_64 rfl (lv_at hl 0 rfl) ?_
      refine lv_dup hx hb d_States_build_65 rfl ?_
      refine va_get (D := (dC, dI)) (ci := 6) (v := .int x0_4) (C := R_States) (T := F_States) (N := 5) hx hb hg iw_States hown hK hP 0 rfl rfl 4 (by decide) (hg _ gw_187) (fun _ h9 => h9) rfl d_States_build_66 ?_
      refine lv_aload_n hx hb d_States_build_69 rfl (lv_at hl 0 rfl) ?_
      refine va_get (D := (dC, dI)) (ci := 6) (v := .ref a2) (C := R_States) (T := F_States) (N := 5) hx hb hg iw_States hown hK hP 0 rfl rfl 0 (by decide) (hg _ gw_188) (fun _ h9 => h9) rfl d_States_build_70 ?_
      refine lv_iload_n hx hb d_States_build_73 rfl (lv_at hl 2 rfl) ?_
      obtain ⟨h_2, hF⟩ := rd_chk hF
      refine va_iald hx hb hK hP 2 0 rfl rfl h_2 d_States_build_74 ?_
      obtain ⟨u_3, hS_3, hF⟩ := rd_bind hF
      have hPc := hP.sub (ws' := (wd_Integer_bitCount kA )) [] rfl
      have hDc := hD.sub (ws' := (wd_Integer_bitCount kA )) [] (by decide) rfl
      have hFc := va_free (wc := (wd_Integer_bitCount kA )) hD hS hA [] rfl
      refine va_calli (va_runS (As := [.int (f2 (Int32.toNatClampNeg l2))]) (rest := [.int x0_4, .ref a0]) ⟨hx, hb, hml, hown, hts⟩ (c_Integer_bitCount l dC dI kA H.size (f2 (Int32.toNatClampNeg l2)) u_3 hS_3) (va_cwS 1 hts (gw_T gw_227 gw_228 gw_229 gw_230) rfl rfl rfl (by decide +kernel) ⟨Nat.le_of_ble_eq_true rfl, Nat.le_of_ble_eq_true rfl⟩) ⟨fun a U g mk q => by obtain ⟨q0, q1, qP, qK, qD⟩ := q; exact ⟨q0, q1, qP, va_K.moved (u := U) (U := U.calling g mk a) (Vm.Alike.refl U.vm) qK, qD⟩, fun U hU hW => ⟨rfl, by rw [hU], by rw [hU]; exact hPc, va_K.moved hW.alike hK, hDc.weaken (fun _ _ _ _ => trivial)⟩⟩ rfl rfl hl.1 rfl (lv_room (Nat.le_of_ble_eq_true rfl)) d_States_build_75 ⟨Nat.zero_le _, Nat.zero_le _⟩) hS (fun q _ h => hFc q h) hFc (fun r1 u t H1 locs ht hvm hw hB hz1 hk1 hS => ?_)
      rw [show r1 = _ from hw]
      obtain ⟨hP1, hK1, hD1⟩ := hB
      rw [ht] at hP1
      obtain ⟨hP, hD⟩ := va_join (wr := [(a0, .inr (6, [.ref a2, .ref a3, .ref a1, .int x0_3, .int x0_4])), (a1, .inl (kA 0, 280, .inl f1)), (a2, .inl (kA 0, 2255, .inl f2)), (a3, .inl (kA 0, 480, .inl f3)), (a4, .inr (2, [.ref a6, .ref a8, .ref a7, .ref a9, v4_4, .ref a5, v4_6])), (a5, .inl (kA 0, 6, .inl f5)), (a6, .inl (kA 0, 12, .inl f6)), (a7, .inl (kA 0, 48, .inl f7)), (a8, .inl (kA 0, 12, .inl f8)), (a9, .inl (kA 1, 12, .inl f9))]) (w1 := (wd_Integer_bitCount kA )) hP hD [] [0, 1, 2, 3, 4, 5, 6, 7, 8, 9] rfl rfl (by decide) (by decide) hk1 hFc hP1 hD1
      have hP := hP.sub (ws' := (wd_States_build kA a0 a1 a2 a3 a4 a5 a6 a7 a8 a9 v4_4 v4_6 x0_3 x0_4 f1 f2 f3 f5 f6 f7 f8 f9)) [0, 1, 2, 3, 4, 5, 6, 7, 8, 9] rfl
      have hD := hD.sub (ws' := (wd_States_build kA a0 a1 a2 a3 a4 a5 a6 a7 a8 a9 v4_4 v4_6 x0_3 x0_4 f1 f2 f3 f5 f6 f7 f8 f9)) [0, 1, 2, 3, 4, 5, 6, 7, 8, 9] (by decide) rfl
      clear hPc hDc hFc hP1 hK1 hD1
      generalize H1 = H at hP hS ⊢
      refine lv_iadd hx hb d_States_build_78 ?_
      refine va_put (D := (dC, dI)) (ci := 6) (v := .int (x0_4 + u_3)) (ty := .int) (C := R_States) (T := F_States) (N := 5) hx hb hg iw_States t_States t_States_ok n_States hown hK hP hD hS 0 rfl rfl 4 (by decide) (hg _ gw_187) (fun _ h9 => h9) rfl (by decide +kernel) rfl rfl (Nat.le_of_ble_eq_true rfl) d_States_build_79 (fun H locs hP hD hS => ?_)
      have hP : va_P (dC, dI) classes (wd_States_build kA a0 a1 a2 a3 a4 a5 a6 a7 a8 a9 v4_4 v4_6 x0_3 (x0_4 + u_3) f1 f2 f3 f5 f6 f7 f8 f9) H := hP
      have hD : va_D A (wd_States_build kA a0 a1 a2 a3 a4 a5 a6 a7 a8 a9 v4_4 v4_6 x0_3 (x0_4 + u_3) f1 f2 f3 f5 f6 f7 f8 f9) := hD
      refine lv_iinc (v := (l2 + 1)) (lv' := [(2, .int (l2 + 1)), (0, .ref a0), (1, .ref a4)]) hx hb d_States_build_82 hl (k := 2) rfl (by rfl) (by decide) rfl (fun ls hl => ?_)
      refine lv_goto (tgt := 53) hx hb d_States_build_85 (by decide) ?_
      exact ih (l2 + 1) x0_3 (x0_4 + u_3) f1 f2 f3 hF _ _ _ hP hD hS (lv_sub hl [1, 2, 0] rfl)
def S_States_build (x0_3 : Int32) (x0_4 : Int32) (f1 : (Nat → Int32)) (f2 : (Nat → Int32)) (f3 : (Nat → Int32)) (f5 : (Nat → Int32)) (f6 : (Nat → Int32)) (f7 : (Nat → Int32)) (f8 : (Nat → Int32)) (f9 : (Nat → Int32)) : Option (Int32 × Int32 × Int32 × (Nat → Int32) × (Nat → Int32) × (Nat → Int32)) := ((S_States_forget x0_3 x0_4).bind fun u_4 => ((S_States_clearSet 0 f2).bind fun u_5 => (if (50 : Int32) < 0 ∨ 2255 ≤ (Int32.toNatClampNeg 50) then none else ((S_States_close 0 (upd u_5 (Int32.toNatClampNeg 50) 64) f5 f6 f7 f8 f9).bind fun u_7 => ((S_States_makeTargets 1 u_7 f3 f5 f6 f7 f8 f9).bind fun u_8 => (if u_8.1 = 0 then ((S_States_forget u_8.2.1 u_4.2).bind fun u_10 => (some (0, u_10.1, u_10.2, f1, u_8.2.2.1, u_8.2.2.2))) else ((S_States_makeReduced u_8.2.1 f1 u_8.2.2.1 u_8.2.2.2 f8 f9).bind fun u_11 => (if ¬ u_11.1 = 0 then (F_States_build f5 f6 f7 f8 f9 fuel_ 0 0 u_8.2.1 u_4.2 u_11.2 u_8.2.2.1 u_8.2.2.2) else ((S_States_forget u_8.2.1 u_4.2).bind fun u_13 => (some (0, u_13.1, u_13.2, u_11.2, u_8.2.2.1, u_8.2.2.2)))))))))))
set_option maxHeartbeats 4000000 in
set_option maxRecDepth 100000 in
theorem c_States_build (l : Launch) (dC : Nat → ClassId) (dI : Nat → Nat → Nat) (kA : Nat → ClassId) (sz : Nat) (a0 a1 a2 a3 a4 a5 a6 a7 a8 a9 : Nat) (v4_4 v4_6 : Value) (x0_3 : Int32) (x0_4 : Int32) (f1 : (Nat → Int32)) (f2 : (Nat → Int32)) (f3 : (Nat → Int32)) (f5 : (Nat → Int32)) (f6 : (Nat → Int32)) (f7 : (Nat → Int32)) (f8 : (Nat → Int32)) (f9 : (Nat → Int32)) (r : Int32) (ox0_3 : Int32) (ox0_4 : Int32) (of1 : (Nat → Int32)) (of2 : (Nat → Int32)) (of3 : (Nat → Int32)) (hF : S_States_build x0_3 x0_4 f1 f2 f3 f5 f6 f7 f8 f9 = some (r, ox0_3, ox0_4, of1, of2, of3)) : Met l y_States_build w_States_build rm_States_build (va_Pc [.ref a0, .ref a4] (fun U => U.heap.size = sz ∧ va_P (dC, dI) classes (wd_States_build kA a0 a1 a2 a3 a4 a5 a6 a7 a8 a9 v4_4 v4_6 x0_3 x0_4 f1 f2 f3 f5 f6 f7 f8 f9) U.heap ∧ va_K (dC, dI) classes (tys_ kA) U ∧ va_D (fun _ => True) (wd_States_build kA a0 a1 a2 a3 a4 a5 a6 a7 a8 a9 v4_4 v4_6 x0_3 x0_4 f1 f2 f3 f5 f6 f7 f8 f9))) (va_Qi (fun (r1 : Int32) (_ : Unit) => r1 = r) (fun _ t => va_P (dC, dI) classes (wd_States_build kA a0 a1 a2 a3 a4 a5 a6 a7 a8 a9 v4_4 v4_6 ox0_3 ox0_4 of1 of2 of3 f5 f6 f7 f8 f9) t.heap ∧ va_K (dC, dI) classes (tys_ kA) t ∧ va_D (va_A (wd_States_build kA a0 a1 a2 a3 a4 a5 a6 a7 a8 a9 v4_4 v4_6 x0_3 x0_4 f1 f2 f3 f5 f6 f7 f8 f9) sz) (wd_States_build kA a0 a1 a2 a3 a4 a5 a6 a7 a8 a9 v4_4 v4_6 ox0_3 ox0_4 of1 of2 of3 f5 f6 f7 f8 f9)) (va_A (wd_States_build kA a0 a1 a2 a3 a4 a5 a6 a7 a8 a9 v4_4 v4_6 x0_3 x0_4 f1 f2 f3 f5 f6 f7 f8 f9) sz)) 0 0 (va_A (wd_States_build kA a0 a1 a2 a3 a4 a5 a6 a7 a8 a9 v4_4 v4_6 x0_3 x0_4 f1 f2 f3 f5 f6 f7 f8 f9) sz) := by
  refine Met.ofW (cc := b_States_build) (maxL := 3) (ret := some .boolean) (by decide) rfl ?_
  intro p e s m args below meth c s₁ B hml hv
  obtain ⟨rfl, hsz, hP, hK, hD0⟩ := hv
  have hx := B.exec
  have hb := B.bytes
  have hr := B.returns
  have hts := atoms_spec (ws := w_States_build) B.pre
  have hown : s.vm.findClass R_States = some m.cls := findClass_of_methodNamed B.named
  have hg := fun (w : Cond) (h : w ∈ gw) => hts w (List.mem_cons_of_mem _ h)
  have hlocks := B.notSynchronized
  subst hsz
  have hD := hD0.self (sz := s.heap.size)
  generalize hAe : va_A (wd_States_build kA a0 a1 a2 a3 a4 a5 a6 a7 a8 a9 v4_4 v4_6 x0_3 x0_4 f1 f2 f3 f5 f6 f7 f8 f9) s.heap.size = A at hD ⊢
  have hA : ∀ q : Nat, s.heap.size ≤ q → A q := fun q h => by rw [← hAe]; exact Or.inr h
  have hS : va_S A s.heap s.heap [] := va_S.rf
  have hl := lv_entry ([.ref a0, .ref a4]) (n := 3) (Nat.le_of_ble_eq_true rfl)
  rw [lg_entry_eq]
  generalize (lg_sl ([.ref a0, .ref a4]) ++ List.replicate (3 - (lg_sl ([.ref a0, .ref a4])).length) Slot.unset).toArray = ls at hl ⊢
  have hl : lv_has ls 3 [(0, .ref a0), (1, .ref a4)] := hl
  unfold S_States_build at hF
  have ih := L_States_build (l := l) (e := e) (below := below) hx hb hr hlocks hml hown hts hA hK a0 a1 a2 a3 a4 a5 a6 a7 a8 a9 v4_4 v4_6 f5 f6 f7 f8 f9 r ox0_3 ox0_4 of1 of2 of3 fuel_
  refine lv_aload_n hx hb d_States_build_0 rfl (lv_at hl 0 rfl) ?_
  obtain ⟨u_4, hS_4, hF⟩ := rd_bind hF
  have hPc := hP.sub (ws' := (wd_States_forget kA a0 (.ref a2) (.ref a3) (.ref a1) x0_3 x0_4)) [0] rfl
  have hDc := hD.sub (ws' := (wd_States_forget kA a0 (.ref a2) (.ref a3) (.ref a1) x0_3 x0_4)) [0] (by decide) rfl
  have hFc := va_free (wc := (wd_States_forget kA a0 (.ref a2) (.ref a3) (.ref a1) x0_3 x0_4)) hD hS hA [0] rfl
  refine va_callv (va_runV (As := []) (rest := []) ⟨hx, hb, hml, hown, hts⟩ (c_States_forget l dC dI kA s.heap.size a0 (.ref a2) (.ref a3) (.ref a1) x0_3 x0_4 u_4.1 u_4.2 hS_4) (cwV 0 hts (gw_V gw_231 gw_232 gw_233 gw_91 gw_234) rfl rfl rfl (by decide +kernel) ⟨Nat.le_of_ble_eq_true rfl, Nat.le_of_ble_eq_true rfl⟩) ⟨fun a U g mk q => by obtain ⟨q0, q1, qP, qK, qD⟩ := q; exact ⟨q0, q1, qP, va_K.moved (u := U) (U := U.calling g mk a) (Vm.Alike.refl U.vm) qK, qD⟩, va_recv hK hP (ci := 6) (q0 := 0) rfl rfl, fun U hU hW => ⟨rfl, by rw [hU], by rw [hU]; exact hPc, va_K.moved hW.alike hK, hDc.weaken (fun _ _ _ _ => trivial)⟩⟩ rfl rfl hl.1 rfl (lv_room (Nat.le_of_ble_eq_true rfl)) d_States_build_1 ⟨Nat.zero_le _, Nat.zero_le _⟩) hS (fun q _ h => hFc q h) hFc (fun u t H1 locs ht hvm hw hB hz1 hk1 hS => ?_)
  obtain ⟨hP1, hK1, hD1⟩ := hB
  rw [ht] at hP1
  obtain ⟨hP, hD⟩ := va_join (wr := [(a1, .inl (kA 0, 280, .inl f1)), (a2, .inl (kA 0, 2255, .inl f2)), (a3, .inl (kA 0, 480, .inl f3)), (a4, .inr (2, [.ref a6, .ref a8, .ref a7, .ref a9, v4_4, .ref a5, v4_6])), (a5, .inl (kA 0, 6, .inl f5)), (a6, .inl (kA 0, 12, .inl f6)), (a7, .inl (kA 0, 48, .inl f7)), (a8, .inl (kA 0, 12, .inl f8)), (a9, .inl (kA 1, 12, .inl f9))]) (w1 := (wd_States_forget kA a0 (.ref a2) (.ref a3) (.ref a1) u_4.1 u_4.2)) hP hD [0] [1, 2, 3, 4, 5, 6, 7, 8, 9] rfl rfl (by decide) (by decide) hk1 hFc hP1 hD1
  have hP := hP.sub (ws' := (wd_States_build kA a0 a1 a2 a3 a4 a5 a6 a7 a8 a9 v4_4 v4_6 u_4.1 u_4.2 f1 f2 f3 f5 f6 f7 f8 f9)) [9, 0, 1, 2, 3, 4, 5, 6, 7, 8] rfl
  have hD := hD.sub (ws' := (wd_States_build kA a0 a1 a2 a3 a4 a5 a6 a7 a8 a9 v4_4 v4_6 u_4.1 u_4.2 f1 f2 f3 f5 f6 f7 f8 f9)) [9, 0, 1, 2, 3, 4, 5, 6, 7, 8] (by decide) rfl
  clear hPc hDc hFc hP1 hK1 hD1
  generalize H1 = H at hP hS ⊢
  refine lv_aload_n hx hb d_States_build_4 rfl (lv_at hl 0 rfl) ?_
  refine lv_iconst (v := 0) hx hb d_States_build_5 (by decide) ?_
  obtain ⟨u_5, hS_5, hF⟩ := rd_bind hF
  have hPc := hP.sub (ws' := (wd_States_clearSet kA a0 a2 (.ref a3) (.ref a1) (.int u_4.1) (.int u_4.2) f2)) [0, 2] rfl
  have hDc := hD.sub (ws' := (wd_States_clearSet kA a0 a2 (.ref a3) (.ref a1) (.int u_4.1) (.int u_4.2) f2)) [0, 2] (by decide) rfl
  have hFc := va_free (wc := (wd_States_clearSet kA a0 a2 (.ref a3) (.ref a1) (.int u_4.1) (.int u_4.2) f2)) hD hS hA [0, 2] rfl
  refine va_callv (va_runV (As := [.int 0]) (rest := []) ⟨hx, hb, hml, hown, hts⟩ (c_States_clearSet l dC dI kA H.size a0 a2 (.ref a3) (.ref a1) (.int u_4.1) (.int u_4.2) 0 f2 u_5 hS_5) (cwV 1 hts (gw_V gw_201 gw_202 gw_203 gw_91 gw_204) rfl rfl rfl (by decide +kernel) ⟨Nat.le_of_ble_eq_true rfl, Nat.le_of_ble_eq_true rfl⟩) ⟨fun a U g mk q => by obtain ⟨q0, q1, qP, qK, qD⟩ := q; exact ⟨q0, q1, qP, va_K.moved (u := U) (U := U.calling g mk a) (Vm.Alike.refl U.vm) qK, qD⟩, va_recv hK hP (ci := 6) (q0 := 0) rfl rfl, fun U hU hW => ⟨rfl, by rw [hU], by rw [hU]; exact hPc, va_K.moved hW.alike hK, hDc.weaken (fun _ _ _ _ => trivial)⟩⟩ rfl rfl hl.1 rfl (lv_room (Nat.le_of_ble_eq_true rfl)) d_States_build_6 ⟨Nat.zero_le _, Nat.zero_le _⟩) hS (fun q _ h => hFc q h) hFc (fun u t H1 locs ht hvm hw hB hz1 hk1 hS => ?_)
  obtain ⟨hP1, hK1, hD1⟩ := hB
  rw [ht] at hP1
  obtain ⟨hP, hD⟩ := va_join (wr := [(a1, .inl (kA 0, 280, .inl f1)), (a3, .inl (kA 0, 480, .inl f3)), (a4, .inr (2, [.ref a6, .ref a8, .ref a7, .ref a9, v4_4, .ref a5, v4_6])), (a5, .inl (kA 0, 6, .inl f5)), (a6, .inl (kA 0, 12, .inl f6)), (a7, .inl (kA 0, 48, .inl f7)), (a8, .inl (kA 0, 12, .inl f8)), (a9, .inl (kA 1, 12, .inl f9))]) (w1 := (wd_States_clearSet kA a0 a2 (.ref a3) (.ref a1) (.int u_4.1) (.int u_4.2) u_5)) hP hD [0, 2] [1, 3, 4, 5, 6, 7, 8, 9] rfl rfl (by decide) (by decide) hk1 hFc hP1 hD1
  have hP := hP.sub (ws' := (wd_States_build kA a0 a1 a2 a3 a4 a5 a6 a7 a8 a9 v4_4 v4_6 u_4.1 u_4.2 f1 u_5 f3 f5 f6 f7 f8 f9)) [8, 0, 9, 1, 2, 3, 4, 5, 6, 7] rfl
  have hD := hD.sub (ws' := (wd_States_build kA a0 a1 a2 a3 a4 a5 a6 a7 a8 a9 v4_4 v4_6 u_4.1 u_4.2 f1 u_5 f3 f5 f6 f7 f8 f9)) [8, 0, 9, 1, 2, 3, 4, 5, 6, 7] (by decide) rfl
  clear hPc hDc hFc hP1 hK1 hD1
  generalize H1 = H at hP hS ⊢
  refine lv_aload_n hx hb d_States_build_9 rfl (lv_at hl 0 rfl) ?_
  refine va_get (D := (dC, dI)) (ci := 6) (v := .ref a2) (C := R_States) (T := F_States) (N := 5) hx hb hg iw_States hown hK hP 0 rfl rfl 0 (by decide) (hg _ gw_188) (fun _ h9 => h9) rfl d_States_build_10 ?_
  refine lv_bipush (v := 50) hx hb d_States_build_13 (by decide) ?_
  refine lv_bipush (v := 64) hx hb d_States_build_15 (by decide) ?_
  obtain ⟨h_6, hF⟩ := rd_chk hF
  refine va_iast hx hb hK hP hD hS 2 0 rfl rfl h_6 d_States_build_17 (fun H locs hP hD hS => ?_)
  have hP : va_P (dC, dI) classes (wd_States_build kA a0 a1 a2 a3 a4 a5 a6 a7 a8 a9 v4_4 v4_6 u_4.1 u_4.2 f1 (upd u_5 (Int32.toNatClampNeg 50) 64) f3 f5 f6 f7 f8 f9) H := hP
  have hD : va_D A (wd_States_build kA a0 a1 a2 a3 a4 a5 a6 a7 a8 a9 v4_4 v4_6 u_4.1 u_4.2 f1 (upd u_5 (Int32.toNatClampNeg 50) 64) f3 f5 f6 f7 f8 f9) := hD
  refine lv_aload_n hx hb d_States_build_18 rfl (lv_at hl 0 rfl) ?_
  refine lv_aload_n hx hb d_States_build_19 rfl (lv_at hl 1 rfl) ?_
  refine lv_iconst (v := 0) hx hb d_States_build_20 (by decide) ?_
  obtain ⟨u_7, hS_7, hF⟩ := rd_bind hF
  have hPc := hP.sub (ws' := (wd_States_close kA a0 a2 a4 a5 a6 a7 a8 a9 (.ref a3) (.ref a1) (.int u_4.1) (.int u_4.2) v4_4 v4_6 (upd u_5 (Int32.toNatClampNeg 50) 64) f5 f6 f7 f8 f9)) [0, 2, 4, 5, 6, 7, 8, 9] rfl
  have hDc := hD.sub (ws' := (wd_States_close kA a0 a2 a4 a5 a6 a7 a8 a9 (.ref a3) (.ref a1) (.int u_4.1) (.int u_4.2) v4_4 v4_6 (upd u_5 (Int32.toNatClampNeg 50) 64) f5 f6 f7 f8 f9)) [0, 2, 4, 5, 6, 7, 8, 9] (by decide) rfl
  have hFc := va_free (wc := (wd_States_close kA a0 a2 a4 a5 a6 a7 a8 a9 (.ref a3) (.ref a1) (.int u_4.1) (.int u_4.2) v4_4 v4_6 (upd u_5 (Int32.toNatClampNeg 50) 64) f5 f6 f7 f8 f9)) hD hS hA [0, 2, 4, 5, 6, 7, 8, 9] rfl
  refine va_callv (va_runV (As := [.ref a4, .int 0]) (rest := []) ⟨hx, hb, hml, hown, hts⟩ (c_States_close l dC dI kA H.size a0 a2 a4 a5 a6 a7 a8 a9 (.ref a3) (.ref a1) (.int u_4.1) (.int u_4.2) v4_4 v4_6 0 (upd u_5 (Int32.toNatClampNeg 50) 64) f5 f6 f7 f8 f9 u_7 hS_7) (cwV 2 hts (gw_V gw_213 gw_214 gw_215 gw_91 gw_216) rfl rfl rfl (by decide +kernel) ⟨Nat.le_of_ble_eq_true rfl, Nat.le_of_ble_eq_true rfl⟩) ⟨fun a U g mk q => by obtain ⟨q0, q1, qP, qK, qD⟩ := q; exact ⟨q0, q1, qP, va_K.moved (u := U) (U := U.calling g mk a) (Vm.Alike.refl U.vm) qK, qD⟩, va_recv hK hP (ci := 6) (q0 := 0) rfl rfl, fun U hU hW => ⟨rfl, by rw [hU], by rw [hU]; exact hPc, va_K.moved hW.alike hK, hDc.weaken (fun _ _ _ _ => trivial)⟩⟩ rfl rfl hl.1 rfl (lv_room (Nat.le_of_ble_eq_true rfl)) d_States_build_21 ⟨Nat.zero_le _, Nat.zero_le _⟩) hS (fun q _ h => hFc q h) hFc (fun u t H1 locs ht hvm hw hB hz1 hk1 hS => ?_)
  obtain ⟨hP1, hK1, hD1⟩ := hB
  rw [ht] at hP1
  obtain ⟨hP, hD⟩ := va_join (wr := [(a1, .inl (kA 0, 280, .inl f1)), (a3, .inl (kA 0, 480, .inl f3))]) (w1 := (wd_States_close kA a0 a2 a4 a5 a6 a7 a8 a9 (.ref a3) (.ref a1) (.int u_4.1) (.int u_4.2) v4_4 v4_6 u_7 f5 f6 f7 f8 f9)) hP hD [0, 2, 4, 5, 6, 7, 8, 9] [1, 3] rfl rfl (by decide) (by decide) hk1 hFc hP1 hD1
  have hP := hP.sub (ws' := (wd_States_build kA a0 a1 a2 a3 a4 a5 a6 a7 a8 a9 v4_4 v4_6 u_4.1 u_4.2 f1 u_7 f3 f5 f6 f7 f8 f9)) [2, 0, 3, 1, 4, 5, 6, 7, 8, 9] rfl
  have hD := hD.sub (ws' := (wd_States_build kA a0 a1 a2 a3 a4 a5 a6 a7 a8 a9 v4_4 v4_6 u_4.1 u_4.2 f1 u_7 f3 f5 f6 f7 f8 f9)) [2, 0, 3, 1, 4, 5, 6, 7, 8, 9] (by decide) rfl
  clear hPc hDc hFc hP1 hK1 hD1
  generalize H1 = H at hP hS ⊢
  refine lv_aload_n hx hb d_States_build_24 rfl (lv_at hl 0 rfl) ?_
  refine lv_iconst (v := 1) hx hb d_States_build_25 (by decide) ?_
  refine va_put (D := (dC, dI)) (ci := 6) (v := .int 1) (ty := .int) (C := R_States) (T := F_States) (N := 5) hx hb hg iw_States t_States t_States_ok n_States hown hK hP hD hS 0 rfl rfl 3 (by decide) (hg _ gw_79) (fun _ h9 => h9) rfl (by decide +kernel) rfl rfl (Nat.le_of_ble_eq_true rfl) d_States_build_26 (fun H locs hP hD hS => ?_)
  have hP : va_P (dC, dI) classes (wd_States_build kA a0 a1 a2 a3 a4 a5 a6 a7 a8 a9 v4_4 v4_6 1 u_4.2 f1 u_7 f3 f5 f6 f7 f8 f9) H := hP
  have hD : va_D A (wd_States_build kA a0 a1 a2 a3 a4 a5 a6 a7 a8 a9 v4_4 v4_6 1 u_4.2 f1 u_7 f3 f5 f6 f7 f8 f9) := hD
  refine lv_aload_n hx hb d_States_build_29 rfl (lv_at hl 0 rfl) ?_
  refine lv_aload_n hx hb d_States_build_30 rfl (lv_at hl 1 rfl) ?_
  obtain ⟨u_8, hS_8, hF⟩ := rd_bind hF
  have hPc := hP.sub (ws' := (wd_States_makeTargets kA a0 a2 a3 a4 a5 a6 a7 a8 a9 (.ref a1) (.int u_4.2) v4_4 v4_6 1 u_7 f3 f5 f6 f7 f8 f9)) [0, 2, 3, 4, 5, 6, 7, 8, 9] rfl
  have hDc := hD.sub (ws' := (wd_States_makeTargets kA a0 a2 a3 a4 a5 a6 a7 a8 a9 (.ref a1) (.int u_4.2) v4_4 v4_6 1 u_7 f3 f5 f6 f7 f8 f9)) [0, 2, 3, 4, 5, 6, 7, 8, 9] (by decide) rfl
  have hFc := va_free (wc := (wd_States_makeTargets kA a0 a2 a3 a4 a5 a6 a7 a8 a9 (.ref a1) (.int u_4.2) v4_4 v4_6 1 u_7 f3 f5 f6 f7 f8 f9)) hD hS hA [0, 2, 3, 4, 5, 6, 7, 8, 9] rfl
  refine va_calli (va_runV (As := [.ref a4]) (rest := []) ⟨hx, hb, hml, hown, hts⟩ (c_States_makeTargets l dC dI kA H.size a0 a2 a3 a4 a5 a6 a7 a8 a9 (.ref a1) (.int u_4.2) v4_4 v4_6 1 u_7 f3 f5 f6 f7 f8 f9 u_8.1 u_8.2.1 u_8.2.2.1 u_8.2.2.2 hS_8) (cwV 1 hts (gw_V gw_235 gw_236 gw_237 gw_91 gw_238) rfl rfl rfl (by decide +kernel) ⟨Nat.le_of_ble_eq_true rfl, Nat.le_of_ble_eq_true rfl⟩) ⟨fun a U g mk q => by obtain ⟨q0, q1, qP, qK, qD⟩ := q; exact ⟨q0, q1, qP, va_K.moved (u := U) (U := U.calling g mk a) (Vm.Alike.refl U.vm) qK, qD⟩, va_recv hK hP (ci := 6) (q0 := 0) rfl rfl, fun U hU hW => ⟨rfl, by rw [hU], by rw [hU]; exact hPc, va_K.moved hW.alike hK, hDc.weaken (fun _ _ _ _ => trivial)⟩⟩ rfl rfl hl.1 rfl (lv_room (Nat.le_of_ble_eq_true rfl)) d_States_build_31 ⟨Nat.zero_le _, Nat.zero_le _⟩) hS (fun q _ h => hFc q h) hFc (fun r1 u t H1 locs ht hvm hw hB hz1 hk1 hS => ?_)
  rw [show r1 = _ from hw]
  obtain ⟨hP1, hK1, hD1⟩ := hB
  rw [ht] at hP1
  obtain ⟨hP, hD⟩ := va_join (wr := [(a1, .inl (kA 0, 280, .inl f1))]) (w1 := (wd_States_makeTargets kA a0 a2 a3 a4 a5 a6 a7 a8 a9 (.ref a1) (.int u_4.2) v4_4 v4_6 u_8.2.1 u_8.2.2.1 u_8.2.2.2 f5 f6 f7 f8 f9)) hP hD [0, 2, 3, 4, 5, 6, 7, 8, 9] [1] rfl rfl (by decide) (by decide) hk1 hFc hP1 hD1
  have hP := hP.sub (ws' := (wd_States_build kA a0 a1 a2 a3 a4 a5 a6 a7 a8 a9 v4_4 v4_6 u_8.2.1 u_4.2 f1 u_8.2.2.1 u_8.2.2.2 f5 f6 f7 f8 f9)) [1, 0, 2, 3, 4, 5, 6, 7, 8, 9] rfl
  have hD := hD.sub (ws' := (wd_States_build kA a0 a1 a2 a3 a4 a5 a6 a7 a8 a9 v4_4 v4_6 u_8.2.1 u_4.2 f1 u_8.2.2.1 u_8.2.2.2 f5 f6 f7 f8 f9)) [1, 0, 2, 3, 4, 5, 6, 7, 8, 9] (by decide) rfl
  clear hPc hDc hFc hP1 hK1 hD1
  generalize H1 = H at hP hS ⊢
  refine lv_if_eq (tgt := 45) hx hb d_States_build_34 (by decide) (fun c_9 => ?_) (fun c_9 => ?_)
  · rw [if_pos c_9] at hF
    refine lv_aload_n hx hb d_States_build_45 rfl (lv_at hl 0 rfl) ?_
    obtain ⟨u_10, hS_10, hF⟩ := rd_bind hF
    have hPc := hP.sub (ws' := (wd_States_forget kA a0 (.ref a2) (.ref a3) (.ref a1) u_8.2.1 u_4.2)) [0] rfl
    have hDc := hD.sub (ws' := (wd_States_forget kA a0 (.ref a2) (.ref a3) (.ref a1) u_8.2.1 u_4.2)) [0] (by decide) rfl
    have hFc := va_free (wc := (wd_States_forget kA a0 (.ref a2) (.ref a3) (.ref a1) u_8.2.1 u_4.2)) hD hS hA [0] rfl
    refine va_callv (va_runV (As := []) (rest := []) ⟨hx, hb, hml, hown, hts⟩ (c_States_forget l dC dI kA H.size a0 (.ref a2) (.ref a3) (.ref a1) u_8.2.1 u_4.2 u_10.1 u_10.2 hS_10) (cwV 0 hts (gw_V gw_231 gw_232 gw_233 gw_91 gw_234) rfl rfl rfl (by decide +kernel) ⟨Nat.le_of_ble_eq_true rfl, Nat.le_of_ble_eq_true rfl⟩) ⟨fun a U g mk q => by obtain ⟨q0, q1, qP, qK, qD⟩ := q; exact ⟨q0, q1, qP, va_K.moved (u := U) (U := U.calling g mk a) (Vm.Alike.refl U.vm) qK, qD⟩, va_recv hK hP (ci := 6) (q0 := 0) rfl rfl, fun U hU hW => ⟨rfl, by rw [hU], by rw [hU]; exact hPc, va_K.moved hW.alike hK, hDc.weaken (fun _ _ _ _ => trivial)⟩⟩ rfl rfl hl.1 rfl (lv_room (Nat.le_of_ble_eq_true rfl)) d_States_build_46 ⟨Nat.zero_le _, Nat.zero_le _⟩) hS (fun q _ h => hFc q h) hFc (fun u t H1 locs ht hvm hw hB hz1 hk1 hS => ?_)
    obtain ⟨hP1, hK1, hD1⟩ := hB
    rw [ht] at hP1
    obtain ⟨hP, hD⟩ := va_join (wr := [(a1, .inl (kA 0, 280, .inl f1)), (a2, .inl (kA 0, 2255, .inl u_8.2.2.1)), (a3, .inl (kA 0, 480, .inl u_8.2.2.2)), (a4, .inr (2, [.ref a6, .ref a8, .ref a7, .ref a9, v4_4, .ref a5, v4_6])), (a5, .inl (kA 0, 6, .inl f5)), (a6, .inl (kA 0, 12, .inl f6)), (a7, .inl (kA 0, 48, .inl f7)), (a8, .inl (kA 0, 12, .inl f8)), (a9, .inl (kA 1, 12, .inl f9))]) (w1 := (wd_States_forget kA a0 (.ref a2) (.ref a3) (.ref a1) u_10.1 u_10.2)) hP hD [0] [1, 2, 3, 4, 5, 6, 7, 8, 9] rfl rfl (by decide) (by decide) hk1 hFc hP1 hD1
    have hP := hP.sub (ws' := (wd_States_build kA a0 a1 a2 a3 a4 a5 a6 a7 a8 a9 v4_4 v4_6 u_10.1 u_10.2 f1 u_8.2.2.1 u_8.2.2.2 f5 f6 f7 f8 f9)) [9, 0, 1, 2, 3, 4, 5, 6, 7, 8] rfl
    have hD := hD.sub (ws' := (wd_States_build kA a0 a1 a2 a3 a4 a5 a6 a7 a8 a9 v4_4 v4_6 u_10.1 u_10.2 f1 u_8.2.2.1 u_8.2.2.2 f5 f6 f7 f8 f9)) [9, 0, 1, 2, 3, 4, 5, 6, 7, 8] (by decide) rfl
    clear hPc hDc hFc hP1 hK1 hD1
    generalize H1 = H at hP hS ⊢
    refine lv_iconst (v := 0) hx hb d_States_build_49 (by decide) ?_
    have e0 := Option.some.inj hF
    have q0 := Prod.mk.inj e0
    have q1 := Prod.mk.inj q0.2
    have q2 := Prod.mk.inj q1.2
    have q3 := Prod.mk.inj q2.2
    have q4 := Prod.mk.inj q3.2
    exact W.zret (v := 0) hx hb hr rfl (fun t ht hW => ⟨⟨0, (), rfl, q0.1, by rw [ht, ← q1.1, ← q2.1, ← q3.1, ← q4.1, ← q4.2]; exact hP, va_K.moved hW.alike hK, (by rw [← q1.1, ← q2.1, ← q3.1, ← q4.1, ← q4.2]; exact hD)⟩, hS.F ht⟩) hS.2.2 d_States_build_50 hlocks
  · rw [if_neg c_9] at hF
    refine lv_aload_n hx hb d_States_build_37 rfl (lv_at hl 0 rfl) ?_
    refine lv_aload_n hx hb d_States_build_38 rfl (lv_at hl 1 rfl) ?_
    obtain ⟨u_11, hS_11, hF⟩ := rd_bind hF
    have hPc := hP.sub (ws' := (wd_States_makeReduced kA a0 a1 a2 a3 a4 a8 a9 (.int u_4.2) (.ref a6) (.ref a7) v4_4 (.ref a5) v4_6 u_8.2.1 f1 u_8.2.2.1 u_8.2.2.2 f8 f9)) [0, 1, 2, 3, 4, 8, 9] rfl
    have hDc := hD.sub (ws' := (wd_States_makeReduced kA a0 a1 a2 a3 a4 a8 a9 (.int u_4.2) (.ref a6) (.ref a7) v4_4 (.ref a5) v4_6 u_8.2.1 f1 u_8.2.2.1 u_8.2.2.2 f8 f9)) [0, 1, 2, 3, 4, 8, 9] (by decide) rfl
    have hFc := va_free (wc := (wd_States_makeReduced kA a0 a1 a2 a3 a4 a8 a9 (.int u_4.2) (.ref a6) (.ref a7) v4_4 (.ref a5) v4_6 u_8.2.1 f1 u_8.2.2.1 u_8.2.2.2 f8 f9)) hD hS hA [0, 1, 2, 3, 4, 8, 9] rfl
    refine va_calli (va_runV (As := [.ref a4]) (rest := []) ⟨hx, hb, hml, hown, hts⟩ (c_States_makeReduced l dC dI kA H.size a0 a1 a2 a3 a4 a8 a9 (.int u_4.2) (.ref a6) (.ref a7) v4_4 (.ref a5) v4_6 u_8.2.1 f1 u_8.2.2.1 u_8.2.2.2 f8 f9 u_11.1 u_11.2 hS_11) (cwV 1 hts (gw_V gw_239 gw_240 gw_241 gw_91 gw_242) rfl rfl rfl (by decide +kernel) ⟨Nat.le_of_ble_eq_true rfl, Nat.le_of_ble_eq_true rfl⟩) ⟨fun a U g mk q => by obtain ⟨q0, q1, qP, qK, qD⟩ := q; exact ⟨q0, q1, qP, va_K.moved (u := U) (U := U.calling g mk a) (Vm.Alike.refl U.vm) qK, qD⟩, va_recv hK hP (ci := 6) (q0 := 0) rfl rfl, fun U hU hW => ⟨rfl, by rw [hU], by rw [hU]; exact hPc, va_K.moved hW.alike hK, hDc.weaken (fun _ _ _ _ => trivial)⟩⟩ rfl rfl hl.1 rfl (lv_room (Nat.le_of_ble_eq_true rfl)) d_States_build_39 ⟨Nat.zero_le _, Nat.zero_le _⟩) hS (fun q _ h => hFc q h) hFc (fun r1 u t H1 locs ht hvm hw hB hz1 hk1 hS => ?_)
    rw [show r1 = _ from hw]
    obtain ⟨hP1, hK1, hD1⟩ := hB
    rw [ht] at hP1
    obtain ⟨hP, hD⟩ := va_join (wr := [(a5, .inl (kA 0, 6, .inl f5)), (a6, .inl (kA 0, 12, .inl f6)), (a7, .inl (kA 0, 48, .inl f7))]) (w1 := (wd_States_makeReduced kA a0 a1 a2 a3 a4 a8 a9 (.int u_4.2) (.ref a6) (.ref a7) v4_4 (.ref a5) v4_6 u_8.2.1 u_11.2 u_8.2.2.1 u_8.2.2.2 f8 f9)) hP hD [0, 1, 2, 3, 4, 8, 9] [5, 6, 7] rfl rfl (by decide) (by decide) hk1 hFc hP1 hD1
    have hP := hP.sub (ws' := (wd_States_build kA a0 a1 a2 a3 a4 a5 a6 a7 a8 a9 v4_4 v4_6 u_8.2.1 u_4.2 u_11.2 u_8.2.2.1 u_8.2.2.2 f5 f6 f7 f8 f9)) [3, 4, 5, 6, 7, 0, 1, 2, 8, 9] rfl
    have hD := hD.sub (ws' := (wd_States_build kA a0 a1 a2 a3 a4 a5 a6 a7 a8 a9 v4_4 v4_6 u_8.2.1 u_4.2 u_11.2 u_8.2.2.1 u_8.2.2.2 f5 f6 f7 f8 f9)) [3, 4, 5, 6, 7, 0, 1, 2, 8, 9] (by decide) rfl
    clear hPc hDc hFc hP1 hK1 hD1
    generalize H1 = H at hP hS ⊢
    refine lv_if_ne (tgt := 51) hx hb d_States_build_42 (by decide) (fun c_12 => ?_) (fun c_12 => ?_)
    · rw [if_pos c_12] at hF
      refine lv_iconst (v := 0) hx hb d_States_build_51 (by decide) ?_
      refine lv_istore_n (lv' := [(2, .int 0), (0, .ref a0), (1, .ref a4)]) hx hb d_States_build_52 rfl hl (by decide) rfl (fun ls hl => ?_)
      exact ih 0 u_8.2.1 u_4.2 u_11.2 u_8.2.2.1 u_8.2.2.2 hF _ _ _ hP hD hS (lv_sub hl [1, 2, 0] rfl)
    · rw [if_neg (fun z => z c_12)] at hF
      refine lv_aload_n hx hb d_States_build_45 rfl (lv_at hl 0 rfl) ?_
      obtain ⟨u_13, hS_13, hF⟩ := rd_bind hF
      have hPc := hP.sub (ws' := (wd_States_forget kA a0 (.ref a2) (.ref a3) (.ref a1) u_8.2.1 u_4.2)) [0] rfl
      have hDc := hD.sub (ws' := (wd_States_forget kA a0 (.ref a2) (.ref a3) (.ref a1) u_8.2.1 u_4.2)) [0] (by decide) rfl
      have hFc := va_free (wc := (wd_States_forget kA a0 (.ref a2) (.ref a3) (.ref a1) u_8.2.1 u_4.2)) hD hS hA [0] rfl
      refine va_callv (va_runV (As := []) (rest := []) ⟨hx, hb, hml, hown, hts⟩ (c_States_forget l dC dI kA H.size a0 (.ref a2) (.ref a3) (.ref a1) u_8.2.1 u_4.2 u_13.1 u_13.2 hS_13) (cwV 0 hts (gw_V gw_231 gw_232 gw_233 gw_91 gw_234) rfl rfl rfl (by decide +kernel) ⟨Nat.le_of_ble_eq_true rfl, Nat.le_of_ble_eq_true rfl⟩) ⟨fun a U g mk q => by obtain ⟨q0, q1, qP, qK, qD⟩ := q; exact ⟨q0, q1, qP, va_K.moved (u := U) (U := U.calling g mk a) (Vm.Alike.refl U.vm) qK, qD⟩, va_recv hK hP (ci := 6) (q0 := 0) rfl rfl, fun U hU hW => ⟨rfl, by rw [hU], by rw [hU]; exact hPc, va_K.moved hW.alike hK, hDc.weaken (fun _ _ _ _ => trivial)⟩⟩ rfl rfl hl.1 rfl (lv_room (Nat.le_of_ble_eq_true rfl)) d_States_build_46 ⟨Nat.zero_le _, Nat.zero_le _⟩) hS (fun q _ h => hFc q h) hFc (fun u t H1 locs ht hvm hw hB hz1 hk1 hS => ?_)
      obtain ⟨hP1, hK1, hD1⟩ := hB
      rw [ht] at hP1
      obtain ⟨hP, hD⟩ := va_join (wr := [(a1, .inl (kA 0, 280, .inl u_11.2)), (a2, .inl (kA 0, 2255, .inl u_8.2.2.1)), (a3, .inl (kA 0, 480, .inl u_8.2.2.2)), (a4, .inr (2, [.ref a6, .ref a8, .ref a7, .ref a9, v4_4, .ref a5, v4_6])), (a5, .inl (kA 0, 6, .inl f5)), (a6, .inl (kA 0, 12, .inl f6)), (a7, .inl (kA 0, 48, .inl f7)), (a8, .inl (kA 0, 12, .inl f8)), (a9, .inl (kA 1, 12, .inl f9))]) (w1 := (wd_States_forget kA a0 (.ref a2) (.ref a3) (.ref a1) u_13.1 u_13.2)) hP hD [0] [1, 2, 3, 4, 5, 6, 7, 8, 9] rfl rfl (by decide) (by decide) hk1 hFc hP1 hD1
      have hP := hP.sub (ws' := (wd_States_build kA a0 a1 a2 a3 a4 a5 a6 a7 a8 a9 v4_4 v4_6 u_13.1 u_13.2 u_11.2 u_8.2.2.1 u_8.2.2.2 f5 f6 f7 f8 f9)) [9, 0, 1, 2, 3, 4, 5, 6, 7, 8] rfl
      have hD := hD.sub (ws' := (wd_States_build kA a0 a1 a2 a3 a4 a5 a6 a7 a8 a9 v4_4 v4_6 u_13.1 u_13.2 u_11.2 u_8.2.2.1 u_8.2.2.2 f5 f6 f7 f8 f9)) [9, 0, 1, 2, 3, 4, 5, 6, 7, 8] (by decide) rfl
      clear hPc hDc hFc hP1 hK1 hD1
      generalize H1 = H at hP hS ⊢
      refine lv_iconst (v := 0) hx hb d_States_build_49 (by decide) ?_
      have e0 := Option.some.inj hF
      have q0 := Prod.mk.inj e0
      have q1 := Prod.mk.inj q0.2
      have q2 := Prod.mk.inj q1.2
      have q3 := Prod.mk.inj q2.2
      have q4 := Prod.mk.inj q3.2
      exact W.zret (v := 0) hx hb hr rfl (fun t ht hW => ⟨⟨0, (), rfl, q0.1, by rw [ht, ← q1.1, ← q2.1, ← q3.1, ← q4.1, ← q4.2]; exact hP, va_K.moved hW.alike hK, (by rw [← q1.1, ← q2.1, ← q3.1, ← q4.1, ← q4.2]; exact hD)⟩, hS.F ht⟩) hS.2.2 d_States_build_50 hlocks
