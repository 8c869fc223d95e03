-- ===== RepairDeskModel.step(II)I
abbrev wd_Model_step (kA : Nat → ClassId) (a0 a1 : Nat) (v0_1 v0_2 v0_3 v0_4 v0_5 v0_6 v0_7 v0_8 v0_9 v0_10 v0_11 v0_12 v0_13 v0_14 v0_15 v0_16 v0_17 v0_18 v0_19 v0_20 v0_21 v0_23 v0_25 v0_26 v0_27 v0_28 : Value) (x0_0 : Int32) (x0_22 : Int32) (f1 : (Nat → Int32)) : va_W := [(a0, .inr (9, [.int x0_0, v0_1, v0_2, v0_3, v0_4, v0_5, v0_6, v0_7, v0_8, v0_9, v0_10, v0_11, v0_12, v0_13, v0_14, v0_15, v0_16, v0_17, v0_18, v0_19, v0_20, v0_21, .int x0_22, v0_23, .ref a1, v0_25, v0_26, v0_27, v0_28])), (a1, .inl (kA 0, 280, .inl f1))]
abbrev rm_Model_step : Room := { frames := 0, cells := 0, slots := 0, locals := 0 }
def S_Model_step (p1 : Int32) (p2 : Int32) (x0_0 : Int32) (x0_22 : Int32) (f1 : (Nat → Int32)) : Option (Int32 × Int32) := (if p1 < 0 then (some ((-1), 0)) else (if x0_22 ≤ p1 then (some ((-1), 0)) else (if p2 < 0 then (some ((-1), 0)) else (if p2 ≤ 6 then (if (((7 * p1) + p2) : Int32) < 0 ∨ 280 ≤ (Int32.toNatClampNeg ((7 * p1) + p2)) then none else (some ((f1 (Int32.toNatClampNeg ((7 * p1) + p2))), 0))) else (some ((-1), 0))))))
set_option maxHeartbeats 4000000 in
set_option maxRecDepth 100000 in
theorem c_Model_step (l : Launch) (dC : Nat → ClassId) (dI : Nat → Nat → Nat) (kA : Nat → ClassId) (sz : Nat) (a0 a1 : Nat) (v0_1 v0_2 v0_3 v0_4 v0_5 v0_6 v0_7 v0_8 v0_9 v0_10 v0_11 v0_12 v0_13 v0_14 v0_15 v0_16 v0_17 v0_18 v0_19 v0_20 v0_21 v0_23 v0_25 v0_26 v0_27 v0_28 : Value) (p1 : Int32) (p2 : Int32) (x0_0 : Int32) (x0_22 : Int32) (f1 : (Nat → Int32)) (r : Int32) (ox0_0 : Int32) (hF : S_Model_step p1 p2 x0_0 x0_22 f1 = some (r, ox0_0)) : Met l y_Model_step w_Model_step rm_Model_step (va_Pc [.ref a0, .int p1, .int p2] (fun U => U.heap.size = sz ∧ va_P (dC, dI) classes (wd_Model_step kA a0 a1 v0_1 v0_2 v0_3 v0_4 v0_5 v0_6 v0_7 v0_8 v0_9 v0_10 v0_11 v0_12 v0_13 v0_14 v0_15 v0_16 v0_17 v0_18 v0_19 v0_20 v0_21 v0_23 v0_25 v0_26 v0_27 v0_28 x0_0 x0_22 f1) U.heap ∧ va_K (dC, dI) classes (tys_ kA) U ∧ va_D (fun _ => True) (wd_Model_step kA a0 a1 v0_1 v0_2 v0_3 v0_4 v0_5 v0_6 v0_7 v0_8 v0_9 v0_10 v0_11 v0_12 v0_13 v0_14 v0_15 v0_16 v0_17 v0_18 v0_19 v0_20 v0_21 v0_23 v0_25 v0_26 v0_27 v0_28 x0_0 x0_22 f1))) (va_Qi (fun (r1 : Int32) (_ : Unit) => r1 = r) (fun _ t => va_P (dC, dI) classes (wd_Model_step kA a0 a1 v0_1 v0_2 v0_3 v0_4 v0_5 v0_6 v0_7 v0_8 v0_9 v0_10 v0_11 v0_12 v0_13 v0_14 v0_15 v0_16 v0_17 v0_18 v0_19 v0_20 v0_21 v0_23 v0_25 v0_26 v0_27 v0_28 ox0_0 x0_22 f1) t.heap ∧ va_K (dC, dI) classes (tys_ kA) t ∧ va_D (va_A (wd_Model_step kA a0 a1 v0_1 v0_2 v0_3 v0_4 v0_5 v0_6 v0_7 v0_8 v0_9 v0_10 v0_11 v0_12 v0_13 v0_14 v0_15 v0_16 v0_17 v0_18 v0_19 v0_20 v0_21 v0_23 v0_25 v0_26 v0_27 v0_28 x0_0 x0_22 f1) sz) (wd_Model_step kA a0 a1 v0_1 v0_2 v0_3 v0_4 v0_5 v0_6 v0_7 v0_8 v0_9 v0_10 v0_11 v0_12 v0_13 v0_14 v0_15 v0_16 v0_17 v0_18 v0_19 v0_20 v0_21 v0_23 v0_25 v0_26 v0_27 v0_28 ox0_0 x0_22 f1)) (va_A (wd_Model_step kA a0 a1 v0_1 v0_2 v0_3 v0_4 v0_5 v0_6 v0_7 v0_8 v0_9 v0_10 v0_11 v0_12 v0_13 v0_14 v0_15 v0_16 v0_17 v0_18 v0_19 v0_20 v0_21 v0_23 v0_25 v0_26 v0_27 v0_28 x0_0 x0_22 f1) sz)) 0 0 (va_A (wd_Model_step kA a0 a1 v0_1 v0_2 v0_3 v0_4 v0_5 v0_6 v0_7 v0_8 v0_9 v0_10 v0_11 v0_12 v0_13 v0_14 v0_15 v0_16 v0_17 v0_18 v0_19 v0_20 v0_21 v0_23 v0_25 v0_26 v0_27 v0_28 x0_0 x0_22 f1) sz) := by
  refine Met.ofW (cc := b_Model_step) (maxL := 3) (ret := some .int) (by decide) rfl ?_
  intro p e s m args below meth c s₁ B hml hv
  obtain ⟨rfl, hsz, hP, hK, hD0⟩ := hv
  have hx := B.exec
  have hb := B.bytes
  have hr := B.returns
  have hts := atoms_spec (ws := w_Model_step) B.pre
  have hown : s.vm.findClass R_Model = some m.cls := findClass_of_methodNamed B.named
  have hg := fun (w : Cond) (h : w ∈ gw) => hts w (List.mem_cons_of_mem _ h)
  have hlocks := B.notSynchronized
  subst hsz
  have hD := hD0.self (sz := s.heap.size)
  generalize hAe : va_A (wd_Model_step kA a0 a1 v0_1 v0_2 v0_3 v0_4 v0_5 v0_6 v0_7 v0_8 v0_9 v0_10 v0_11 v0_12 v0_13 v0_14 v0_15 v0_16 v0_17 v0_18 v0_19 v0_20 v0_21 v0_23 v0_25 v0_26 v0_27 v0_28 x0_0 x0_22 f1) s.heap.size = A at hD ⊢
  have hA : ∀ q : Nat, s.heap.size ≤ q → A q := fun q h => by rw [← hAe]; exact Or.inr h
  have hS : va_S A s.heap s.heap [] := va_S.rf
  have hl := lv_entry ([.ref a0, .int p1, .int p2]) (n := 3) (Nat.le_of_ble_eq_true rfl)
  rw [lg_entry_eq]
  generalize (lg_sl ([.ref a0, .int p1, .int p2]) ++ List.replicate (3 - (lg_sl ([.ref a0, .int p1, .int p2])).length) Slot.unset).toArray = ls at hl ⊢
  have hl : lv_has ls 3 [(0, .ref a0), (1, .int p1), (2, .int p2)] := hl
  unfold S_Model_step at hF
  refine lv_aload_n hx hb d_Model_step_0 rfl (lv_at hl 0 rfl) ?_
  refine lv_iconst (v := 0) hx hb d_Model_step_1 (by decide) ?_
  refine va_put (D := (dC, dI)) (ci := 9) (v := .int 0) (ty := .int) (C := R_Model) (T := F_Model) (N := 29) hx hb hg iw_Model t_Model t_Model_ok n_Model hown hK hP hD hS 0 rfl rfl 0 (by decide) (hg _ gw_259) (fun _ h9 => h9) rfl (by decide +kernel) rfl rfl (Nat.le_of_ble_eq_true rfl) d_Model_step_2 (fun H locs hP hD hS => ?_)
  have hP : va_P (dC, dI) classes (wd_Model_step kA a0 a1 v0_1 v0_2 v0_3 v0_4 v0_5 v0_6 v0_7 v0_8 v0_9 v0_10 v0_11 v0_12 v0_13 v0_14 v0_15 v0_16 v0_17 v0_18 v0_19 v0_20 v0_21 v0_23 v0_25 v0_26 v0_27 v0_28 0 x0_22 f1) H := hP
  have hD : va_D A (wd_Model_step kA a0 a1 v0_1 v0_2 v0_3 v0_4 v0_5 v0_6 v0_7 v0_8 v0_9 v0_10 v0_11 v0_12 v0_13 v0_14 v0_15 v0_16 v0_17 v0_18 v0_19 v0_20 v0_21 v0_23 v0_25 v0_26 v0_27 v0_28 0 x0_22 f1) := hD
  refine lv_iload_n hx hb d_Model_step_5 rfl (lv_at hl 1 rfl) ?_
  refine lv_if_lt (tgt := 27) hx hb d_Model_step_6 (by decide) (fun c_1 => ?_) (fun c_1 => ?_)
  · rw [if_pos c_1] at hF
    refine lv_iconst (v := (-1)) hx hb d_Model_step_27 (by decide) ?_
    refine lv_goto (tgt := 42) hx hb d_Model_step_28 (by decide) ?_
    have e0 := Option.some.inj hF
    have q0 := Prod.mk.inj e0
    exact W.iret (v := (-1)) hx hb hr (fun t ht hW => ⟨⟨(-1), (), rfl, q0.1, by rw [ht, ← q0.2]; exact hP, va_K.moved hW.alike hK, (by rw [← q0.2]; exact hD)⟩, hS.F ht⟩) hS.2.2 d_Model_step_42 hlocks
  · rw [if_neg c_1] at hF
    refine lv_iload_n hx hb d_Model_step_9 rfl (lv_at hl 1 rfl) ?_
    refine lv_aload_n hx hb d_Model_step_10 rfl (lv_at hl 0 rfl) ?_
    refine va_get (D := (dC, dI)) (ci := 9) (v := .int x0_22) (C := R_Model) (T := F_Model) (N := 29) hx hb hg iw_Model hown hK hP 0 rfl rfl 22 (by decide) (hg _ gw_262) (fun _ h9 => h9) rfl d_Model_step_11 ?_
    refine lv_icmp_ge (tgt := 27) hx hb d_Model_step_14 (by decide) (fun c_2 => ?_) (fun c_2 => ?_)
    · rw [if_pos c_2] at hF
      refine lv_iconst (v := (-1)) hx hb d_Model_step_27 (by decide) ?_
      refine lv_goto (tgt := 42) hx hb d_Model_step_28 (by decide) ?_
      have e0 := Option.some.inj hF
      have q0 := Prod.mk.inj e0
      exact W.iret (v := (-1)) hx hb hr (fun t ht hW => ⟨⟨(-1), (), rfl, q0.1, by rw [ht, ← q0.2]; exact hP, va_K.moved hW.alike hK, (by rw [← q0.2]; exact hD)⟩, hS.F ht⟩) hS.2.2 d_Model_step_42 hlocks
    · rw [if_neg c_2] at hF
      refine lv_iload_n hx hb d_Model_step_17 rfl (lv_at hl 2 rfl) ?_
      refine lv_if_lt (tgt := 27) hx hb d_Model_step_18 (by decide) (fun c_3 => ?_) (fun c_3 => ?_)
      · rw [if_pos c_3] at hF
        refine lv_iconst (v := (-1)) hx hb d_Model_step_27 (by decide) ?_
        refine lv_goto (tgt := 42) hx hb d_Model_step_28 (by decide) ?_
        have e0 := Option.some.inj hF
        have q0 := Prod.mk.inj e0
        exact W.iret (v := (-1)) hx hb hr (fun t ht hW => ⟨⟨(-1), (), rfl, q0.1, by rw [ht, ← q0.2]; exact hP, va_K.moved hW.alike hK, (by rw [← q0.2]; exact hD)⟩, hS.F ht⟩) hS.2.2 d_Model_step_42 hlocks
      · rw [if_neg c_3] at hF
        refine lv_iload_n hx hb d_Model_step_21 rfl (lv_at hl 2 rfl) ?_
        refine lv_bipush (v := 6) hx hb d_Model_step_22 (by decide) ?_
        refine lv_icmp_le (tgt := 31) hx hb d_Model_step_24 (by decide) (fun c_4 => ?_) (fun c_4 => ?_)
        · rw [if_pos c_4] at hF
          refine lv_aload_n hx hb d_Model_step_31 rfl (lv_at hl 0 rfl) ?_
          refine va_get (D := (dC, dI)) (ci := 9) (v := .ref a1) (C := R_Model) (T := F_Model) (N := 29) hx hb hg iw_Model hown hK hP 0 rfl rfl 24 (by decide) (hg _ gw_346) (fun _ h9 => h9) rfl d_Model_step_32 ?_
          refine lv_bipush (v := 7) hx hb d_Model_step_35 (by decide) ?_
          refine lv_iload_n hx hb d_Model_step_37 rfl (lv_at hl 1 rfl) ?_
          refine lv_imul hx hb d_Model_step_38 ?_
          refine lv_iload_n hx hb d_Model_step_39 rfl (lv_at hl 2 rfl) ?_
          refine lv_iadd hx hb d_Model_step_40 ?_
          obtain ⟨h_5, hF⟩ := rd_chk hF
          refine va_iald hx hb hK hP 1 0 rfl rfl h_5 d_Model_step_41 ?_
          have e0 := Option.some.inj hF
          have q0 := Prod.mk.inj e0
          exact W.iret (v := (f1 (Int32.toNatClampNeg ((7 * p1) + p2)))) hx hb hr (fun t ht hW => ⟨⟨(f1 (Int32.toNatClampNeg ((7 * p1) + p2))), (), rfl, q0.1, by rw [ht, ← q0.2]; exact hP, va_K.moved hW.alike hK, (by rw [← q0.2]; exact hD)⟩, hS.F ht⟩) hS.2.2 d_Model_step_42 hlocks
        · rw [if_neg c_4] at hF
          refine lv_iconst (v := (-1)) hx hb d_Model_step_27 (by decide) ?_
          refine lv_goto (tgt := 42) hx hb d_Model_step_28 (by decide) ?_
          have e0 := Option.some.inj hF
          have q0 := Prod.mk.inj e0
          exact W.iret (v := (-1)) hx hb hr (fun t ht hW => ⟨⟨(-1), (), rfl, q0.1, by rw [ht, ← q0.2]; exact hP, va_K.moved hW.alike hK, (by rw [← q0.2]; exact hD)⟩, hS.F ht⟩) hS.2.2 d_Model_step_42 hlocks
-- ===== RepairDeskModel.price()I
abbrev wd_Model_price (kA : Nat → ClassId) (a0 : Nat) (v0_1 v0_2 v0_3 v0_4 v0_5 v0_6 v0_7 v0_8 v0_9 v0_10 v0_11 v0_12 v0_13 v0_14 v0_15 v0_16 v0_17 v0_18 v0_19 v0_20 v0_21 v0_22 v0_24 v0_25 v0_26 v0_27 v0_28 : Value) (x0_0 : Int32) (x0_23 : Int32) : va_W := [(a0, .inr (9, [.int x0_0, v0_1, v0_2, v0_3, v0_4, v0_5, v0_6, v0_7, v0_8, v0_9, v0_10, v0_11, v0_12, v0_13, v0_14, v0_15, v0_16, v0_17, v0_18, v0_19, v0_20, v0_21, v0_22, .int x0_23, v0_24, v0_25, v0_26, v0_27, v0_28]))]
abbrev rm_Model_price : Room := { frames := 0, cells := 0, slots := 0, locals := 0 }
def S_Model_price (x0_0 : Int32) (x0_23 : Int32) : Option (Int32 × Int32) := (some (x0_23, 0))
set_option maxHeartbeats 4000000 in
set_option maxRecDepth 100000 in
theorem c_Model_price (l : Launch) (dC : Nat → ClassId) (dI : Nat → Nat → Nat) (kA : Nat → ClassId) (sz : Nat) (a0 : Nat) (v0_1 v0_2 v0_3 v0_4 v0_5 v0_6 v0_7 v0_8 v0_9 v0_10 v0_11 v0_12 v0_13 v0_14 v0_15 v0_16 v0_17 v0_18 v0_19 v0_20 v0_21 v0_22 v0_24 v0_25 v0_26 v0_27 v0_28 : Value) (x0_0 : Int32) (x0_23 : Int32) (r : Int32) (ox0_0 : Int32) (hF : S_Model_price x0_0 x0_23 = some (r, ox0_0)) : Met l y_Model_price w_Model_price rm_Model_price (va_Pc [.ref a0] (fun U => U.heap.size = sz ∧ va_P (dC, dI) classes (wd_Model_price kA a0 v0_1 v0_2 v0_3 v0_4 v0_5 v0_6 v0_7 v0_8 v0_9 v0_10 v0_11 v0_12 v0_13 v0_14 v0_15 v0_16 v0_17 v0_18 v0_19 v0_20 v0_21 v0_22 v0_24 v0_25 v0_26 v0_27 v0_28 x0_0 x0_23) U.heap ∧ va_K (dC, dI) classes (tys_ kA) U ∧ va_D (fun _ => True) (wd_Model_price kA a0 v0_1 v0_2 v0_3 v0_4 v0_5 v0_6 v0_7 v0_8 v0_9 v0_10 v0_11 v0_12 v0_13 v0_14 v0_15 v0_16 v0_17 v0_18 v0_19 v0_20 v0_21 v0_22 v0_24 v0_25 v0_26 v0_27 v0_28 x0_0 x0_23))) (va_Qi (fun (r1 : Int32) (_ : Unit) => r1 = r) (fun _ t => va_P (dC, dI) classes (wd_Model_price kA a0 v0_1 v0_2 v0_3 v0_4 v0_5 v0_6 v0_7 v0_8 v0_9 v0_10 v0_11 v0_12 v0_13 v0_14 v0_15 v0_16 v0_17 v0_18 v0_19 v0_20 v0_21 v0_22 v0_24 v0_25 v0_26 v0_27 v0_28 ox0_0 x0_23) t.heap ∧ va_K (dC, dI) classes (tys_ kA) t ∧ va_D (va_A (wd_Model_price kA a0 v0_1 v0_2 v0_3 v0_4 v0_5 v0_6 v0_7 v0_8 v0_9 v0_10 v0_11 v0_12 v0_13 v0_14 v0_15 v0_16 v0_17 v0_18 v0_19 v0_20 v0_21 v0_22 v0_24 v0_25 v0_26 v0_27 v0_28 x0_0 x0_23) sz) (wd_Model_price kA a0 v0_1 v0_2 v0_3 v0_4 v0_5 v0_6 v0_7 v0_8 v0_9 v0_10 v0_11 v0_12 v0_13 v0_14 v0_15 v0_16 v0_17 v0_18 v0_19 v0_20 v0_21 v0_22 v0_24 v0_25 v0_26 v0_27 v0_28 ox0_0 x0_23)) (va_A (wd_Model_price kA a0 v0_1 v0_2 v0_3 v0_4 v0_5 v0_6 v0_7 v0_8 v0_9 v0_10 v0_11 v0_12 v0_13 v0_14 v0_15 v0_16 v0_17 v0_18 v0_19 v0_20 v0_21 v0_22 v0_24 v0_25 v0_26 v0_27 v0_28 x0_0 x0_23) sz)) 0 0 (va_A (wd_Model_price kA a0 v0_1 v0_2 v0_3 v0_4 v0_5 v0_6 v0_7 v0_8 v0_9 v0_10 v0_11 v0_12 v0_13 v0_14 v0_15 v0_16 v0_17 v0_18 v0_19 v0_20 v0_21 v0_22 v0_24 v0_25 v0_26 v0_27 v0_28 x0_0 x0_23) sz) := by
  refine Met.ofW (cc := b_Model_price) (maxL := 1) (ret := some .int) (by decide) rfl ?_
  intro p e s m args below meth c s₁ B hml hv
  obtain ⟨rfl, hsz, hP, hK, hD0⟩ := hv
  have hx := B.exec
  have hb := B.bytes
  have hr := B.returns
  have hts := atoms_spec (ws := w_Model_price) B.pre
  have hown : s.vm.findClass R_Model = some m.cls := findClass_of_methodNamed B.named
  have hg := fun (w : Cond) (h : w ∈ gw) => hts w (List.mem_cons_of_mem _ h)
  have hlocks := B.notSynchronized
  subst hsz
  have hD := hD0.self (sz := s.heap.size)
  generalize hAe : va_A (wd_Model_price kA a0 v0_1 v0_2 v0_3 v0_4 v0_5 v0_6 v0_7 v0_8 v0_9 v0_10 v0_11 v0_12 v0_13 v0_14 v0_15 v0_16 v0_17 v0_18 v0_19 v0_20 v0_21 v0_22 v0_24 v0_25 v0_26 v0_27 v0_28 x0_0 x0_23) s.heap.size = A at hD ⊢
  have hA : ∀ q : Nat, s.heap.size ≤ q → A q := fun q h => by rw [← hAe]; exact Or.inr h
  have hS : va_S A s.heap s.heap [] := va_S.rf
  have hl := lv_entry ([.ref a0]) (n := 1) (Nat.le_of_ble_eq_true rfl)
  rw [lg_entry_eq]
  generalize (lg_sl ([.ref a0]) ++ List.replicate (1 - (lg_sl ([.ref a0])).length) Slot.unset).toArray = ls at hl ⊢
  have hl : lv_has ls 1 [(0, .ref a0)] := hl
  unfold S_Model_price at hF
  refine lv_aload_n hx hb d_Model_price_0 rfl (lv_at hl 0 rfl) ?_
  refine lv_iconst (v := 0) hx hb d_Model_price_1 (by decide) ?_
  refine va_put (D := (dC, dI)) (ci := 9) (v := .int 0) (ty := .int) (C := R_Model) (T := F_Model) (N := 29) hx hb hg iw_Model t_Model t_Model_ok n_Model hown hK hP hD hS 0 rfl rfl 0 (by decide) (hg _ gw_259) (fun _ h9 => h9) rfl (by decide +kernel) rfl rfl (Nat.le_of_ble_eq_true rfl) d_Model_price_2 (fun H locs hP hD hS => ?_)
  have hP : va_P (dC, dI) classes (wd_Model_price kA a0 v0_1 v0_2 v0_3 v0_4 v0_5 v0_6 v0_7 v0_8 v0_9 v0_10 v0_11 v0_12 v0_13 v0_14 v0_15 v0_16 v0_17 v0_18 v0_19 v0_20 v0_21 v0_22 v0_24 v0_25 v0_26 v0_27 v0_28 0 x0_23) H := hP
  have hD : va_D A (wd_Model_price kA a0 v0_1 v0_2 v0_3 v0_4 v0_5 v0_6 v0_7 v0_8 v0_9 v0_10 v0_11 v0_12 v0_13 v0_14 v0_15 v0_16 v0_17 v0_18 v0_19 v0_20 v0_21 v0_22 v0_24 v0_25 v0_26 v0_27 v0_28 0 x0_23) := hD
  refine lv_aload_n hx hb d_Model_price_5 rfl (lv_at hl 0 rfl) ?_
  refine va_get (D := (dC, dI)) (ci := 9) (v := .int x0_23) (C := R_Model) (T := F_Model) (N := 29) hx hb hg iw_Model hown hK hP 0 rfl rfl 23 (by decide) (hg _ gw_263) (fun _ h9 => h9) rfl d_Model_price_6 ?_
  have e0 := Option.some.inj hF
  have q0 := Prod.mk.inj e0
  exact W.iret (v := x0_23) hx hb hr (fun t ht hW => ⟨⟨x0_23, (), rfl, q0.1, by rw [ht, ← q0.2]; exact hP, va_K.moved hW.alike hK, (by rw [← q0.2]; exact hD)⟩, hS.F ht⟩) hS.2.2 d_Model_price_9 hlocks
-- ===== RepairDeskModel.reach(I)I
abbrev wd_Model_reach (kA : Nat → ClassId) (a0 a1 : Nat) (v0_1 v0_2 v0_3 v0_4 v0_5 v0_6 v0_7 v0_8 v0_9 v0_10 v0_11 v0_12 v0_13 v0_14 v0_15 v0_16 v0_17 v0_18 v0_19 v0_20 v0_21 v0_23 v0_24 v0_26 v0_27 v0_28 : Value) (x0_0 : Int32) (x0_22 : Int32) (f1 : (Nat → Int32)) : va_W := [(a0, .inr (9, [.int x0_0, v0_1, v0_2, v0_3, v0_4, v0_5, v0_6, v0_7, v0_8, v0_9, v0_10, v0_11, v0_12, v0_13, v0_14, v0_15, v0_16, v0_17, v0_18, v0_19, v0_20, v0_21, .int x0_22, v0_23, v0_24, .ref a1, v0_26, v0_27, v0_28])), (a1, .inl (kA 0, 40, .inl f1))]
abbrev rm_Model_reach : Room := { frames := 1, cells := 0, slots := 0, locals := 21 }
def S_Model_reach (p1 : Int32) (x0_0 : Int32) (x0_22 : Int32) (f1 : (Nat → Int32)) : Option (Int32 × Int32) := (if p1 < 0 then ((S_Model_fails 1 0).bind fun u_2 => (some (u_2.1, u_2.2))) else (if p1 < x0_22 then (if (p1 : Int32) < 0 ∨ 40 ≤ (Int32.toNatClampNeg p1) then none else (some ((f1 (Int32.toNatClampNeg p1)), 0))) else ((S_Model_fails 1 0).bind fun u_5 => (some (u_5.1, u_5.2)))))
set_option maxHeartbeats 4000000 in
set_option maxRecDepth 100000 in
theorem c_Model_reach (l : Launch) (dC : Nat → ClassId) (dI : Nat → Nat → Nat) (kA : Nat → ClassId) (sz : Nat) (a0 a1 : Nat) (v0_1 v0_2 v0_3 v0_4 v0_5 v0_6 v0_7 v0_8 v0_9 v0_10 v0_11 v0_12 v0_13 v0_14 v0_15 v0_16 v0_17 v0_18 v0_19 v0_20 v0_21 v0_23 v0_24 v0_26 v0_27 v0_28 : Value) (p1 : Int32) (x0_0 : Int32) (x0_22 : Int32) (f1 : (Nat → Int32)) (r : Int32) (ox0_0 : Int32) (hF : S_Model_reach p1 x0_0 x0_22 f1 = some (r, ox0_0)) : Met l y_Model_reach w_Model_reach rm_Model_reach (va_Pc [.ref a0, .int p1] (fun U => U.heap.size = sz ∧ va_P (dC, dI) classes (wd_Model_reach kA a0 a1 v0_1 v0_2 v0_3 v0_4 v0_5 v0_6 v0_7 v0_8 v0_9 v0_10 v0_11 v0_12 v0_13 v0_14 v0_15 v0_16 v0_17 v0_18 v0_19 v0_20 v0_21 v0_23 v0_24 v0_26 v0_27 v0_28 x0_0 x0_22 f1) U.heap ∧ va_K (dC, dI) classes (tys_ kA) U ∧ va_D (fun _ => True) (wd_Model_reach kA a0 a1 v0_1 v0_2 v0_3 v0_4 v0_5 v0_6 v0_7 v0_8 v0_9 v0_10 v0_11 v0_12 v0_13 v0_14 v0_15 v0_16 v0_17 v0_18 v0_19 v0_20 v0_21 v0_23 v0_24 v0_26 v0_27 v0_28 x0_0 x0_22 f1))) (va_Qi (fun (r1 : Int32) (_ : Unit) => r1 = r) (fun _ t => va_P (dC, dI) classes (wd_Model_reach kA a0 a1 v0_1 v0_2 v0_3 v0_4 v0_5 v0_6 v0_7 v0_8 v0_9 v0_10 v0_11 v0_12 v0_13 v0_14 v0_15 v0_16 v0_17 v0_18 v0_19 v0_20 v0_21 v0_23 v0_24 v0_26 v0_27 v0_28 ox0_0 x0_22 f1) t.heap ∧ va_K (dC, dI) classes (tys_ kA) t ∧ va_D (va_A (wd_Model_reach kA a0 a1 v0_1 v0_2 v0_3 v0_4 v0_5 v0_6 v0_7 v0_8 v0_9 v0_10 v0_11 v0_12 v0_13 v0_14 v0_15 v0_16 v0_17 v0_18 v0_19 v0_20 v0_21 v0_23 v0_24 v0_26 v0_27 v0_28 x0_0 x0_22 f1) sz) (wd_Model_reach kA a0 a1 v0_1 v0_2 v0_3 v0_4 v0_5 v0_6 v0_7 v0_8 v0_9 v0_10 v0_11 v0_12 v0_13 v0_14 v0_15 v0_16 v0_17 v0_18 v0_19 v0_20 v0_21 v0_23 v0_24 v0_26 v0_27 v0_28 ox0_0 x0_22 f1)) (va_A (wd_Model_reach kA a0 a1 v0_1 v0_2 v0_3 v0_4 v0_5 v0_6 v0_7 v0_8 v0_9 v0_10 v0_11 v0_12 v0_13 v0_14 v0_15 v0_16 v0_17 v0_18 v0_19 v0_20 v0_21 v0_23 v0_24 v0_26 v0_27 v0_28 x0_0 x0_22 f1) sz)) 0 0 (va_A (wd_Model_reach kA a0 a1 v0_1 v0_2 v0_3 v0_4 v0_5 v0_6 v0_7 v0_8 v0_9 v0_10 v0_11 v0_12 v0_13 v0_14 v0_15 v0_16 v0_17 v0_18 v0_19 v0_20 v0_21 v0_23 v0_24 v0_26 v0_27 v0_28 x0_0 x0_22 f1) sz) := by
  refine Met.ofW (cc := b_Model_reach) (maxL := 2) (ret := some .int) (by decide) rfl ?_
  intro p e s m args below meth c s₁ B hml hv
  obtain ⟨rfl, hsz, hP, hK, hD0⟩ := hv
  have hx := B.exec
  have hb := B.bytes
  have hr := B.returns
  have hts := atoms_spec (ws := w_Model_reach) B.pre
  have hown : s.vm.findClass R_Model = some m.cls := findClass_of_methodNamed B.named
  have hg := fun (w : Cond) (h : w ∈ gw) => hts w (List.mem_cons_of_mem _ h)
  have hlocks := B.notSynchronized
  subst hsz
  have hD := hD0.self (sz := s.heap.size)
  generalize hAe : va_A (wd_Model_reach kA a0 a1 v0_1 v0_2 v0_3 v0_4 v0_5 v0_6 v0_7 v0_8 v0_9 v0_10 v0_11 v0_12 v0_13 v0_14 v0_15 v0_16 v0_17 v0_18 v0_19 v0_20 v0_21 v0_23 v0_24 v0_26 v0_27 v0_28 x0_0 x0_22 f1) s.heap.size = A at hD ⊢
  have hA : ∀ q : Nat, s.heap.size ≤ q → A q := fun q h => by rw [← hAe]; exact Or.inr h
  have hS : va_S A s.heap s.heap [] := va_S.rf
  have hl := lv_entry ([.ref a0, .int p1]) (n := 2) (Nat.le_of_ble_eq_true rfl)
  rw [lg_entry_eq]
  generalize (lg_sl ([.ref a0, .int p1]) ++ List.replicate (2 - (lg_sl ([.ref a0, .int p1])).length) Slot.unset).toArray = ls at hl ⊢
  have hl : lv_has ls 2 [(0, .ref a0), (1, .int p1)] := hl
  unfold S_Model_reach at hF
  refine lv_aload_n hx hb d_Model_reach_0 rfl (lv_at hl 0 rfl) ?_
  refine lv_iconst (v := 0) hx hb d_Model_reach_1 (by decide) ?_
  refine va_put (D := (dC, dI)) (ci := 9) (v := .int 0) (ty := .int) (C := R_Model) (T := F_Model) (N := 29) hx hb hg iw_Model t_Model t_Model_ok n_Model hown hK hP hD hS 0 rfl rfl 0 (by decide) (hg _ gw_259) (fun _ h9 => h9) rfl (by decide +kernel) rfl rfl (Nat.le_of_ble_eq_true rfl) d_Model_reach_2 (fun H locs hP hD hS => ?_)
  have hP : va_P (dC, dI) classes (wd_Model_reach kA a0 a1 v0_1 v0_2 v0_3 v0_4 v0_5 v0_6 v0_7 v0_8 v0_9 v0_10 v0_11 v0_12 v0_13 v0_14 v0_15 v0_16 v0_17 v0_18 v0_19 v0_20 v0_21 v0_23 v0_24 v0_26 v0_27 v0_28 0 x0_22 f1) H := hP
  have hD : va_D A (wd_Model_reach kA a0 a1 v0_1 v0_2 v0_3 v0_4 v0_5 v0_6 v0_7 v0_8 v0_9 v0_10 v0_11 v0_12 v0_13 v0_14 v0_15 v0_16 v0_17 v0_18 v0_19 v0_20 v0_21 v0_23 v0_24 v0_26 v0_27 v0_28 0 x0_22 f1) := hD
  refine lv_iload_n hx hb d_Model_reach_5 rfl (lv_at hl 1 rfl) ?_
  refine lv_if_lt (tgt := 17) hx hb d_Model_reach_6 (by decide) (fun c_1 => ?_) (fun c_1 => ?_)
  · rw [if_pos c_1] at hF
    refine lv_aload_n hx hb d_Model_reach_17 rfl (lv_at hl 0 rfl) ?_
    refine lv_iconst (v := 1) hx hb d_Model_reach_18 (by decide) ?_
    obtain ⟨u_2, hS_2, hF⟩ := rd_bind hF
    have hPc := hP.sub (ws' := (wd_Model_fails kA a0 v0_1 v0_2 v0_3 v0_4 v0_5 v0_6 v0_7 v0_8 v0_9 v0_10 v0_11 v0_12 v0_13 v0_14 v0_15 v0_16 v0_17 v0_18 v0_19 v0_20 v0_21 (.int x0_22) v0_23 v0_24 (.ref a1) v0_26 v0_27 v0_28 0)) [0] rfl
    have hDc := hD.sub (ws' := (wd_Model_fails kA a0 v0_1 v0_2 v0_3 v0_4 v0_5 v0_6 v0_7 v0_8 v0_9 v0_10 v0_11 v0_12 v0_13 v0_14 v0_15 v0_16 v0_17 v0_18 v0_19 v0_20 v0_21 (.int x0_22) v0_23 v0_24 (.ref a1) v0_26 v0_27 v0_28 0)) [0] (by decide) rfl
    have hFc := va_free (wc := (wd_Model_fails kA a0 v0_1 v0_2 v0_3 v0_4 v0_5 v0_6 v0_7 v0_8 v0_9 v0_10 v0_11 v0_12 v0_13 v0_14 v0_15 v0_16 v0_17 v0_18 v0_19 v0_20 v0_21 (.int x0_22) v0_23 v0_24 (.ref a1) v0_26 v0_27 v0_28 0)) hD hS hA [0] rfl
    refine va_calli (va_runV (As := [.int 1]) (rest := []) ⟨hx, hb, hml, hown, hts⟩ (c_Model_fails l dC dI kA H.size a0 v0_1 v0_2 v0_3 v0_4 v0_5 v0_6 v0_7 v0_8 v0_9 v0_10 v0_11 v0_12 v0_13 v0_14 v0_15 v0_16 v0_17 v0_18 v0_19 v0_20 v0_21 (.int x0_22) v0_23 v0_24 (.ref a1) v0_26 v0_27 v0_28 1 0 u_2.1 u_2.2 hS_2) (cwV 1 hts (gw_V gw_264 gw_265 gw_266 gw_267 gw_268) rfl rfl rfl (by decide +kernel) ⟨Nat.le_of_ble_eq_true rfl, Nat.le_of_ble_eq_true rfl⟩) ⟨fun a U g mk q => by obtain ⟨q0, q1, qP, qK, qD⟩ := q; exact ⟨q0, q1, qP, va_K.moved (u := U) (U := U.calling g mk a) (Vm.Alike.refl U.vm) qK, qD⟩, va_recv hK hP (ci := 9) (q0 := 0) rfl rfl, fun U hU hW => ⟨rfl, by rw [hU], by rw [hU]; exact hPc, va_K.moved hW.alike hK, hDc.weaken (fun _ _ _ _ => trivial)⟩⟩ rfl rfl hl.1 rfl (lv_room (Nat.le_of_ble_eq_true rfl)) d_Model_reach_19 ⟨Nat.zero_le _, Nat.zero_le _⟩) hS (fun q _ h => hFc q h) hFc (fun r1 u t H1 locs ht hvm hw hB hz1 hk1 hS => ?_)
    rw [show r1 = _ from hw]
    obtain ⟨hP1, hK1, hD1⟩ := hB
    rw [ht] at hP1
    obtain ⟨hP, hD⟩ := va_join (wr := [(a1, .inl (kA 0, 40, .inl f1))]) (w1 := (wd_Model_fails kA a0 v0_1 v0_2 v0_3 v0_4 v0_5 v0_6 v0_7 v0_8 v0_9 v0_10 v0_11 v0_12 v0_13 v0_14 v0_15 v0_16 v0_17 v0_18 v0_19 v0_20 v0_21 (.int x0_22) v0_23 v0_24 (.ref a1) v0_26 v0_27 v0_28 u_2.2)) hP hD [0] [1] rfl rfl (by decide) (by decide) hk1 hFc hP1 hD1
    have hP := hP.sub (ws' := (wd_Model_reach kA a0 a1 v0_1 v0_2 v0_3 v0_4 v0_5 v0_6 v0_7 v0_8 v0_9 v0_10 v0_11 v0_12 v0_13 v0_14 v0_15 v0_16 v0_17 v0_18 v0_19 v0_20 v0_21 v0_23 v0_24 v0_26 v0_27 v0_28 u_2.2 x0_22 f1)) [1, 0] rfl
    have hD := hD.sub (ws' := (wd_Model_reach kA a0 a1 v0_1 v0_2 v0_3 v0_4 v0_5 v0_6 v0_7 v0_8 v0_9 v0_10 v0_11 v0_12 v0_13 v0_14 v0_15 v0_16 v0_17 v0_18 v0_19 v0_20 v0_21 v0_23 v0_24 v0_26 v0_27 v0_28 u_2.2 x0_22 f1)) [1, 0] (by decide) rfl
    clear hPc hDc hFc hP1 hK1 hD1
    generalize H1 = H at hP hS ⊢
    refine lv_goto (tgt := 31) hx hb d_Model_reach_22 (by decide) ?_
    have e0 := Option.some.inj hF
    have q0 := Prod.mk.inj e0
    exact W.iret (v := u_2.1) hx hb hr (fun t ht hW => ⟨⟨u_2.1, (), rfl, q0.1, by rw [ht, ← q0.2]; exact hP, va_K.moved hW.alike hK, (by rw [← q0.2]; exact hD)⟩, hS.F ht⟩) hS.2.2 d_Model_reach_31 hlocks
  · rw [if_neg c_1] at hF
    refine lv_iload_n hx hb d_Model_reach_9 rfl (lv_at hl 1 rfl) ?_
    refine lv_aload_n hx hb d_Model_reach_10 rfl (lv_at hl 0 rfl) ?_
    refine va_get (D := (dC, dI)) (ci := 9) (v := .int x0_22) (C := R_Model) (T := F_Model) (N := 29) hx hb hg iw_Model hown hK hP 0 rfl rfl 22 (by decide) (hg _ gw_262) (fun _ h9 => h9) rfl d_Model_reach_11 ?_
    refine lv_icmp_lt (tgt := 25) hx hb d_Model_reach_14 (by decide) (fun c_3 => ?_) (fun c_3 => ?_)
    · rw [if_pos c_3] at hF
      refine lv_aload_n hx hb d_Model_reach_25 rfl (lv_at hl 0 rfl) ?_
      refine va_get (D := (dC, dI)) (ci := 9) (v := .ref a1) (C := R_Model) (T := F_Model) (N := 29) hx hb hg iw_Model hown hK hP 0 rfl rfl 25 (by decide) (hg _ gw_345) (fun _ h9 => h9) rfl d_Model_reach_26 ?_
      refine lv_iload_n hx hb d_Model_reach_29 rfl (lv_at hl 1 rfl) ?_
      obtain ⟨h_4, hF⟩ := rd_chk hF
      refine va_iald hx hb hK hP 1 0 rfl rfl h_4 d_Model_reach_30 ?_
      have e0 := Option.some.inj hF
      have q0 := Prod.mk.inj e0
      exact W.iret (v := (f1 (Int32.toNatClampNeg p1))) hx hb hr (fun t ht hW => ⟨⟨(f1 (Int32.toNatClampNeg p1)), (), rfl, q0.1, by rw [ht, ← q0.2]; exact hP, va_K.moved hW.alike hK, (by rw [← q0.2]; exact hD)⟩, hS.F ht⟩) hS.2.2 d_Model_reach_31 hlocks
    · rw [if_neg c_3] at hF
      refine lv_aload_n hx hb d_Model_reach_17 rfl (lv_at hl 0 rfl) ?_
      refine lv_iconst (v := 1) hx hb d_Model_reach_18 (by decide) ?_
      obtain ⟨u_5, hS_5, hF⟩ := rd_bind hF
      have hPc := hP.sub (ws' := (wd_Model_fails kA a0 v0_1 v0_2 v0_3 v0_4 v0_5 v0_6 v0_7 v0_8 v0_9 v0_10 v0_11 v0_12 v0_13 v0_14 v0_15 v0_16 v0_17 v0_18 v0_19 v0_20 v0_21 (.int x0_22) v0_23 v0_24 (.ref a1) v0_26 v0_27 v0_28 0)) [0] rfl
      have hDc := hD.sub (ws' := (wd_Model_fails kA a0 v0_1 v0_2 v0_3 v0_4 v0_5 v0_6 v0_7 v0_8 v0_9 v0_10 v0_11 v0_12 v0_13 v0_14 v0_15 v0_16 v0_17 v0_18 v0_19 v0_20 v0_21 (.int x0_22) v0_23 v0_24 (.ref a1) v0_26 v0_27 v0_28 0)) [0] (by decide) rfl
      have hFc := va_free (wc := (wd_Model_fails kA a0 v0_1 v0_2 v0_3 v0_4 v0_5 v0_6 v0_7 v0_8 v0_9 v0_10 v0_11 v0_12 v0_13 v0_14 v0_15 v0_16 v0_17 v0_18 v0_19 v0_20 v0_21 (.int x0_22) v0_23 v0_24 (.ref a1) v0_26 v0_27 v0_28 0)) hD hS hA [0] rfl
      refine va_calli (va_runV (As := [.int 1]) (rest := []) ⟨hx, hb, hml, hown, hts⟩ (c_Model_fails l dC dI kA H.size a0 v0_1 v0_2 v0_3 v0_4 v0_5 v0_6 v0_7 v0_8 v0_9 v0_10 v0_11 v0_12 v0_13 v0_14 v0_15 v0_16 v0_17 v0_18 v0_19 v0_20 v0_21 (.int x0_22) v0_23 v0_24 (.ref a1) v0_26 v0_27 v0_28 1 0 u_5.1 u_5.2 hS_5) (cwV 1 hts (gw_V gw_264 gw_265 gw_266 gw_267 gw_268) rfl rfl rfl (by decide +kernel) ⟨Nat.le_of_ble_eq_true rfl, Nat.le_of_ble_eq_true rfl⟩) ⟨fun a U g mk q => by obtain ⟨q0, q1, qP, qK, qD⟩ := q; exact ⟨q0, q1, qP, va_K.moved (u := U) (U := U.calling g mk a) (Vm.Alike.refl U.vm) qK, qD⟩, va_recv hK hP (ci := 9) (q0 := 0) rfl rfl, fun U hU hW => ⟨rfl, by rw [hU], by rw [hU]; exact hPc, va_K.moved hW.alike hK, hDc.weaken (fun _ _ _ _ => trivial)⟩⟩ rfl rfl hl.1 rfl (lv_room (Nat.le_of_ble_eq_true rfl)) d_Model_reach_19 ⟨Nat.zero_le _, Nat.zero_le _⟩) hS (fun q _ h => hFc q h) hFc (fun r1 u t H1 locs ht hvm hw hB hz1 hk1 hS => ?_)
      rw [show r1 = _ from hw]
      obtain ⟨hP1, hK1, hD1⟩ := hB
      rw [ht] at hP1
      obtain ⟨hP, hD⟩ := va_join (wr := [(a1, .inl (kA 0, 40, .inl f1))]) (w1 := (wd_Model_fails kA a0 v0_1 v0_2 v0_3 v0_4 v0_5 v0_6 v0_7 v0_8 v0_9 v0_10 v0_11 v0_12 v0_13 v0_14 v0_15 v0_16 v0_17 v0_18 v0_19 v0_20 v0_21 (.int x0_22) v0_23 v0_24 (.ref a1) v0_26 v0_27 v0_28 u_5.2)) hP hD [0] [1] rfl rfl (by decide) (by decide) hk1 hFc hP1 hD1
      have hP := hP.sub (ws' := (wd_Model_reach kA a0 a1 v0_1 v0_2 v0_3 v0_4 v0_5 v0_6 v0_7 v0_8 v0_9 v0_10 v0_11 v0_12 v0_13 v0_14 v0_15 v0_16 v0_17 v0_18 v0_19 v0_20 v0_21 v0_23 v0_24 v0_26 v0_27 v0_28 u_5.2 x0_22 f1)) [1, 0] rfl
      have hD := hD.sub (ws' := (wd_Model_reach kA a0 a1 v0_1 v0_2 v0_3 v0_4 v0_5 v0_6 v0_7 v0_8 v0_9 v0_10 v0_11 v0_12 v0_13 v0_14 v0_15 v0_16 v0_17 v0_18 v0_19 v0_20 v0_21 v0_23 v0_24 v0_26 v0_27 v0_28 u_5.2 x0_22 f1)) [1, 0] (by decide) rfl
      clear hPc hDc hFc hP1 hK1 hD1
      generalize H1 = H at hP hS ⊢
      refine lv_goto (tgt := 31) hx hb d_Model_reach_22 (by decide) ?_
      have e0 := Option.some.inj hF
      have q0 := Prod.mk.inj e0
      exact W.iret (v := u_5.1) hx hb hr (fun t ht hW => ⟨⟨u_5.1, (), rfl, q0.1, by rw [ht, ← q0.2]; exact hP, va_K.moved hW.alike hK, (by rw [← q0.2]; exact hD)⟩, hS.F ht⟩) hS.2.2 d_Model_reach_31 hlocks
-- ===== RepairDeskModel.apply(I)I
abbrev wd_Model_apply (kA : Nat → ClassId) (a0 a1 a2 a3 a4 a5 a6 : Nat) (v0_1 v0_2 v0_3 v0_4 v0_5 v0_6 v0_7 v0_8 v0_9 v0_10 v0_11 v0_12 v0_13 v0_14 v0_19 v0_25 : Value) (x0_0 : Int32) (x0_15 : Int32) (x0_16 : Int32) (x0_22 : Int32) (x0_23 : Int32) (x0_27 : Int32) (x0_28 : Int32) (f1 : (Nat → Int32)) (f2 : (Nat → Int32)) (f3 : (Nat → Int32)) (f4 : (Nat → Int32)) (f5 : (Nat → Int32)) (f6 : (Nat → Int32)) : va_W := [(a0, .inr (9, [.int x0_0, v0_1, v0_2, v0_3, v0_4, v0_5, v0_6, v0_7, v0_8, v0_9, v0_10, v0_11, v0_12, v0_13, v0_14, .int x0_15, .int x0_16, .ref a6, .ref a1, v0_19, .ref a2, .ref a5, .int x0_22, .int x0_23, .ref a4, v0_25, .ref a3, .int x0_27, .int x0_28])), (a1, .inl (kA 0, 24, .inl f1)), (a2, .inl (kA 0, 6, .inl f2)), (a3, .inl (kA 0, 8, .inl f3)), (a4, .inl (kA 0, 280, .inl f4)), (a5, .inl (kA 0, 6, .inl f5)), (a6, .inl (kA 0, 16, .inl f6))]
abbrev rm_Model_apply : Room := { frames := 1, cells := 0, slots := 0, locals := 25 }
def B_Model_apply_0 (K : Nat → Int32 → Int32 → Int32 → Int32 → Int32 → Int32 → Int32 → Int32 → Int32 → Int32 → (Nat → Int32) → (Nat → Int32) → (Nat → Int32) → Option (Int32 × Int32 × Int32 × Int32 × Int32 × Int32 × Int32 × (Nat → Int32) × (Nat → Int32) × (Nat → Int32))) (x0_16 : Int32) (f2 : (Nat → Int32)) (f4 : (Nat → Int32)) (f5 : (Nat → Int32)) (l1 : Int32) (l2 : Int32) (l3 : Int32) (l4 : Int32) (x0_0 : Int32) (x0_15 : Int32) (x0_22 : Int32) (x0_23 : Int32) (x0_27 : Int32) (x0_28 : Int32) (f1 : (Nat → Int32)) (f3 : (Nat → Int32)) (f6 : (Nat → Int32)) : Option (Int32 × Int32 × Int32 × Int32 × Int32 × Int32 × Int32 × (Nat → Int32) × (Nat → Int32) × (Nat → Int32)) := (if 7 ≤ l2 then (K 1 l1 l2 0 0 x0_0 x0_15 x0_22 x0_23 x0_27 x0_28 f1 f3 f6) else (if (((7 * l1) + l2) : Int32) < 0 ∨ 280 ≤ (Int32.toNatClampNeg ((7 * l1) + l2)) then none else (if (f4 (Int32.toNatClampNeg ((7 * l1) + l2))) < 0 then (K 1 l1 l2 0 0 x0_0 x0_15 x0_22 x0_23 x0_27 x0_28 f1 f3 f6) else (if (((7 * l1) + l2) : Int32) < 0 ∨ 280 ≤ (Int32.toNatClampNeg ((7 * l1) + l2)) then none else (if (l2 : Int32) < 0 ∨ 8 ≤ (Int32.toNatClampNeg l2) then none else (K 0 l1 (l2 + 1) 0 0 x0_0 x0_15 x0_22 x0_23 x0_27 x0_28 f1 (upd f3 (Int32.toNatClampNeg l2) (f4 (Int32.toNatClampNeg ((7 * l1) + l2)))) f6))))))
def B_Model_apply_1 (K : Nat → Int32 → Int32 → Int32 → Int32 → Int32 → Int32 → Int32 → Int32 → Int32 → Int32 → (Nat → Int32) → (Nat → Int32) → (Nat → Int32) → Option (Int32 × Int32 × Int32 × Int32 × Int32 × Int32 × Int32 × (Nat → Int32) × (Nat → Int32) × (Nat → Int32))) (x0_16 : Int32) (f2 : (Nat → Int32)) (f4 : (Nat → Int32)) (f5 : (Nat → Int32)) (l1 : Int32) (l2 : Int32) (l3 : Int32) (l4 : Int32) (x0_0 : Int32) (x0_15 : Int32) (x0_22 : Int32) (x0_23 : Int32) (x0_27 : Int32) (x0_28 : Int32) (f1 : (Nat → Int32)) (f3 : (Nat → Int32)) (f6 : (Nat → Int32)) : Option (Int32 × Int32 × Int32 × Int32 × Int32 × Int32 × Int32 × (Nat → Int32) × (Nat → Int32) × (Nat → Int32)) := ((S_Model_follows l2 x0_15 x0_16 x0_27 x0_28 f1 f2 f3 f5 f6).bind fun u_6 => (if u_6.1 < 0 then ((S_Model_fails 2 x0_0).bind fun u_8 => (some (u_8.1, u_8.2, x0_15, x0_22, x0_23, u_6.2.1, u_6.2.2.1, u_6.2.2.2, f3, f6))) else (if ((u_6.2.1 + x0_15) - u_6.2.2.1) ≤ 16 then (K 2 l1 l2 u_6.1 u_6.2.2.1 x0_0 x0_15 x0_22 x0_23 u_6.2.1 u_6.2.2.1 u_6.2.2.2 f3 f6) else ((S_Model_fails 2 x0_0).bind fun u_10 => (some (u_10.1, u_10.2, x0_15, x0_22, x0_23, u_6.2.1, u_6.2.2.1, u_6.2.2.2, f3, f6))))))
def B_Model_apply_2 (K : Nat → Int32 → Int32 → Int32 → Int32 → Int32 → Int32 → Int32 → Int32 → Int32 → Int32 → (Nat → Int32) → (Nat → Int32) → (Nat → Int32) → Option (Int32 × Int32 × Int32 × Int32 × Int32 × Int32 × Int32 × (Nat → Int32) × (Nat → Int32) × (Nat → Int32))) (x0_16 : Int32) (f2 : (Nat → Int32)) (f4 : (Nat → Int32)) (f5 : (Nat → Int32)) (l1 : Int32) (l2 : Int32) (l3 : Int32) (l4 : Int32) (x0_0 : Int32) (x0_15 : Int32) (x0_22 : Int32) (x0_23 : Int32) (x0_27 : Int32) (x0_28 : Int32) (f1 : (Nat → Int32)) (f3 : (Nat → Int32)) (f6 : (Nat → Int32)) : Option (Int32 × Int32 × Int32 × Int32 × Int32 × Int32 × Int32 × (Nat → Int32) × (Nat → Int32) × (Nat → Int32)) := (if x0_15 ≤ l4 then (K 3 l1 l2 l3 0 x0_0 x0_27 x0_22 x0_23 x0_27 x0_28 f1 f3 f6) else (if (l4 : Int32) < 0 ∨ 16 ≤ (Int32.toNatClampNeg l4) then none else (if (x0_27 : Int32) < 0 ∨ 24 ≤ (Int32.toNatClampNeg x0_27) then none else (K 2 l1 l2 l3 (l4 + 1) x0_0 x0_15 x0_22 x0_23 (x0_27 + 1) x0_28 (upd f1 (Int32.toNatClampNeg x0_27) (f6 (Int32.toNatClampNeg l4))) f3 f6))))
def B_Model_apply_3 (K : Nat → Int32 → Int32 → Int32 → Int32 → Int32 → Int32 → Int32 → Int32 → Int32 → Int32 → (Nat → Int32) → (Nat → Int32) → (Nat → Int32) → Option (Int32 × Int32 × Int32 × Int32 × Int32 × Int32 × Int32 × (Nat → Int32) × (Nat → Int32) × (Nat → Int32))) (x0_16 : Int32) (f2 : (Nat → Int32)) (f4 : (Nat → Int32)) (f5 : (Nat → Int32)) (l1 : Int32) (l2 : Int32) (l3 : Int32) (l4 : Int32) (x0_0 : Int32) (x0_15 : Int32) (x0_22 : Int32) (x0_23 : Int32) (x0_27 : Int32) (x0_28 : Int32) (f1 : (Nat → Int32)) (f3 : (Nat → Int32)) (f6 : (Nat → Int32)) : Option (Int32 × Int32 × Int32 × Int32 × Int32 × Int32 × Int32 × (Nat → Int32) × (Nat → Int32) × (Nat → Int32)) := (if x0_27 ≤ l4 then ((S_Model_forget x0_22 x0_23).bind fun u_15 => (some (x0_15, x0_0, x0_15, u_15.1, u_15.2, x0_27, x0_28, f1, f3, f6))) else (if (l4 : Int32) < 0 ∨ 24 ≤ (Int32.toNatClampNeg l4) then none else (if (l4 : Int32) < 0 ∨ 16 ≤ (Int32.toNatClampNeg l4) then none else (K 3 l1 l2 l3 (l4 + 1) x0_0 x0_15 x0_22 x0_23 x0_27 x0_28 f1 f3 (upd f6 (Int32.toNatClampNeg l4) (f1 (Int32.toNatClampNeg l4)))))))
def F_Model_apply (x0_16 : Int32) (f2 : (Nat → Int32)) (f4 : (Nat → Int32)) (f5 : (Nat → Int32)) : Nat → Nat → Int32 → Int32 → Int32 → Int32 → Int32 → Int32 → Int32 → Int32 → Int32 → Int32 → (Nat → Int32) → (Nat → Int32) → (Nat → Int32) → Option (Int32 × Int32 × Int32 × Int32 × Int32 × Int32 × Int32 × (Nat → Int32) × (Nat → Int32) × (Nat → Int32))
  | 0 => fun _ _ _ _ _ _ _ _ _ _ _ _ _ _ => none
  | n + 1 => fun hd l1 l2 l3 l4 x0_0 x0_15 x0_22 x0_23 x0_27 x0_28 f1 f3 f6 => match hd with
    | 0 => B_Model_apply_0 (F_Model_apply x0_16 f2 f4 f5 n) x0_16 f2 f4 f5 l1 l2 l3 l4 x0_0 x0_15 x0_22 x0_23 x0_27 x0_28 f1 f3 f6
    | 1 => B_Model_apply_1 (F_Model_apply x0_16 f2 f4 f5 n) x0_16 f2 f4 f5 l1 l2 l3 l4 x0_0 x0_15 x0_22 x0_23 x0_27 x0_28 f1 f3 f6
    | 2 => B_Model_apply_2 (F_Model_apply x0_16 f2 f4 f5 n) x0_16 f2 f4 f5 l1 l2 l3 l4 x0_0 x0_15 x0_22 x0_23 x0_27 x0_28 f1 f3 f6
    | 3 => B_Model_apply_3 (F_Model_apply x0_16 f2 f4 f5 n) x0_16 f2 f4 f5 l1 l2 l3 l4 x0_0 x0_15 x0_22 x0_23 x0_27 x0_28 f1 f3 f6
    | _ => none
set_option maxHeartbeats 4000000 in
set_option maxRecDepth 100000 in
theorem L_Model_apply {p : Program} {l : Launch} {e : Env} {s : State} {m : MethodId} {args : Array Value} {below : List Frame} {meth : Method} {c : Code} {A : Nat → Prop} {dC : Nat → ClassId} {dI : Nat → Nat → Nat} {kA : Nat → ClassId} (hx : p.tables.exec = Jvm.exec) (hb : c.code = b_Model_apply) (hr : meth.sig.returnType = some .int) (hlocks : meth.locks = false) (hml : c.maxLocals = 5) (hown : s.vm.findClass R_Model = some m.cls) (hts : ∀ w ∈ w_Model_apply, w.before args s = true) (hA : ∀ q : Nat, s.heap.size ≤ q → A q) (hK : va_K (dC, dI) classes (tys_ kA) s) (a0 a1 a2 a3 a4 a5 a6 : Nat) (v0_1 v0_2 v0_3 v0_4 v0_5 v0_6 v0_7 v0_8 v0_9 v0_10 v0_11 v0_12 v0_13 v0_14 v0_19 v0_25 : Value) (x0_16 : Int32) (f2 : (Nat → Int32)) (f4 : (Nat → Int32)) (f5 : (Nat → Int32)) (r : Int32) (ox0_0 : Int32) (ox0_15 : Int32) (ox0_22 : Int32) (ox0_23 : Int32) (ox0_27 : Int32) (ox0_28 : Int32) (of1 : (Nat → Int32)) (of3 : (Nat → Int32)) (of6 : (Nat → Int32)) : ∀ n : Nat, (∀ (l1 l2 l3 l4 : Int32) (x0_0 : Int32) (x0_15 : Int32) (x0_22 : Int32) (x0_23 : Int32) (x0_27 : Int32) (x0_28 : Int32) (f1 : (Nat → Int32)) (f3 : (Nat → Int32)) (f6 : (Nat → Int32)), F_Model_apply x0_16 f2 f4 f5 n 0 l1 l2 l3 l4 x0_0 x0_15 x0_22 x0_23 x0_27 x0_28 f1 f3 f6 = some (r, ox0_0, ox0_15, ox0_22, ox0_23, ox0_27, ox0_28, of1, of3, of6) → ∀ (H : Heap) (locs : List Loc) (ls : Array Slot), va_P (dC, dI) classes (wd_Model_apply kA a0 a1 a2 a3 a4 a5 a6 v0_1 v0_2 v0_3 v0_4 v0_5 v0_6 v0_7 v0_8 v0_9 v0_10 v0_11 v0_12 v0_13 v0_14 v0_19 v0_25 x0_0 x0_15 x0_16 x0_22 x0_23 x0_27 x0_28 f1 f2 f3 f4 f5 f6) H → va_D A (wd_Model_apply kA a0 a1 a2 a3 a4 a5 a6 v0_1 v0_2 v0_3 v0_4 v0_5 v0_6 v0_7 v0_8 v0_9 v0_10 v0_11 v0_12 v0_13 v0_14 v0_19 v0_25 x0_0 x0_15 x0_16 x0_22 x0_23 x0_27 x0_28 f1 f2 f3 f4 f5 f6) → va_S A s.heap H locs → lv_has ls 5 [(0, .ref a0), (1, .int l1), (2, .int l2)] → W p l e (headSpec w_Model_apply rm_Model_apply).room s m args below meth c H locs 0 0 (MQ below (va_Qi (fun (r1 : Int32) (_ : Unit) => r1 = r) (fun _ t => va_P (dC, dI) classes (wd_Model_apply kA a0 a1 a2 a3 a4 a5 a6 v0_1 v0_2 v0_3 v0_4 v0_5 v0_6 v0_7 v0_8 v0_9 v0_10 v0_11 v0_12 v0_13 v0_14 v0_19 v0_25 ox0_0 ox0_15 x0_16 ox0_22 ox0_23 ox0_27 ox0_28 of1 f2 of3 f4 f5 of6) t.heap ∧ va_K (dC, dI) classes (tys_ kA) t ∧ va_D A (wd_Model_apply kA a0 a1 a2 a3 a4 a5 a6 v0_1 v0_2 v0_3 v0_4 v0_5 v0_6 v0_7 v0_8 v0_9 v0_10 v0_11 v0_12 v0_13 v0_14 v0_19 v0_25 ox0_0 ox0_15 x0_16 ox0_22 ox0_23 ox0_27 ox0_28 of1 f2 of3 f4 f5 of6)) A) args s 0 0 A) (F0 m 25 ls [])) ∧ (∀ (l1 l2 l3 l4 : Int32) (x0_0 : Int32) (x0_15 : Int32) (x0_22 : Int32) (x0_23 : Int32) (x0_27 : Int32) (x0_28 : Int32) (f1 : (Nat → Int32)) (f3 : (Nat → Int32)) (f6 : (Nat → Int32)), F_Model_apply x0_16 f2 f4 f5 n 1 l1 l2 l3 l4 x0_0 x0_15 x0_22 x0_23 x0_27 x0_28 f1 f3 f6 = some (r, ox0_0, ox0_15, ox0_22, ox0_23, ox0_27, ox0_28, of1, of3, of6) → ∀ (H : Heap) (locs : List Loc) (ls : Array Slot), va_P (dC, dI) classes (wd_Model_apply kA a0 a1 a2 a3 a4 a5 a6 v0_1 v0_2 v0_3 v0_4 v0_5 v0_6 v0_7 v0_8 v0_9 v0_10 v0_11 v0_12 v0_13 v0_14 v0_19 v0_25 x0_0 x0_15 x0_16 x0_22 x0_23 x0_27 x0_28 f1 f2 f3 f4 f5 f6) H → va_D A (wd_Model_apply kA a0 a1 a2 a3 a4 a5 a6 v0_1 v0_2 v0_3 v0_4 v0_5 v0_6 v0_7 v0_8 v0_9 v0_10 v0_11 v0_12 v0_13 v0_14 v0_19 v0_25 x0_0 x0_15 x0_16 x0_22 x0_23 x0_27 x0_28 f1 f2 f3 f4 f5 f6) → va_S A s.heap H locs → lv_has ls 5 [(0, .ref a0), (1, .int l1), (2, .int l2)] → W p l e (headSpec w_Model_apply rm_Model_apply).room s m args below meth c H locs 0 0 (MQ below (va_Qi (fun (r1 : Int32) (_ : Unit) => r1 = r) (fun _ t => va_P (dC, dI) classes (wd_Model_apply kA a0 a1 a2 a3 a4 a5 a6 v0_1 v0_2 v0_3 v0_4 v0_5 v0_6 v0_7 v0_8 v0_9 v0_10 v0_11 v0_12 v0_13 v0_14 v0_19 v0_25 ox0_0 ox0_15 x0_16 ox0_22 ox0_23 ox0_27 ox0_28 of1 f2 of3 f4 f5 of6) t.heap ∧ va_K (dC, dI) classes (tys_ kA) t ∧ va_D A (wd_Model_apply kA a0 a1 a2 a3 a4 a5 a6 v0_1 v0_2 v0_3 v0_4 v0_5 v0_6 v0_7 v0_8 v0_9 v0_10 v0_11 v0_12 v0_13 v0_14 v0_19 v0_25 ox0_0 ox0_15 x0_16 ox0_22 ox0_23 ox0_27 ox0_28 of1 f2 of3 f4 f5 of6)) A) args s 0 0 A) (F0 m 68 ls [])) ∧ (∀ (l1 l2 l3 l4 : Int32) (x0_0 : Int32) (x0_15 : Int32) (x0_22 : Int32) (x0_23 : Int32) (x0_27 : Int32) (x0_28 : Int32) (f1 : (Nat → Int32)) (f3 : (Nat → Int32)) (f6 : (Nat → Int32)), F_Model_apply x0_16 f2 f4 f5 n 2 l1 l2 l3 l4 x0_0 x0_15 x0_22 x0_23 x0_27 x0_28 f1 f3 f6 = some (r, ox0_0, ox0_15, ox0_22, ox0_23, ox0_27, ox0_28, of1, of3, of6) → ∀ (H : Heap) (locs : List Loc) (ls : Array Slot), va_P (dC, dI) classes (wd_Model_apply kA a0 a1 a2 a3 a4 a5 a6 v0_1 v0_2 v0_3 v0_4 v0_5 v0_6 v0_7 v0_8 v0_9 v0_10 v0_11 v0_12 v0_13 v0_14 v0_19 v0_25 x0_0 x0_15 x0_16 x0_22 x0_23 x0_27 x0_28 f1 f2 f3 f4 f5 f6) H → va_D A (wd_Model_apply kA a0 a1 a2 a3 a4 a5 a6 v0_1 v0_2 v0_3 v0_4 v0_5 v0_6 v0_7 v0_8 v0_9 v0_10 v0_11 v0_12 v0_13 v0_14 v0_19 v0_25 x0_0 x0_15 x0_16 x0_22 x0_23 x0_27 x0_28 f1 f2 f3 f4 f5 f6) → va_S A s.heap H locs → lv_has ls 5 [(0, .ref a0), (1, .int l1), (2, .int l2), (3, .int l3), (4, .int l4)] → W p l e (headSpec w_Model_apply rm_Model_apply).room s m args below meth c H locs 0 0 (MQ below (va_Qi (fun (r1 : Int32) (_ : Unit) => r1 = r) (fun _ t => va_P (dC, dI) classes (wd_Model_apply kA a0 a1 a2 a3 a4 a5 a6 v0_1 v0_2 v0_3 v0_4 v0_5 v0_6 v0_7 v0_8 v0_9 v0_10 v0_11 v0_12 v0_13 v0_14 v0_19 v0_25 ox0_0 ox0_15 x0_16 ox0_22 ox0_23 ox0_27 ox0_28 of1 f2 of3 f4 f5 of6) t.heap ∧ va_K (dC, dI) classes (tys_ kA) t ∧ va_D A (wd_Model_apply kA a0 a1 a2 a3 a4 a5 a6 v0_1 v0_2 v0_3 v0_4 v0_5 v0_6 v0_7 v0_8 v0_9 v0_10 v0_11 v0_12 v0_13 v0_14 v0_19 v0_25 ox0_0 ox0_15 x0_16 ox0_22 ox0_23 ox0_27 ox0_28 of1 f2 of3 f4 f5 of6)) A) args s 0 0 A) (F0 m 109 ls [])) ∧ (∀ (l1 l2 l3 l4 : Int32) (x0_0 : Int32) (x0_15 : Int32) (x0_22 : Int32) (x0_23 : Int32) (x0_27 : Int32) (x0_28 : Int32) (f1 : (Nat → Int32)) (f3 : (Nat → Int32)) (f6 : (Nat → Int32)), F_Model_apply x0_16 f2 f4 f5 n 3 l1 l2 l3 l4 x0_0 x0_15 x0_22 x0_23 x0_27 x0_28 f1 f3 f6 = some (r, ox0_0, ox0_15, ox0_22, ox0_23, ox0_27, ox0_28, of1, of3, of6) → ∀ (H : Heap) (locs : List Loc) (ls : Array Slot), va_P (dC, dI) classes (wd_Model_apply kA a0 a1 a2 a3 a4 a5 a6 v0_1 v0_2 v0_3 v0_4 v0_5 v0_6 v0_7 v0_8 v0_9 v0_10 v0_11 v0_12 v0_13 v0_14 v0_19 v0_25 x0_0 x0_15 x0_16 x0_22 x0_23 x0_27 x0_28 f1 f2 f3 f4 f5 f6) H → va_D A (wd_Model_apply kA a0 a1 a2 a3 a4 a5 a6 v0_1 v0_2 v0_3 v0_4 v0_5 v0_6 v0_7 v0_8 v0_9 v0_10 v0_11 v0_12 v0_13 v0_14 v0_19 v0_25 x0_0 x0_15 x0_16 x0_22 x0_23 x0_27 x0_28 f1 f2 f3 f4 f5 f6) → va_S A s.heap H locs → lv_has ls 5 [(0, .ref a0), (1, .int l1), (2, .int l2), (3, .int l3), (4, .int l4)] → W p l e (headSpec w_Model_apply rm_Model_apply).room s m args below meth c H locs 0 0 (MQ below (va_Qi (fun (r1 : Int32) (_ : Unit) => r1 = r) (fun _ t => va_P (dC, dI) classes (wd_Model_apply kA a0 a1 a2 a3 a4 a5 a6 v0_1 v0_2 v0_3 v0_4 v0_5 v0_6 v0_7 v0_8 v0_9 v0_10 v0_11 v0_12 v0_13 v0_14 v0_19 v0_25 ox0_0 ox0_15 x0_16 ox0_22 ox0_23 ox0_27 ox0_28 of1 f2 of3 f4 f5 of6) t.heap ∧ va_K (dC, dI) classes (tys_ kA) t ∧ va_D A (wd_Model_apply kA a0 a1 a2 a3 a4 a5 a6 v0_1 v0_2 v0_3 v0_4 v0_5 v0_6 v0_7 v0_8 v0_9 v0_10 v0_11 v0_12 v0_13 v0_14 v0_19 v0_25 ox0_0 ox0_15 x0_16 ox0_22 ox0_23 ox0_27 ox0_28 of1 f2 of3 f4 f5 of6)) A) args s 0 0 A) (F0 m 161 ls [])) := by
  have hg := fun (w : Cond) (h : w ∈ gw) => hts w (List.mem_cons_of_mem _ h)
  intro n
  induction n with
  | zero =>
    exact ⟨fun _ _ _ _ _ _ _ _ _ _ _ _ _ hF => absurd (show (none : Option _) = some _ from hF) (fun z => by cases z), fun _ _ _ _ _ _ _ _ _ _ _ _ _ hF => absurd (show (none : Option _) = some _ from hF) (fun z => by cases z), fun _ _ _ _ _ _ _ _ _ _ _ _ _ hF => absurd (show (none : Option _) = some _ from hF) (fun z => by cases z), fun _ _ _ _ _ _ _ _ _ _ _ _ _ hF => absurd (show (none : Option _) = some _ from hF) (fun z => by cases z)⟩
  | succ n ih =>
    refine ⟨?_, ?_, ?_, ?_⟩
    · intro l1 l2 l3 l4 x0_0 x0_15 x0_22 x0_23 x0_27 x0_28 f1 f3 f6 hF H locs ls hP hD hS hl
      have hF : B_Model_apply_0 (F_Model_apply x0_16 f2 f4 f5 n) x0_16 f2 f4 f5 l1 l2 l3 l4 x0_0 x0_15 x0_22 x0_23 x0_27 x0_28 f1 f3 f6 = some (r, ox0_0, ox0_15, ox0_22, ox0_23, ox0_27, ox0_28, of1, of3, of6) := hF
      unfold B_Model_apply_0 at hF
      refine lv_iload_n hx hb d_Model_apply_25 rfl (lv_at hl 2 rfl) ?_
      refine lv_bipush (v := 7) hx hb d_Model_apply_26 (by decide) ?_
      refine lv_icmp_ge (tgt := 68) hx hb d_Model_apply_28 (by decide) (fun c_1 => ?_) (fun c_1 => ?_)
      · rw [if_pos c_1] at hF
        exact ih.2.1 l1 l2 0 0 x0_0 x0_15 x0_22 x0_23 x0_27 x0_28 f1 f3 f6 hF _ _ _ hP hD hS (lv_sub hl [0, 1, 2] rfl)
      · rw [if_neg c_1] at hF
        refine lv_aload_n hx hb d_Model_apply_31 rfl (lv_at hl 0 rfl) ?_
        refine va_get (D := (dC, dI)) (ci := 9) (v := .ref a4) (C := R_Model) (T := F_Model) (N := 29) hx hb hg iw_Model hown hK hP 0 rfl rfl 24 (by decide) (hg _ gw_346) (fun _ h9 => h9) rfl d_Model_apply_32 ?_
        refine lv_bipush (v := 7) hx hb d_Model_apply_35 (by decide) ?_
        refine lv_iload_n hx hb d_Model_apply_37 rfl (lv_at hl 1 rfl) ?_
        refine lv_imul hx hb d_Model_apply_38 ?_
        refine lv_iload_n hx hb d_Model_apply_39 rfl (lv_at hl 2 rfl) ?_
        refine lv_iadd hx hb d_Model_apply_40 ?_
        obtain ⟨h_2, hF⟩ := rd_chk hF
        refine va_iald hx hb hK hP 4 0 rfl rfl h_2 d_Model_apply_41 ?_
        refine lv_if_lt (tgt := 68) hx hb d_Model_apply_42 (by decide) (fun c_3 => ?_) (fun c_3 => ?_)
        · rw [if_pos c_3] at hF
          exact ih.2.1 l1 l2 0 0 x0_0 x0_15 x0_22 x0_23 x0_27 x0_28 f1 f3 f6 hF _ _ _ hP hD hS (lv_sub hl [0, 1, 2] rfl)
        · rw [if_neg c_3] at hF
          refine lv_aload_n hx hb d_Model_apply_45 rfl (lv_at hl 0 rfl) ?_
          refine va_get (D := (dC, dI)) (ci := 9) (v := .ref a3) (C := R_Model) (T := F_Model) (N := 29) hx hb hg iw_Model hown hK hP 0 rfl rfl 26 (by decide) (hg _ gw_342) (fun _ h9 => h9) rfl d_Model_apply_46 ?_
          refine lv_iload_n hx hb d_Model_apply_49 rfl (lv_at hl 2 rfl) ?_
          refine lv_aload_n hx hb d_Model_apply_50 rfl (lv_at hl 0 rfl) ?_
          refine va_get (D := (dC, dI)) (ci := 9) (v := .ref a4) (C := R_Model) (T := F_Model) (N := 29) hx hb hg iw_Model hown hK hP 0 rfl rfl 24 (by decide) (hg _ gw_346) (fun _ h9 => h9) rfl d_Model_apply_51 ?_
          refine lv_bipush (v := 7) hx hb d_Model_apply_54 (by decide) ?_
          refine lv_iload_n hx hb d_Model_apply_56 rfl (lv_at hl 1 rfl) ?_
          refine lv_imul hx hb d_Model_apply_57 ?_
          refine lv_iload_n hx hb d_Model_apply_58 rfl (lv_at hl 2 rfl) ?_
          refine lv_iadd hx hb d_Model_apply_59 ?_
          obtain ⟨h_4, hF⟩ := rd_chk hF
          refine va_iald hx hb hK hP 4 0 rfl rfl h_4 d_Model_apply_60 ?_
          obtain ⟨h_5, hF⟩ := rd_chk hF
          refine va_iast hx hb hK hP hD hS 3 0 rfl rfl h_5 d_Model_apply_61 (fun H locs hP hD hS => ?_)
          have hP : va_P (dC, dI) classes (wd_Model_apply kA a0 a1 a2 a3 a4 a5 a6 v0_1 v0_2 v0_3 v0_4 v0_5 v0_6 v0_7 v0_8 v0_9 v0_10 v0_11 v0_12 v0_13 v0_14 v0_19 v0_25 x0_0 x0_15 x0_16 x0_22 x0_23 x0_27 x0_28 f1 f2 (upd f3 (Int32.toNatClampNeg l2) (f4 (Int32.toNatClampNeg ((7 * l1) + l2)))) f4 f5 f6) H := hP
          have hD : va_D A (wd_Model_apply kA a0 a1 a2 a3 a4 a5 a6 v0_1 v0_2 v0_3 v0_4 v0_5 v0_6 v0_7 v0_8 v0_9 v0_10 v0_11 v0_12 v0_13 v0_14 v0_19 v0_25 x0_0 x0_15 x0_16 x0_22 x0_23 x0_27 x0_28 f1 f2 (upd f3 (Int32.toNatClampNeg l2) (f4 (Int32.toNatClampNeg ((7 * l1) + l2)))) f4 f5 f6) := hD
          refine lv_iinc (v := (l2 + 1)) (lv' := [(2, .int (l2 + 1)), (0, .ref a0), (1, .int l1)]) hx hb d_Model_apply_62 hl (k := 2) rfl (by rfl) (by decide) rfl (fun ls hl => ?_)
          refine lv_goto (tgt := 25) hx hb d_Model_apply_65 (by decide) ?_
          exact ih.1 l1 (l2 + 1) 0 0 x0_0 x0_15 x0_22 x0_23 x0_27 x0_28 f1 (upd f3 (Int32.toNatClampNeg l2) (f4 (Int32.toNatClampNeg ((7 * l1) + l2)))) f6 hF _ _ _ hP hD hS (lv_sub hl [1, 2, 0] rfl)
    · intro l1 l2 l3 l4 x0_0 x0_15 x0_22 x0_23 x0_27 x0_28 f1 f3 f6 hF H locs ls hP hD hS hl
      have hF : B_Model_apply_1 (F_Model_apply x0_16 f2 f4 f5 n) x0_16 f2 f4 f5 l1 l2 l3 l4 x0_0 x0_15 x0_22 x0_23 x0_27 x0_28 f1 f3 f6 = some (r, ox0_0, ox0_15, ox0_22, ox0_23, ox0_27, ox0_28, of1, of3, of6) := hF
      unfold B_Model_apply_1 at hF
      refine lv_aload_n hx hb d_Model_apply_68 rfl (lv_at hl 0 rfl) ?_
      refine lv_iload_n hx hb d_Model_apply_69 rfl (lv_at hl 2 rfl) ?_
      obtain ⟨u_6, hS_6, hF⟩ := rd_bind hF
      have hPc := hP.sub (ws' := (wd_Model_follows kA a0 a1 a2 a3 a5 a6 (.int x0_0) v0_1 v0_2 v0_3 v0_4 v0_5 v0_6 v0_7 v0_8 v0_9 v0_10 v0_11 v0_12 v0_13 v0_14 v0_19 (.int x0_22) (.int x0_23) (.ref a4) v0_25 x0_15 x0_16 x0_27 x0_28 f1 f2 f3 f5 f6)) [0, 1, 2, 3, 5, 6] rfl
      have hDc := hD.sub (ws' := (wd_Model_follows kA a0 a1 a2 a3 a5 a6 (.int x0_0) v0_1 v0_2 v0_3 v0_4 v0_5 v0_6 v0_7 v0_8 v0_9 v0_10 v0_11 v0_12 v0_13 v0_14 v0_19 (.int x0_22) (.int x0_23) (.ref a4) v0_25 x0_15 x0_16 x0_27 x0_28 f1 f2 f3 f5 f6)) [0, 1, 2, 3, 5, 6] (by decide) rfl
      have hFc := va_free (wc := (wd_Model_follows kA a0 a1 a2 a3 a5 a6 (.int x0_0) v0_1 v0_2 v0_3 v0_4 v0_5 v0_6 v0_7 v0_8 v0_9 v0_10 v0_11 v0_12 v0_13 v0_14 v0_19 (.int x0_22) (.int x0_23) (.ref a4) v0_25 x0_15 x0_16 x0_27 x0_28 f1 f2 f3 f5 f6)) hD hS hA [0, 1, 2, 3, 5, 6] rfl
      refine va_calli (va_runV (As := [.int l2]) (rest := []) ⟨hx, hb, hml, hown, hts⟩ (c_Model_follows l dC dI kA H.size a0 a1 a2 a3 a5 a6 (.int x0_0) v0_1 v0_2 v0_3 v0_4 v0_5 v0_6 v0_7 v0_8 v0_9 v0_10 v0_11 v0_12 v0_13 v0_14 v0_19 (.int x0_22) (.int x0_23) (.ref a4) v0_25 l2 x0_15 x0_16 x0_27 x0_28 f1 f2 f3 f5 f6 u_6.1 u_6.2.1 u_6.2.2.1 u_6.2.2.2 hS_6) (cwV 1 hts (gw_V gw_347 gw_348 gw_349 gw_267 gw_350) rfl rfl rfl (by decide +kernel) ⟨Nat.le_of_ble_eq_true rfl, Nat.le_of_ble_eq_true rfl⟩) ⟨fun a U g mk q => by obtain ⟨q0, q1, qP, qK, qD⟩ := q; exact ⟨q0, q1, qP, va_K.moved (u := U) (U := U.calling g mk a) (Vm.Alike.refl U.vm) qK, qD⟩, va_recv hK hP (ci := 9) (q0 := 0) rfl rfl, fun U hU hW => ⟨rfl, by rw [hU], by rw [hU]; exact hPc, va_K.moved hW.alike hK, hDc.weaken (fun _ _ _ _ => trivial)⟩⟩ rfl rfl hl.1 rfl (lv_room (Nat.le_of_ble_eq_true rfl)) d_Model_apply_70 ⟨Nat.zero_le _, Nat.zero_le _⟩) hS (fun q _ h => hFc q h) hFc (fun r1 u t H1 locs ht hvm hw hB hz1 hk1 hS => ?_)
      rw [show r1 = _ from hw]
      obtain ⟨hP1, hK1, hD1⟩ := hB
      rw [ht] at hP1
      obtain ⟨hP, hD⟩ := va_join (wr := [(a4, .inl (kA 0, 280, .inl f4))]) (w1 := (wd_Model_follows kA a0 a1 a2 a3 a5 a6 (.int x0_0) v0_1 v0_2 v0_3 v0_4 v0_5 v0_6 v0_7 v0_8 v0_9 v0_10 v0_11 v0_12 v0_13 v0_14 v0_19 (.int x0_22) (.int x0_23) (.ref a4) v0_25 x0_15 x0_16 u_6.2.1 u_6.2.2.1 u_6.2.2.2 f2 f3 f5 f6)) hP hD [0, 1, 2, 3, 5, 6] [4] rfl rfl (by decide) (by decide) hk1 hFc hP1 hD1
      have hP := hP.sub (ws' := (wd_Model_apply kA a0 a1 a2 a3 a4 a5 a6 v0_1 v0_2 v0_3 v0_4 v0_5 v0_6 v0_7 v0_8 v0_9 v0_10 v0_11 v0_12 v0_13 v0_14 v0_19 v0_25 x0_0 x0_15 x0_16 x0_22 x0_23 u_6.2.1 u_6.2.2.1 u_6.2.2.2 f2 f3 f4 f5 f6)) [1, 2, 3, 4, 0, 5, 6] rfl
      have hD := hD.sub (ws' := (wd_Model_apply kA a0 a1 a2 a3 a4 a5 a6 v0_1 v0_2 v0_3 v0_4 v0_5 v0_6 v0_7 v0_8 v0_9 v0_10 v0_11 v0_12 v0_13 v0_14 v0_19 v0_25 x0_0 x0_15 x0_16 x0_22 x0_23 u_6.2.1 u_6.2.2.1 u_6.2.2.2 f2 f3 f4 f5 f6)) [1, 2, 3, 4, 0, 5, 6] (by decide) rfl
      clear hPc hDc hFc hP1 hK1 hD1
      generalize H1 = H at hP hS ⊢
      refine lv_istore_n (lv' := [(3, .int u_6.1), (0, .ref a0), (1, .int l1), (2, .int l2)]) hx hb d_Model_apply_73 rfl hl (by decide) rfl (fun ls hl => ?_)
      refine lv_iload_n hx hb d_Model_apply_74 rfl (lv_at hl 0 rfl) ?_
      refine lv_if_lt (tgt := 97) hx hb d_Model_apply_75 (by decide) (fun c_7 => ?_) (fun c_7 => ?_)
      · rw [if_pos c_7] at hF
        refine lv_aload_n hx hb d_Model_apply_97 rfl (lv_at hl 1 rfl) ?_
        refine lv_iconst (v := 2) hx hb d_Model_apply_98 (by decide) ?_
        obtain ⟨u_8, hS_8, hF⟩ := rd_bind hF
        have hPc := hP.sub (ws' := (wd_Model_fails kA a0 v0_1 v0_2 v0_3 v0_4 v0_5 v0_6 v0_7 v0_8 v0_9 v0_10 v0_11 v0_12 v0_13 v0_14 (.int x0_15) (.int x0_16) (.ref a6) (.ref a1) v0_19 (.ref a2) (.ref a5) (.int x0_22) (.int x0_23) (.ref a4) v0_25 (.ref a3) (.int u_6.2.1) (.int u_6.2.2.1) x0_0)) [0] rfl
        have hDc := hD.sub (ws' := (wd_Model_fails kA a0 v0_1 v0_2 v0_3 v0_4 v0_5 v0_6 v0_7 v0_8 v0_9 v0_10 v0_11 v0_12 v0_13 v0_14 (.int x0_15) (.int x0_16) (.ref a6) (.ref a1) v0_19 (.ref a2) (.ref a5) (.int x0_22) (.int x0_23) (.ref a4) v0_25 (.ref a3) (.int u_6.2.1) (.int u_6.2.2.1) x0_0)) [0] (by decide) rfl
        have hFc := va_free (wc := (wd_Model_fails kA a0 v0_1 v0_2 v0_3 v0_4 v0_5 v0_6 v0_7 v0_8 v0_9 v0_10 v0_11 v0_12 v0_13 v0_14 (.int x0_15) (.int x0_16) (.ref a6) (.ref a1) v0_19 (.ref a2) (.ref a5) (.int x0_22) (.int x0_23) (.ref a4) v0_25 (.ref a3) (.int u_6.2.1) (.int u_6.2.2.1) x0_0)) hD hS hA [0] rfl
        refine va_calli (va_runV (As := [.int 2]) (rest := []) ⟨hx, hb, hml, hown, hts⟩ (c_Model_fails l dC dI kA H.size a0 v0_1 v0_2 v0_3 v0_4 v0_5 v0_6 v0_7 v0_8 v0_9 v0_10 v0_11 v0_12 v0_13 v0_14 (.int x0_15) (.int x0_16) (.ref a6) (.ref a1) v0_19 (.ref a2) (.ref a5) (.int x0_22) (.int x0_23) (.ref a4) v0_25 (.ref a3) (.int u_6.2.1) (.int u_6.2.2.1) 2 x0_0 u_8.1 u_8.2 hS_8) (cwV 1 hts (gw_V gw_264 gw_265 gw_266 gw_267 gw_268) rfl rfl rfl (by decide +kernel) ⟨Nat.le_of_ble_eq_true rfl, Nat.le_of_ble_eq_true rfl⟩) ⟨fun a U g mk q => by obtain ⟨q0, q1, qP, qK, qD⟩ := q; exact ⟨q0, q1, qP, va_K.moved (u := U) (U := U.calling g mk a) (Vm.Alike.refl U.vm) qK, qD⟩, va_recv hK hP (ci := 9) (q0 := 0) rfl rfl, fun U hU hW => ⟨rfl, by rw [hU], by rw [hU]; exact hPc, va_K.moved hW.alike hK, hDc.weaken (fun _ _ _ _ => trivial)⟩⟩ rfl rfl hl.1 rfl (lv_room (Nat.le_of_ble_eq_true rfl)) d_Model_apply_99 ⟨Nat.zero_le _, Nat.zero_le _⟩) hS (fun q _ h => hFc q h) hFc (fun r1 u t H1 locs ht hvm hw hB hz1 hk1 hS => ?_)
        rw [show r1 = _ from hw]
        obtain ⟨hP1, hK1, hD1⟩ := hB
        rw [ht] at hP1
        obtain ⟨hP, hD⟩ := va_join (wr := [(a1, .inl (kA 0, 24, .inl u_6.2.2.2)), (a2, .inl (kA 0, 6, .inl f2)), (a3, .inl (kA 0, 8, .inl f3)), (a4, .inl (kA 0, 280, .inl f4)), (a5, .inl (kA 0, 6, .inl f5)), (a6, .inl (kA 0, 16, .inl f6))]) (w1 := (wd_Model_fails kA a0 v0_1 v0_2 v0_3 v0_4 v0_5 v0_6 v0_7 v0_8 v0_9 v0_10 v0_11 v0_12 v0_13 v0_14 (.int x0_15) (.int x0_16) (.ref a6) (.ref a1) v0_19 (.ref a2) (.ref a5) (.int x0_22) (.int x0_23) (.ref a4) v0_25 (.ref a3) (.int u_6.2.1) (.int u_6.2.2.1) u_8.2)) hP hD [0] [1, 2, 3, 4, 5, 6] rfl rfl (by decide) (by decide) hk1 hFc hP1 hD1
        have hP := hP.sub (ws' := (wd_Model_apply kA a0 a1 a2 a3 a4 a5 a6 v0_1 v0_2 v0_3 v0_4 v0_5 v0_6 v0_7 v0_8 v0_9 v0_10 v0_11 v0_12 v0_13 v0_14 v0_19 v0_25 u_8.2 x0_15 x0_16 x0_22 x0_23 u_6.2.1 u_6.2.2.1 u_6.2.2.2 f2 f3 f4 f5 f6)) [6, 0, 1, 2, 3, 4, 5] rfl
        have hD := hD.sub (ws' := (wd_Model_apply kA a0 a1 a2 a3 a4 a5 a6 v0_1 v0_2 v0_3 v0_4 v0_5 v0_6 v0_7 v0_8 v0_9 v0_10 v0_11 v0_12 v0_13 v0_14 v0_19 v0_25 u_8.2 x0_15 x0_16 x0_22 x0_23 u_6.2.1 u_6.2.2.1 u_6.2.2.2 f2 f3 f4 f5 f6)) [6, 0, 1, 2, 3, 4, 5] (by decide) rfl
        clear hPc hDc hFc hP1 hK1 hD1
        generalize H1 = H at hP hS ⊢
        have e0 := Option.some.inj hF
        have q0 := Prod.mk.inj e0
        have q1 := Prod.mk.inj q0.2
        have q2 := Prod.mk.inj q1.2
        have q3 := Prod.mk.inj q2.2
        have q4 := Prod.mk.inj q3.2
        have q5 := Prod.mk.inj q4.2
        have q6 := Prod.mk.inj q5.2
        have q7 := Prod.mk.inj q6.2
        have q8 := Prod.mk.inj q7.2
        exact W.iret (v := u_8.1) hx hb hr (fun t ht hW => ⟨⟨u_8.1, (), rfl, q0.1, by rw [ht, ← q1.1, ← q2.1, ← q3.1, ← q4.1, ← q5.1, ← q6.1, ← q7.1, ← q8.1, ← q8.2]; exact hP, va_K.moved hW.alike hK, (by rw [← q1.1, ← q2.1, ← q3.1, ← q4.1, ← q5.1, ← q6.1, ← q7.1, ← q8.1, ← q8.2]; exact hD)⟩, hS.F ht⟩) hS.2.2 d_Model_apply_102 hlocks
      · rw [if_neg c_7] at hF
        refine lv_aload_n hx hb d_Model_apply_78 rfl (lv_at hl 1 rfl) ?_
        refine va_get (D := (dC, dI)) (ci := 9) (v := .int u_6.2.1) (C := R_Model) (T := F_Model) (N := 29) hx hb hg iw_Model hown hK hP 0 rfl rfl 27 (by decide) (hg _ gw_344) (fun _ h9 => h9) rfl d_Model_apply_79 ?_
        refine lv_aload_n hx hb d_Model_apply_82 rfl (lv_at hl 1 rfl) ?_
        refine va_get (D := (dC, dI)) (ci := 9) (v := .int x0_15) (C := R_Model) (T := F_Model) (N := 29) hx hb hg iw_Model hown hK hP 0 rfl rfl 15 (by decide) (hg _ gw_329) (fun _ h9 => h9) rfl d_Model_apply_83 ?_
        refine lv_iadd hx hb d_Model_apply_86 ?_
        refine lv_aload_n hx hb d_Model_apply_87 rfl (lv_at hl 1 rfl) ?_
        refine va_get (D := (dC, dI)) (ci := 9) (v := .int u_6.2.2.1) (C := R_Model) (T := F_Model) (N := 29) hx hb hg iw_Model hown hK hP 0 rfl rfl 28 (by decide) (hg _ gw_343) (fun _ h9 => h9) rfl d_Model_apply_88 ?_
        refine lv_isub hx hb d_Model_apply_91 ?_
        refine lv_bipush (v := 16) hx hb d_Model_apply_92 (by decide) ?_
        refine lv_icmp_le (tgt := 103) hx hb d_Model_apply_94 (by decide) (fun c_9 => ?_) (fun c_9 => ?_)
        · rw [if_pos c_9] at hF
          refine lv_aload_n hx hb d_Model_apply_103 rfl (lv_at hl 1 rfl) ?_
          refine va_get (D := (dC, dI)) (ci := 9) (v := .int u_6.2.2.1) (C := R_Model) (T := F_Model) (N := 29) hx hb hg iw_Model hown hK hP 0 rfl rfl 28 (by decide) (hg _ gw_343) (fun _ h9 => h9) rfl d_Model_apply_104 ?_
          refine lv_istore (lv' := [(4, .int u_6.2.2.1), (3, .int u_6.1), (0, .ref a0), (1, .int l1), (2, .int l2)]) hx hb d_Model_apply_107 hl (by decide) rfl (fun ls hl => ?_)
          exact ih.2.2.1 l1 l2 u_6.1 u_6.2.2.1 x0_0 x0_15 x0_22 x0_23 u_6.2.1 u_6.2.2.1 u_6.2.2.2 f3 f6 hF _ _ _ hP hD hS (lv_sub hl [2, 3, 4, 1, 0] rfl)
        · rw [if_neg c_9] at hF
          refine lv_aload_n hx hb d_Model_apply_97 rfl (lv_at hl 1 rfl) ?_
          refine lv_iconst (v := 2) hx hb d_Model_apply_98 (by decide) ?_
          obtain ⟨u_10, hS_10, hF⟩ := rd_bind hF
          have hPc := hP.sub (ws' := (wd_Model_fails kA a0 v0_1 v0_2 v0_3 v0_4 v0_5 v0_6 v0_7 v0_8 v0_9 v0_10 v0_11 v0_12 v0_13 v0_14 (.int x0_15) (.int x0_16) (.ref a6) (.ref a1) v0_19 (.ref a2) (.ref a5) (.int x0_22) (.int x0_23) (.ref a4) v0_25 (.ref a3) (.int u_6.2.1) (.int u_6.2.2.1) x0_0)) [0] rfl
          have hDc := hD.sub (ws' := (wd_Model_fails kA a0 v0_1 v0_2 v0_3 v0_4 v0_5 v0_6 v0_7 v0_8 v0_9 v0_10 v0_11 v0_12 v0_13 v0_14 (.int x0_15) (.int x0_16) (.ref a6) (.ref a1) v0_19 (.ref a2) (.ref a5) (.int x0_22) (.int x0_23) (.ref a4) v0_25 (.ref a3) (.int u_6.2.1) (.int u_6.2.2.1) x0_0)) [0] (by decide) rfl
          have hFc := va_free (wc := (wd_Model_fails kA a0 v0_1 v0_2 v0_3 v0_4 v0_5 v0_6 v0_7 v0_8 v0_9 v0_10 v0_11 v0_12 v0_13 v0_14 (.int x0_15) (.int x0_16) (.ref a6) (.ref a1) v0_19 (.ref a2) (.ref a5) (.int x0_22) (.int x0_23) (.ref a4) v0_25 (.ref a3) (.int u_6.2.1) (.int u_6.2.2.1) x0_0)) hD hS hA [0] rfl
          refine va_calli (va_runV (As := [.int 2]) (rest := []) ⟨hx, hb, hml, hown, hts⟩ (c_Model_fails l dC dI kA H.size a0 v0_1 v0_2 v0_3 v0_4 v0_5 v0_6 v0_7 v0_8 v0_9 v0_10 v0_11 v0_12 v0_13 v0_14 (.int x0_15) (.int x0_16) (.ref a6) (.ref a1) v0_19 (.ref a2) (.ref a5) (.int x0_22) (.int x0_23) (.ref a4) v0_25 (.ref a3) (.int u_6.2.1) (.int u_6.2.2.1) 2 x0_0 u_10.1 u_10.2 hS_10) (cwV 1 hts (gw_V gw_264 gw_265 gw_266 gw_267 gw_268) rfl rfl rfl (by decide +kernel) ⟨Nat.le_of_ble_eq_true rfl, Nat.le_of_ble_eq_true rfl⟩) ⟨fun a U g mk q => by obtain ⟨q0, q1, qP, qK, qD⟩ := q; exact ⟨q0, q1, qP, va_K.moved (u := U) (U := U.calling g mk a) (Vm.Alike.refl U.vm) qK, qD⟩, va_recv hK hP (ci := 9) (q0 := 0) rfl rfl, fun U hU hW => ⟨rfl, by rw [hU], by rw [hU]; exact hPc, va_K.moved hW.alike hK, hDc.weaken (fun _ _ _ _ => trivial)⟩⟩ rfl rfl hl.1 rfl (lv_room (Nat.le_of_ble_eq_true rfl)) d_Model_apply_99 ⟨Nat.zero_le _, Nat.zero_le _⟩) hS (fun q _ h => hFc q h) hFc (fun r1 u t H1 locs ht hvm hw hB hz1 hk1 hS => ?_)
          rw [show r1 = _ from hw]
          obtain ⟨hP1, hK1, hD1⟩ := hB
          rw [ht] at hP1
          obtain ⟨hP, hD⟩ := va_join (wr := [(a1, .inl (kA 0, 24, .inl u_6.2.2.2)), (a2, .inl (kA 0, 6, .inl f2)), (a3, .inl (kA 0, 8, .inl f3)), (a4, .inl (kA 0, 280, .inl f4)), (a5, .inl (kA 0, 6, .inl f5)), (a6, .inl (kA 0, 16, .inl f6))]) (w1 := (wd_Model_fails kA a0 v0_1 v0_2 v0_3 v0_4 v0_5 v0_6 v0_7 v0_8 v0_9 v0_10 v0_11 v0_12 v0_13 v0_14 (.int x0_15) (.int x0_16) (.ref a6) (.ref a1) v0_19 (.ref a2) (.ref a5) (.int x0_22) (.int x0_23) (.ref a4) v0_25 (.ref a3) (.int u_6.2.1) (.int u_6.2.2.1) u_10.2)) hP hD [0] [1, 2, 3, 4, 5, 6] rfl rfl (by decide) (by decide) hk1 hFc hP1 hD1
          have hP := hP.sub (ws' := (wd_Model_apply kA a0 a1 a2 a3 a4 a5 a6 v0_1 v0_2 v0_3 v0_4 v0_5 v0_6 v0_7 v0_8 v0_9 v0_10 v0_11 v0_12 v0_13 v0_14 v0_19 v0_25 u_10.2 x0_15 x0_16 x0_22 x0_23 u_6.2.1 u_6.2.2.1 u_6.2.2.2 f2 f3 f4 f5 f6)) [6, 0, 1, 2, 3, 4, 5] rfl
          have hD := hD.sub (ws' := (wd_Model_apply kA a0 a1 a2 a3 a4 a5 a6 v0_1 v0_2 v0_3 v0_4 v0_5 v0_6 v0_7 v0_8 v0_9 v0_10 v0_11 v0_12 v0_13 v0_14 v0_19 v0_25 u_10.2 x0_15 x0_16 x0_22 x0_23 u_6.2.1 u_6.2.2.1 u_6.2.2.2 f2 f3 f4 f5 f6)) [6, 0, 1, 2, 3, 4, 5] (by decide) rfl
          clear hPc hDc hFc hP1 hK1 hD1
          generalize H1 = H at hP hS ⊢
          have e0 := Option.some.inj hF
          have q0 := Prod.mk.inj e0
          have q1 := Prod.mk.inj q0.2
          have q2 := Prod.mk.inj q1.2
          have q3 := Prod.mk.inj q2.2
          have q4 := Prod.mk.inj q3.2
          have q5 := Prod.mk.inj q4.2
          have q6 := Prod.mk.inj q5.2
          have q7 := Prod.mk.inj q6.2
          have q8 := Prod.mk.inj q7.2
          exact W.iret (v := u_10.1) hx hb hr (fun t ht hW => ⟨⟨u_10.1, (), rfl, q0.1, by rw [ht, ← q1.1, ← q2.1, ← q3.1, ← q4.1, ← q5.1, ← q6.1, ← q7.1, ← q8.1, ← q8.2]; exact hP, va_K.moved hW.alike hK, (by rw [← q1.1, ← q2.1, ← q3.1, ← q4.1, ← q5.1, ← q6.1, ← q7.1, ← q8.1, ← q8.2]; exact hD)⟩, hS.F ht⟩) hS.2.2 d_Model_apply_102 hlocks
    · intro l1 l2 l3 l4 x0_0 x0_15 x0_22 x0_23 x0_27 x0_28 f1 f3 f6 hF H locs ls hP hD hS hl
      have hF : B_Model_apply_2 (F_Model_apply x0_16 f2 f4 f5 n) x0_16 f2 f4 f5 l1 l2 l3 l4 x0_0 x0_15 x0_22 x0_23 x0_27 x0_28 f1 f3 f6 = some (r, ox0_0, ox0_15, ox0_22, ox0_23, ox0_27, ox0_28, of1, of3, of6) := hF
      unfold B_Model_apply_2 at hF
      refine lv_iload hx hb d_Model_apply_109 (lv_at hl 4 rfl) ?_
      refine lv_aload_n hx hb d_Model_apply_111 rfl (lv_at hl 0 rfl) ?_
      refine va_get (D := (dC, dI)) (ci := 9) (v := .int x0_15) (C := R_Model) (T := F_Model) (N := 29) hx hb hg iw_Model hown hK hP 0 rfl rfl 15 (by decide) (hg _ gw_329) (fun _ h9 => h9) rfl d_Model_apply_112 ?_
      refine lv_icmp_ge (tgt := 150) hx hb d_Model_apply_115 (by decide) (fun c_11 => ?_) (fun c_11 => ?_)
      · rw [if_pos c_11] at hF
        refine lv_aload_n hx hb d_Model_apply_150 rfl (lv_at hl 0 rfl) ?_
        refine lv_aload_n hx hb d_Model_apply_151 rfl (lv_at hl 0 rfl) ?_
        refine va_get (D := (dC, dI)) (ci := 9) (v := .int x0_27) (C := R_Model) (T := F_Model) (N := 29) hx hb hg iw_Model hown hK hP 0 rfl rfl 27 (by decide) (hg _ gw_344) (fun _ h9 => h9) rfl d_Model_apply_152 ?_
        refine va_put (D := (dC, dI)) (ci := 9) (v := .int x0_27) (ty := .int) (C := R_Model) (T := F_Model) (N := 29) hx hb hg iw_Model t_Model t_Model_ok n_Model hown hK hP hD hS 0 rfl rfl 15 (by decide) (hg _ gw_329) (fun _ h9 => h9) rfl (by decide +kernel) rfl rfl (Nat.le_of_ble_eq_true rfl) d_Model_apply_155 (fun H locs hP hD hS => ?_)
        have hP : va_P (dC, dI) classes (wd_Model_apply kA a0 a1 a2 a3 a4 a5 a6 v0_1 v0_2 v0_3 v0_4 v0_5 v0_6 v0_7 v0_8 v0_9 v0_10 v0_11 v0_12 v0_13 v0_14 v0_19 v0_25 x0_0 x0_27 x0_16 x0_22 x0_23 x0_27 x0_28 f1 f2 f3 f4 f5 f6) H := hP
        have hD : va_D A (wd_Model_apply kA a0 a1 a2 a3 a4 a5 a6 v0_1 v0_2 v0_3 v0_4 v0_5 v0_6 v0_7 v0_8 v0_9 v0_10 v0_11 v0_12 v0_13 v0_14 v0_19 v0_25 x0_0 x0_27 x0_16 x0_22 x0_23 x0_27 x0_28 f1 f2 f3 f4 f5 f6) := hD
        refine lv_iconst (v := 0) hx hb d_Model_apply_158 (by decide) ?_
        refine lv_istore (lv' := [(4, .int 0), (0, .ref a0), (1, .int l1), (2, .int l2), (3, .int l3)]) hx hb d_Model_apply_159 hl (by decide) rfl (fun ls hl => ?_)
        exact ih.2.2.2 l1 l2 l3 0 x0_0 x0_27 x0_22 x0_23 x0_27 x0_28 f1 f3 f6 hF _ _ _ hP hD hS (lv_sub hl [1, 2, 3, 4, 0] rfl)
      · rw [if_neg c_11] at hF
        refine lv_aload_n hx hb d_Model_apply_118 rfl (lv_at hl 0 rfl) ?_
        refine va_get (D := (dC, dI)) (ci := 9) (v := .ref a1) (C := R_Model) (T := F_Model) (N := 29) hx hb hg iw_Model hown hK hP 0 rfl rfl 18 (by decide) (hg _ gw_275) (fun _ h9 => h9) rfl d_Model_apply_119 ?_
        refine lv_aload_n hx hb d_Model_apply_122 rfl (lv_at hl 0 rfl) ?_
        refine va_get (D := (dC, dI)) (ci := 9) (v := .int x0_27) (C := R_Model) (T := F_Model) (N := 29) hx hb hg iw_Model hown hK hP 0 rfl rfl 27 (by decide) (hg _ gw_344) (fun _ h9 => h9) rfl d_Model_apply_123 ?_
        refine lv_aload_n hx hb d_Model_apply_126 rfl (lv_at hl 0 rfl) ?_
        refine va_get (D := (dC, dI)) (ci := 9) (v := .ref a6) (C := R_Model) (T := F_Model) (N := 29) hx hb hg iw_Model hown hK hP 0 rfl rfl 17 (by decide) (hg _ gw_330) (fun _ h9 => h9) rfl d_Model_apply_127 ?_
        refine lv_iload hx hb d_Model_apply_130 (lv_at hl 4 rfl) ?_
        obtain ⟨h_12, hF⟩ := rd_chk hF
        refine va_iald hx hb hK hP 6 0 rfl rfl h_12 d_Model_apply_132 ?_
        obtain ⟨h_13, hF⟩ := rd_chk hF
        refine va_iast hx hb hK hP hD hS 1 0 rfl rfl h_13 d_Model_apply_133 (fun H locs hP hD hS => ?_)
        have hP : va_P (dC, dI) classes (wd_Model_apply kA a0 a1 a2 a3 a4 a5 a6 v0_1 v0_2 v0_3 v0_4 v0_5 v0_6 v0_7 v0_8 v0_9 v0_10 v0_11 v0_12 v0_13 v0_14 v0_19 v0_25 x0_0 x0_15 x0_16 x0_22 x0_23 x0_27 x0_28 (upd f1 (Int32.toNatClampNeg x0_27) (f6 (Int32.toNatClampNeg l4))) f2 f3 f4 f5 f6) H := hP
        have hD : va_D A (wd_Model_apply kA a0 a1 a2 a3 a4 a5 a6 v0_1 v0_2 v0_3 v0_4 v0_5 v0_6 v0_7 v0_8 v0_9 v0_10 v0_11 v0_12 v0_13 v0_14 v0_19 v0_25 x0_0 x0_15 x0_16 x0_22 x0_23 x0_27 x0_28 (upd f1 (Int32.toNatClampNeg x0_27) (f6 (Int32.toNatClampNeg l4))) f2 f3 f4 f5 f6) := hD
        refine lv_aload_n hx hb d_Model_apply_134 rfl (lv_at hl 0 rfl) ?_
        refine lv_dup hx hb d_Model_apply_135 rfl ?_
        refine va_get (D := (dC, dI)) (ci := 9) (v := .int x0_27) (C := R_Model) (T := F_Model) (N := 29) hx hb hg iw_Model hown hK hP 0 rfl rfl 27 (by decide) (hg _ gw_344) (fun _ h9 => h9) rfl d_Model_apply_136 ?_
        refine lv_iconst (v := 1) hx hb d_Model_apply_139 (by decide) ?_
        refine lv_iadd hx hb d_Model_apply_140 ?_
        refine va_put (D := (dC, dI)) (ci := 9) (v := .int (x0_27 + 1)) (ty := .int) (C := R_Model) (T := F_Model) (N := 29) hx hb hg iw_Model t_Model t_Model_ok n_Model hown hK hP hD hS 0 rfl rfl 27 (by decide) (hg _ gw_344) (fun _ h9 => h9) rfl (by decide +kernel) rfl rfl (Nat.le_of_ble_eq_true rfl) d_Model_apply_141 (fun H locs hP hD hS => ?_)
        have hP : va_P (dC, dI) classes (wd_Model_apply kA a0 a1 a2 a3 a4 a5 a6 v0_1 v0_2 v0_3 v0_4 v0_5 v0_6 v0_7 v0_8 v0_9 v0_10 v0_11 v0_12 v0_13 v0_14 v0_19 v0_25 x0_0 x0_15 x0_16 x0_22 x0_23 (x0_27 + 1) x0_28 (upd f1 (Int32.toNatClampNeg x0_27) (f6 (Int32.toNatClampNeg l4))) f2 f3 f4 f5 f6) H := hP
        have hD : va_D A (wd_Model_apply kA a0 a1 a2 a3 a4 a5 a6 v0_1 v0_2 v0_3 v0_4 v0_5 v0_6 v0_7 v0_8 v0_9 v0_10 v0_11 v0_12 v0_13 v0_14 v0_19 v0_25 x0_0 x0_15 x0_16 x0_22 x0_23 (x0_27 + 1) x0_28 (upd f1 (Int32.toNatClampNeg x0_27) (f6 (Int32.toNatClampNeg l4))) f2 f3 f4 f5 f6) := hD
        refine lv_iinc (v := (l4 + 1)) (lv' := [(4, .int (l4 + 1)), (0, .ref a0), (1, .int l1), (2, .int l2), (3, .int l3)]) hx hb d_Model_apply_144 hl (k := 4) rfl (by rfl) (by decide) rfl (fun ls hl => ?_)
        refine lv_goto (tgt := 109) hx hb d_Model_apply_147 (by decide) ?_
        exact ih.2.2.1 l1 l2 l3 (l4 + 1) x0_0 x0_15 x0_22 x0_23 (x0_27 + 1) x0_28 (upd f1 (Int32.toNatClampNeg x0_27) (f6 (Int32.toNatClampNeg l4))) f3 f6 hF _ _ _ hP hD hS (lv_sub hl [1, 2, 3, 4, 0] rfl)
    · intro l1 l2 l3 l4 x0_0 x0_15 x0_22 x0_23 x0_27 x0_28 f1 f3 f6 hF H locs ls hP hD hS hl
      have hF : B_Model_apply_3 (F_Model_apply x0_16 f2 f4 f5 n) x0_16 f2 f4 f5 l1 l2 l3 l4 x0_0 x0_15 x0_22 x0_23 x0_27 x0_28 f1 f3 f6 = some (r, ox0_0, ox0_15, ox0_22, ox0_23, ox0_27, ox0_28, of1, of3, of6) := hF
      unfold B_Model_apply_3 at hF
      refine lv_iload hx hb d_Model_apply_161 (lv_at hl 4 rfl) ?_
      refine lv_aload_n hx hb d_Model_apply_163 rfl (lv_at hl 0 rfl) ?_
      refine va_get (D := (dC, dI)) (ci := 9) (v := .int x0_27) (C := R_Model) (T := F_Model) (N := 29) hx hb hg iw_Model hown hK hP 0 rfl rfl 27 (by decide) (hg _ gw_344) (fun _ h9 => h9) rfl d_Model_apply_164 ?_
      refine lv_icmp_ge (tgt := 190) hx hb d_Model_apply_167 (by decide) (fun c_14 => ?_) (fun c_14 => ?_)
      · rw [if_pos c_14] at hF
        refine lv_aload_n hx hb d_Model_apply_190 rfl (lv_at hl 0 rfl) ?_
        obtain ⟨u_15, hS_15, hF⟩ := rd_bind hF
        have hPc := hP.sub (ws' := (wd_Model_forget kA a0 (.int x0_0) v0_1 v0_2 v0_3 v0_4 v0_5 v0_6 v0_7 v0_8 v0_9 v0_10 v0_11 v0_12 v0_13 v0_14 (.int x0_15) (.int x0_16) (.ref a6) (.ref a1) v0_19 (.ref a2) (.ref a5) (.ref a4) v0_25 (.ref a3) (.int x0_27) (.int x0_28) x0_22 x0_23)) [0] rfl
        have hDc := hD.sub (ws' := (wd_Model_forget kA a0 (.int x0_0) v0_1 v0_2 v0_3 v0_4 v0_5 v0_6 v0_7 v0_8 v0_9 v0_10 v0_11 v0_12 v0_13 v0_14 (.int x0_15) (.int x0_16) (.ref a6) (.ref a1) v0_19 (.ref a2) (.ref a5) (.ref a4) v0_25 (.ref a3) (.int x0_27) (.int x0_28) x0_22 x0_23)) [0] (by decide) rfl
        have hFc := va_free (wc := (wd_Model_forget kA a0 (.int x0_0) v0_1 v0_2 v0_3 v0_4 v0_5 v0_6 v0_7 v0_8 v0_9 v0_10 v0_11 v0_12 v0_13 v0_14 (.int x0_15) (.int x0_16) (.ref a6) (.ref a1) v0_19 (.ref a2) (.ref a5) (.ref a4) v0_25 (.ref a3) (.int x0_27) (.int x0_28) x0_22 x0_23)) hD hS hA [0] rfl
        refine va_callv (va_runV (As := []) (rest := []) ⟨hx, hb, hml, hown, hts⟩ (c_Model_forget l dC dI kA H.size a0 (.int x0_0) v0_1 v0_2 v0_3 v0_4 v0_5 v0_6 v0_7 v0_8 v0_9 v0_10 v0_11 v0_12 v0_13 v0_14 (.int x0_15) (.int x0_16) (.ref a6) (.ref a1) v0_19 (.ref a2) (.ref a5) (.ref a4) v0_25 (.ref a3) (.int x0_27) (.int x0_28) x0_22 x0_23 u_15.1 u_15.2 hS_15) (cwV 0 hts (gw_V gw_281 gw_282 gw_283 gw_267 gw_284) rfl rfl rfl (by decide +kernel) ⟨Nat.le_of_ble_eq_true rfl, Nat.le_of_ble_eq_true rfl⟩) ⟨fun a U g mk q => by obtain ⟨q0, q1, qP, qK, qD⟩ := q; exact ⟨q0, q1, qP, va_K.moved (u := U) (U := U.calling g mk a) (Vm.Alike.refl U.vm) qK, qD⟩, va_recv hK hP (ci := 9) (q0 := 0) rfl rfl, fun U hU hW => ⟨rfl, by rw [hU], by rw [hU]; exact hPc, va_K.moved hW.alike hK, hDc.weaken (fun _ _ _ _ => trivial)⟩⟩ rfl rfl hl.1 rfl (lv_room (Nat.le_of_ble_eq_true rfl)) d_Model_apply_191 ⟨Nat.zero_le _, Nat.zero_le _⟩) hS (fun q _ h => hFc q h) hFc (fun u t H1 locs ht hvm hw hB hz1 hk1 hS => ?_)
        obtain ⟨hP1, hK1, hD1⟩ := hB
        rw [ht] at hP1
        obtain ⟨hP, hD⟩ := va_join (wr := [(a1, .inl (kA 0, 24, .inl f1)), (a2, .inl (kA 0, 6, .inl f2)), (a3, .inl (kA 0, 8, .inl f3)), (a4, .inl (kA 0, 280, .inl f4)), (a5, .inl (kA 0, 6, .inl f5)), (a6, .inl (kA 0, 16, .inl f6))]) (w1 := (wd_Model_forget kA a0 (.int x0_0) v0_1 v0_2 v0_3 v0_4 v0_5 v0_6 v0_7 v0_8 v0_9 v0_10 v0_11 v0_12 v0_13 v0_14 (.int x0_15) (.int x0_16) (.ref a6) (.ref a1) v0_19 (.ref a2) (.ref a5) (.ref a4) v0_25 (.ref a3) (.int x0_27) (.int x0_28) u_15.1 u_15.2)) hP hD [0] [1, 2, 3, 4, 5, 6] rfl rfl (by decide) (by decide) hk1 hFc hP1 hD1
        have hP := hP.sub (ws' := (wd_Model_apply kA a0 a1 a2 a3 a4 a5 a6 v0_1 v0_2 v0_3 v0_4 v0_5 v0_6 v0_7 v0_8 v0_9 v0_10 v0_11 v0_12 v0_13 v0_14 v0_19 v0_25 x0_0 x0_15 x0_16 u_15.1 u_15.2 x0_27 x0_28 f1 f2 f3 f4 f5 f6)) [6, 0, 1, 2, 3, 4, 5] rfl
        have hD := hD.sub (ws' := (wd_Model_apply kA a0 a1 a2 a3 a4 a5 a6 v0_1 v0_2 v0_3 v0_4 v0_5 v0_6 v0_7 v0_8 v0_9 v0_10 v0_11 v0_12 v0_13 v0_14 v0_19 v0_25 x0_0 x0_15 x0_16 u_15.1 u_15.2 x0_27 x0_28 f1 f2 f3 f4 f5 f6)) [6, 0, 1, 2, 3, 4, 5] (by decide) rfl
        clear hPc hDc hFc hP1 hK1 hD1
        generalize H1 = H at hP hS ⊢
        refine lv_aload_n hx hb d_Model_apply_194 rfl (lv_at hl 0 rfl) ?_
        refine va_get (D := (dC, dI)) (ci := 9) (v := .int x0_15) (C := R_Model) (T := F_Model) (N := 29) hx hb hg iw_Model hown hK hP 0 rfl rfl 15 (by decide) (hg _ gw_329) (fun _ h9 => h9) rfl d_Model_apply_195 ?_
        have e0 := Option.some.inj hF
        have q0 := Prod.mk.inj e0
        have q1 := Prod.mk.inj q0.2
        have q2 := Prod.mk.inj q1.2
        have q3 := Prod.mk.inj q2.2
        have q4 := Prod.mk.inj q3.2
        have q5 := Prod.mk.inj q4.2
        have q6 := Prod.mk.inj q5.2
        have q7 := Prod.mk.inj q6.2
        have q8 := Prod.mk.inj q7.2
        exact W.iret (v := x0_15) hx hb hr (fun t ht hW => ⟨⟨x0_15, (), rfl, q0.1, by rw [ht, ← q1.1, ← q2.1, ← q3.1, ← q4.1, ← q5.1, ← q6.1, ← q7.1, ← q8.1, ← q8.2]; exact hP, va_K.moved hW.alike hK, (by rw [← q1.1, ← q2.1, ← q3.1, ← q4.1, ← q5.1, ← q6.1, ← q7.1, ← q8.1, ← q8.2]; exact hD)⟩, hS.F ht⟩) hS.2.2 d_Model_apply_198 hlocks
      · rw [if_neg c_14] at hF
        refine lv_aload_n hx hb d_Model_apply_170 rfl (lv_at hl 0 rfl) ?_
        refine va_get (D := (dC, dI)) (ci := 9) (v := .ref a6) (C := R_Model) (T := F_Model) (N := 29) hx hb hg iw_Model hown hK hP 0 rfl rfl 17 (by decide) (hg _ gw_330) (fun _ h9 => h9) rfl d_Model_apply_171 ?_
        refine lv_iload hx hb d_Model_apply_174 (lv_at hl 4 rfl) ?_
        refine lv_aload_n hx hb d_Model_apply_176 rfl (lv_at hl 0 rfl) ?_
        refine va_get (D := (dC, dI)) (ci := 9) (v := .ref a1) (C := R_Model) (T := F_Model) (N := 29) hx hb hg iw_Model hown hK hP 0 rfl rfl 18 (by decide) (hg _ gw_275) (fun _ h9 => h9) rfl d_Model_apply_177 ?_
        refine lv_iload hx hb d_Model_apply_180 (lv_at hl 4 rfl) ?_
        obtain ⟨h_16, hF⟩ := rd_chk hF
        refine va_iald hx hb hK hP 1 0 rfl rfl h_16 d_Model_apply_182 ?_
        obtain ⟨h_17, hF⟩ := rd_chk hF
        refine va_iast hx hb hK hP hD hS 6 0 rfl rfl h_17 d_Model_apply_183 (fun H locs hP hD hS => ?_)
        have hP : va_P (dC, dI) classes (wd_Model_apply kA a0 a1 a2 a3 a4 a5 a6 v0_1 v0_2 v0_3 v0_4 v0_5 v0_6 v0_7 v0_8 v0_9 v0_10 v0_11 v0_12 v0_13 v0_14 v0_19 v0_25 x0_0 x0_15 x0_16 x0_22 x0_23 x0_27 x0_28 f1 f2 f3 f4 f5 (upd f6 (Int32.toNatClampNeg l4) (f1 (Int32.toNatClampNeg l4)))) H := hP
        have hD : va_D A (wd_Model_apply kA a0 a1 a2 a3 a4 a5 a6 v0_1 v0_2 v0_3 v0_4 v0_5 v0_6 v0_7 v0_8 v0_9 v0_10 v0_11 v0_12 v0_13 v0_14 v0_19 v0_25 x0_0 x0_15 x0_16 x0_22 x0_23 x0_27 x0_28 f1 f2 f3 f4 f5 (upd f6 (Int32.toNatClampNeg l4) (f1 (Int32.toNatClampNeg l4)))) := hD
        refine lv_iinc (v := (l4 + 1)) (lv' := [(4, .int (l4 + 1)), (0, .ref a0), (1, .int l1), (2, .int l2), (3, .int l3)]) hx hb d_Model_apply_184 hl (k := 4) rfl (by rfl) (by decide) rfl (fun ls hl => ?_)
        refine lv_goto (tgt := 161) hx hb d_Model_apply_187 (by decide) ?_
        exact ih.2.2.2 l1 l2 l3 (l4 + 1) x0_0 x0_15 x0_22 x0_23 x0_27 x0_28 f1 f3 (upd f6 (Int32.toNatClampNeg l4) (f1 (Int32.toNatClampNeg l4))) hF _ _ _ hP hD hS (lv_sub hl [1, 2, 3, 4, 0] rfl)
def S_Model_apply (p1 : Int32) (x0_0 : Int32) (x0_15 : Int32) (x0_16 : Int32) (x0_22 : Int32) (x0_23 : Int32) (x0_27 : Int32) (x0_28 : Int32) (f1 : (Nat → Int32)) (f2 : (Nat → Int32)) (f3 : (Nat → Int32)) (f4 : (Nat → Int32)) (f5 : (Nat → Int32)) (f6 : (Nat → Int32)) : Option (Int32 × Int32 × Int32 × Int32 × Int32 × Int32 × Int32 × (Nat → Int32) × (Nat → Int32) × (Nat → Int32)) := (if p1 < 0 then ((S_Model_fails 1 0).bind fun u_19 => (some (u_19.1, u_19.2, x0_15, x0_22, x0_23, x0_27, x0_28, f1, f3, f6))) else (if p1 < x0_22 then (F_Model_apply x0_16 f2 f4 f5 fuel_ 0 p1 0 0 0 0 x0_15 x0_22 x0_23 x0_27 x0_28 f1 f3 f6) else ((S_Model_fails 1 0).bind fun u_21 => (some (u_21.1, u_21.2, x0_15, x0_22, x0_23, x0_27, x0_28, f1, f3, f6)))))
set_option maxHeartbeats 4000000 in
set_option maxRecDepth 100000 in
theorem c_Model_apply (l : Launch) (dC : Nat → ClassId) (dI : Nat → Nat → Nat) (kA : Nat → ClassId) (sz : Nat) (a0 a1 a2 a3 a4 a5 a6 : Nat) (v0_1 v0_2 v0_3 v0_4 v0_5 v0_6 v0_7 v0_8 v0_9 v0_10 v0_11 v0_12 v0_13 v0_14 v0_19 v0_25 : Value) (p1 : Int32) (x0_0 : Int32) (x0_15 : Int32) (x0_16 : Int32) (x0_22 : Int32) (x0_23 : Int32) (x0_27 : Int32) (x0_28 : Int32) (f1 : (Nat → Int32)) (f2 : (Nat → Int32)) (f3 : (Nat → Int32)) (f4 : (Nat → Int32)) (f5 : (Nat → Int32)) (f6 : (Nat → Int32)) (r : Int32) (ox0_0 : Int32) (ox0_15 : Int32) (ox0_22 : Int32) (ox0_23 : Int32) (ox0_27 : Int32) (ox0_28 : Int32) (of1 : (Nat → Int32)) (of3 : (Nat → Int32)) (of6 : (Nat → Int32)) (hF : S_Model_apply p1 x0_0 x0_15 x0_16 x0_22 x0_23 x0_27 x0_28 f1 f2 f3 f4 f5 f6 = some (r, ox0_0, ox0_15, ox0_22, ox0_23, ox0_27, ox0_28, of1, of3, of6)) : Met l y_Model_apply w_Model_apply rm_Model_apply (va_Pc [.ref a0, .int p1] (fun U => U.heap.size = sz ∧ va_P (dC, dI) classes (wd_Model_apply kA a0 a1 a2 a3 a4 a5 a6 v0_1 v0_2 v0_3 v0_4 v0_5 v0_6 v0_7 v0_8 v0_9 v0_10 v0_11 v0_12 v0_13 v0_14 v0_19 v0_25 x0_0 x0_15 x0_16 x0_22 x0_23 x0_27 x0_28 f1 f2 f3 f4 f5 f6) U.heap ∧ va_K (dC, dI) classes (tys_ kA) U ∧ va_D (fun _ => True) (wd_Model_apply kA a0 a1 a2 a3 a4 a5 a6 v0_1 v0_2 v0_3 v0_4 v0_5 v0_6 v0_7 v0_8 v0_9 v0_10 v0_11 v0_12 v0_13 v0_14 v0_19 v0_25 x0_0 x0_15 x0_16 x0_22 x0_23 x0_27 x0_28 f1 f2 f3 f4 f5 f6))) (va_Qi (fun (r1 : Int32) (_ : Unit) => r1 = r) (fun _ t => va_P (dC, dI) classes (wd_Model_apply kA a0 a1 a2 a3 a4 a5 a6 v0_1 v0_2 v0_3 v0_4 v0_5 v0_6 v0_7 v0_8 v0_9 v0_10 v0_11 v0_12 v0_13 v0_14 v0_19 v0_25 ox0_0 ox0_15 x0_16 ox0_22 ox0_23 ox0_27 ox0_28 of1 f2 of3 f4 f5 of6) t.heap ∧ va_K (dC, dI) classes (tys_ kA) t ∧ va_D (va_A (wd_Model_apply kA a0 a1 a2 a3 a4 a5 a6 v0_1 v0_2 v0_3 v0_4 v0_5 v0_6 v0_7 v0_8 v0_9 v0_10 v0_11 v0_12 v0_13 v0_14 v0_19 v0_25 x0_0 x0_15 x0_16 x0_22 x0_23 x0_27 x0_28 f1 f2 f3 f4 f5 f6) sz) (wd_Model_apply kA a0 a1 a2 a3 a4 a5 a6 v0_1 v0_2 v0_3 v0_4 v0_5 v0_6 v0_7 v0_8 v0_9 v0_10 v0_11 v0_12 v0_13 v0_14 v0_19 v0_25 ox0_0 ox0_15 x0_16 ox0_22 ox0_23 ox0_27 ox0_28 of1 f2 of3 f4 f5 of6)) (va_A (wd_Model_apply kA a0 a1 a2 a3 a4 a5 a6 v0_1 v0_2 v0_3 v0_4 v0_5 v0_6 v0_7 v0_8 v0_9 v0_10 v0_11 v0_12 v0_13 v0_14 v0_19 v0_25 x0_0 x0_15 x0_16 x0_22 x0_23 x0_27 x0_28 f1 f2 f3 f4 f5 f6) sz)) 0 0 (va_A (wd_Model_apply kA a0 a1 a2 a3 a4 a5 a6 v0_1 v0_2 v0_3 v0_4 v0_5 v0_6 v0_7 v0_8 v0_9 v0_10 v0_11 v0_12 v0_13 v0_14 v0_19 v0_25 x0_0 x0_15 x0_16 x0_22 x0_23 x0_27 x0_28 f1 f2 f3 f4 f5 f6) sz) := by
  refine Met.ofW (cc := b_Model_apply) (maxL := 5) (ret := some .int) (by decide) rfl ?_
  intro p e s m args below meth c s₁ B hml hv
  obtain ⟨rfl, hsz, hP, hK, hD0⟩ := hv
  have hx := B.exec
  have hb := B.bytes
  have hr := B.returns
  have hts := atoms_spec (ws := w_Model_apply) B.pre
  have hown : s.vm.findClass R_Model = some m.cls := findClass_of_methodNamed B.named
  have hg := fun (w : Cond) (h : w ∈ gw) => hts w (List.mem_cons_of_mem _ h)
  have hlocks := B.notSynchronized
  subst hsz
  have hD := hD0.self (sz := s.heap.size)
  generalize hAe : va_A (wd_Model_apply kA a0 a1 a2 a3 a4 a5 a6 v0_1 v0_2 v0_3 v0_4 v0_5 v0_6 v0_7 v0_8 v0_9 v0_10 v0_11 v0_12 v0_13 v0_14 v0_19 v0_25 x0_0 x0_15 x0_16 x0_22 x0_23 x0_27 x0_28 f1 f2 f3 f4 f5 f6) s.heap.size = A at hD ⊢
  have hA : ∀ q : Nat, s.heap.size ≤ q → A q := fun q h => by rw [← hAe]; exact Or.inr h
  have hS : va_S A s.heap s.heap [] := va_S.rf
  have hl := lv_entry ([.ref a0, .int p1]) (n := 5) (Nat.le_of_ble_eq_true rfl)
  rw [lg_entry_eq]
  generalize (lg_sl ([.ref a0, .int p1]) ++ List.replicate (5 - (lg_sl ([.ref a0, .int p1])).length) Slot.unset).toArray = ls at hl ⊢
  have hl : lv_has ls 5 [(0, .ref a0), (1, .int p1)] := hl
  unfold S_Model_apply at hF
  have ih := L_Model_apply (l := l) (e := e) (below := below) hx hb hr hlocks hml hown hts hA hK a0 a1 a2 a3 a4 a5 a6 v0_1 v0_2 v0_3 v0_4 v0_5 v0_6 v0_7 v0_8 v0_9 v0_10 v0_11 v0_12 v0_13 v0_14 v0_19 v0_25 x0_16 f2 f4 f5 r ox0_0 ox0_15 ox0_22 ox0_23 ox0_27 ox0_28 of1 of3 of6 fuel_
  refine lv_aload_n hx hb d_Model_apply_0 rfl (lv_at hl 0 rfl) ?_
  refine lv_iconst (v := 0) hx hb d_Model_apply_1 (by decide) ?_
  refine va_put (D := (dC, dI)) (ci := 9) (v := .int 0) (ty := .int) (C := R_Model) (T := F_Model) (N := 29) hx hb hg iw_Model t_Model t_Model_ok n_Model hown hK hP hD hS 0 rfl rfl 0 (by decide) (hg _ gw_259) (fun _ h9 => h9) rfl (by decide +kernel) rfl rfl (Nat.le_of_ble_eq_true rfl) d_Model_apply_2 (fun H locs hP hD hS => ?_)
  have hP : va_P (dC, dI) classes (wd_Model_apply kA a0 a1 a2 a3 a4 a5 a6 v0_1 v0_2 v0_3 v0_4 v0_5 v0_6 v0_7 v0_8 v0_9 v0_10 v0_11 v0_12 v0_13 v0_14 v0_19 v0_25 0 x0_15 x0_16 x0_22 x0_23 x0_27 x0_28 f1 f2 f3 f4 f5 f6) H := hP
  have hD : va_D A (wd_Model_apply kA a0 a1 a2 a3 a4 a5 a6 v0_1 v0_2 v0_3 v0_4 v0_5 v0_6 v0_7 v0_8 v0_9 v0_10 v0_11 v0_12 v0_13 v0_14 v0_19 v0_25 0 x0_15 x0_16 x0_22 x0_23 x0_27 x0_28 f1 f2 f3 f4 f5 f6) := hD
  refine lv_iload_n hx hb d_Model_apply_5 rfl (lv_at hl 1 rfl) ?_
  refine lv_if_lt (tgt := 17) hx hb d_Model_apply_6 (by decide) (fun c_18 => ?_) (fun c_18 => ?_)
  · rw [if_pos c_18] at hF
    refine lv_aload_n hx hb d_Model_apply_17 rfl (lv_at hl 0 rfl) ?_
    refine lv_iconst (v := 1) hx hb d_Model_apply_18 (by decide) ?_
    obtain ⟨u_19, hS_19, hF⟩ := rd_bind hF
    have hPc := hP.sub (ws' := (wd_Model_fails kA a0 v0_1 v0_2 v0_3 v0_4 v0_5 v0_6 v0_7 v0_8 v0_9 v0_10 v0_11 v0_12 v0_13 v0_14 (.int x0_15) (.int x0_16) (.ref a6) (.ref a1) v0_19 (.ref a2) (.ref a5) (.int x0_22) (.int x0_23) (.ref a4) v0_25 (.ref a3) (.int x0_27) (.int x0_28) 0)) [0] rfl
    have hDc := hD.sub (ws' := (wd_Model_fails kA a0 v0_1 v0_2 v0_3 v0_4 v0_5 v0_6 v0_7 v0_8 v0_9 v0_10 v0_11 v0_12 v0_13 v0_14 (.int x0_15) (.int x0_16) (.ref a6) (.ref a1) v0_19 (.ref a2) (.ref a5) (.int x0_22) (.int x0_23) (.ref a4) v0_25 (.ref a3) (.int x0_27) (.int x0_28) 0)) [0] (by decide) rfl
    have hFc := va_free (wc := (wd_Model_fails kA a0 v0_1 v0_2 v0_3 v0_4 v0_5 v0_6 v0_7 v0_8 v0_9 v0_10 v0_11 v0_12 v0_13 v0_14 (.int x0_15) (.int x0_16) (.ref a6) (.ref a1) v0_19 (.ref a2) (.ref a5) (.int x0_22) (.int x0_23) (.ref a4) v0_25 (.ref a3) (.int x0_27) (.int x0_28) 0)) hD hS hA [0] rfl
    refine va_calli (va_runV (As := [.int 1]) (rest := []) ⟨hx, hb, hml, hown, hts⟩ (c_Model_fails l dC dI kA H.size a0 v0_1 v0_2 v0_3 v0_4 v0_5 v0_6 v0_7 v0_8 v0_9 v0_10 v0_11 v0_12 v0_13 v0_14 (.int x0_15) (.int x0_16) (.ref a6) (.ref a1) v0_19 (.ref a2) (.ref a5) (.int x0_22) (.int x0_23) (.ref a4) v0_25 (.ref a3) (.int x0_27) (.int x0_28) 1 0 u_19.1 u_19.2 hS_19) (cwV 1 hts (gw_V gw_264 gw_265 gw_266 gw_267 gw_268) rfl rfl rfl (by decide +kernel) ⟨Nat.le_of_ble_eq_true rfl, Nat.le_of_ble_eq_true rfl⟩) ⟨fun a U g mk q => by obtain ⟨q0, q1, qP, qK, qD⟩ := q; exact ⟨q0, q1, qP, va_K.moved (u := U) (U := U.calling g mk a) (Vm.Alike.refl U.vm) qK, qD⟩, va_recv hK hP (ci := 9) (q0 := 0) rfl rfl, fun U hU hW => ⟨rfl, by rw [hU], by rw [hU]; exact hPc, va_K.moved hW.alike hK, hDc.weaken (fun _ _ _ _ => trivial)⟩⟩ rfl rfl hl.1 rfl (lv_room (Nat.le_of_ble_eq_true rfl)) d_Model_apply_19 ⟨Nat.zero_le _, Nat.zero_le _⟩) hS (fun q _ h => hFc q h) hFc (fun r1 u t H1 locs ht hvm hw hB hz1 hk1 hS => ?_)
    rw [show r1 = _ from hw]
    obtain ⟨hP1, hK1, hD1⟩ := hB
    rw [ht] at hP1
    obtain ⟨hP, hD⟩ := va_join (wr := [(a1, .inl (kA 0, 24, .inl f1)), (a2, .inl (kA 0, 6, .inl f2)), (a3, .inl (kA 0, 8, .inl f3)), (a4, .inl (kA 0, 280, .inl f4)), (a5, .inl (kA 0, 6, .inl f5)), (a6, .inl (kA 0, 16, .inl f6))]) (w1 := (wd_Model_fails kA a0 v0_1 v0_2 v0_3 v0_4 v0_5 v0_6 v0_7 v0_8 v0_9 v0_10 v0_11 v0_12 v0_13 v0_14 (.int x0_15) (.int x0_16) (.ref a6) (.ref a1) v0_19 (.ref a2) (.ref a5) (.int x0_22) (.int x0_23) (.ref a4) v0_25 (.ref a3) (.int x0_27) (.int x0_28) u_19.2)) hP hD [0] [1, 2, 3, 4, 5, 6] rfl rfl (by decide) (by decide) hk1 hFc hP1 hD1
    have hP := hP.sub (ws' := (wd_Model_apply kA a0 a1 a2 a3 a4 a5 a6 v0_1 v0_2 v0_3 v0_4 v0_5 v0_6 v0_7 v0_8 v0_9 v0_10 v0_11 v0_12 v0_13 v0_14 v0_19 v0_25 u_19.2 x0_15 x0_16 x0_22 x0_23 x0_27 x0_28 f1 f2 f3 f4 f5 f6)) [6, 0, 1, 2, 3, 4, 5] rfl
    have hD := hD.sub (ws' := (wd_Model_apply kA a0 a1 a2 a3 a4 a5 a6 v0_1 v0_2 v0_3 v0_4 v0_5 v0_6 v0_7 v0_8 v0_9 v0_10 v0_11 v0_12 v0_13 v0_14 v0_19 v0_25 u_19.2 x0_15 x0_16 x0_22 x0_23 x0_27 x0_28 f1 f2 f3 f4 f5 f6)) [6, 0, 1, 2, 3, 4, 5] (by decide) rfl
    clear hPc hDc hFc hP1 hK1 hD1
    generalize H1 = H at hP hS ⊢
    have e0 := Option.some.inj hF
    have q0 := Prod.mk.inj e0
    have q1 := Prod.mk.inj q0.2
    have q2 := Prod.mk.inj q1.2
    have q3 := Prod.mk.inj q2.2
    have q4 := Prod.mk.inj q3.2
    have q5 := Prod.mk.inj q4.2
    have q6 := Prod.mk.inj q5.2
    have q7 := Prod.mk.inj q6.2
    have q8 := Prod.mk.inj q7.2
    exact W.iret (v := u_19.1) hx hb hr (fun t ht hW => ⟨⟨u_19.1, (), rfl, q0.1, by rw [ht, ← q1.1, ← q2.1, ← q3.1, ← q4.1, ← q5.1, ← q6.1, ← q7.1, ← q8.1, ← q8.2]; exact hP, va_K.moved hW.alike hK, (by rw [← q1.1, ← q2.1, ← q3.1, ← q4.1, ← q5.1, ← q6.1, ← q7.1, ← q8.1, ← q8.2]; exact hD)⟩, hS.F ht⟩) hS.2.2 d_Model_apply_22 hlocks
  · rw [if_neg c_18] at hF
    refine lv_iload_n hx hb d_Model_apply_9 rfl (lv_at hl 1 rfl) ?_
    refine lv_aload_n hx hb d_Model_apply_10 rfl (lv_at hl 0 rfl) ?_
    refine va_get (D := (dC, dI)) (ci := 9) (v := .int x0_22) (C := R_Model) (T := F_Model) (N := 29) hx hb hg iw_Model hown hK hP 0 rfl rfl 22 (by decide) (hg _ gw_262) (fun _ h9 => h9) rfl d_Model_apply_11 ?_
    refine lv_icmp_lt (tgt := 23) hx hb d_Model_apply_14 (by decide) (fun c_20 => ?_) (fun c_20 => ?_)
    · rw [if_pos c_20] at hF
      refine lv_iconst (v := 0) hx hb d_Model_apply_23 (by decide) ?_
      refine lv_istore_n (lv' := [(2, .int 0), (0, .ref a0), (1, .int p1)]) hx hb d_Model_apply_24 rfl hl (by decide) rfl (fun ls hl => ?_)
      exact ih.1 p1 0 0 0 0 x0_15 x0_22 x0_23 x0_27 x0_28 f1 f3 f6 hF _ _ _ hP hD hS (lv_sub hl [1, 2, 0] rfl)
    · rw [if_neg c_20] at hF
      refine lv_aload_n hx hb d_Model_apply_17 rfl (lv_at hl 0 rfl) ?_
      refine lv_iconst (v := 1) hx hb d_Model_apply_18 (by decide) ?_
      obtain ⟨u_21, hS_21, hF⟩ := rd_bind hF
      have hPc := hP.sub (ws' := (wd_Model_fails kA a0 v0_1 v0_2 v0_3 v0_4 v0_5 v0_6 v0_7 v0_8 v0_9 v0_10 v0_11 v0_12 v0_13 v0_14 (.int x0_15) (.int x0_16) (.ref a6) (.ref a1) v0_19 (.ref a2) (.ref a5) (.int x0_22) (.int x0_23) (.ref a4) v0_25 (.ref a3) (.int x0_27) (.int x0_28) 0)) [0] rfl
      have hDc := hD.sub (ws' := (wd_Model_fails kA a0 v0_1 v0_2 v0_3 v0_4 v0_5 v0_6 v0_7 v0_8 v0_9 v0_10 v0_11 v0_12 v0_13 v0_14 (.int x0_15) (.int x0_16) (.ref a6) (.ref a1) v0_19 (.ref a2) (.ref a5) (.int x0_22) (.int x0_23) (.ref a4) v0_25 (.ref a3) (.int x0_27) (.int x0_28) 0)) [0] (by decide) rfl
      have hFc := va_free (wc := (wd_Model_fails kA a0 v0_1 v0_2 v0_3 v0_4 v0_5 v0_6 v0_7 v0_8 v0_9 v0_10 v0_11 v0_12 v0_13 v0_14 (.int x0_15) (.int x0_16) (.ref a6) (.ref a1) v0_19 (.ref a2) (.ref a5) (.int x0_22) (.int x0_23) (.ref a4) v0_25 (.ref a3) (.int x0_27) (.int x0_28) 0)) hD hS hA [0] rfl
      refine va_calli (va_runV (As := [.int 1]) (rest := []) ⟨hx, hb, hml, hown, hts⟩ (c_Model_fails l dC dI kA H.size a0 v0_1 v0_2 v0_3 v0_4 v0_5 v0_6 v0_7 v0_8 v0_9 v0_10 v0_11 v0_12 v0_13 v0_14 (.int x0_15) (.int x0_16) (.ref a6) (.ref a1) v0_19 (.ref a2) (.ref a5) (.int x0_22) (.int x0_23) (.ref a4) v0_25 (.ref a3) (.int x0_27) (.int x0_28) 1 0 u_21.1 u_21.2 hS_21) (cwV 1 hts (gw_V gw_264 gw_265 gw_266 gw_267 gw_268) rfl rfl rfl (by decide +kernel) ⟨Nat.le_of_ble_eq_true rfl, Nat.le_of_ble_eq_true rfl⟩) ⟨fun a U g mk q => by obtain ⟨q0, q1, qP, qK, qD⟩ := q; exact ⟨q0, q1, qP, va_K.moved (u := U) (U := U.calling g mk a) (Vm.Alike.refl U.vm) qK, qD⟩, va_recv hK hP (ci := 9) (q0 := 0) rfl rfl, fun U hU hW => ⟨rfl, by rw [hU], by rw [hU]; exact hPc, va_K.moved hW.alike hK, hDc.weaken (fun _ _ _ _ => trivial)⟩⟩ rfl rfl hl.1 rfl (lv_room (Nat.le_of_ble_eq_true rfl)) d_Model_apply_19 ⟨Nat.zero_le _, Nat.zero_le _⟩) hS (fun q _ h => hFc q h) hFc (fun r1 u t H1 locs ht hvm hw hB hz1 hk1 hS => ?_)
      rw [show r1 = _ from hw]
      obtain ⟨hP1, hK1, hD1⟩ := hB
      rw [ht] at hP1
      obtain ⟨hP, hD⟩ := va_join (wr := [(a1, .inl (kA 0, 24, .inl f1)), (a2, .inl (kA 0, 6, .inl f2)), (a3, .inl (kA 0, 8, .inl f3)), (a4, .inl (kA 0, 280, .inl f4)), (a5, .inl (kA 0, 6, .inl f5)), (a6, .inl (kA 0, 16, .inl f6))]) (w1 := (wd_Model_fails kA a0 v0_1 v0_2 v0_3 v0_4 v0_5 v0_6 v0_7 v0_8 v0_9 v0_10 v0_11 v0_12 v0_13 v0_14 (.int x0_15) (.int x0_16) (.ref a6) (.ref a1) v0_19 (.ref a2) (.ref a5) (.int x0_22) (.int x0_23) (.ref a4) v0_25 (.ref a3) (.int x0_27) (.int x0_28) u_21.2)) hP hD [0] [1, 2, 3, 4, 5, 6] rfl rfl (by decide) (by decide) hk1 hFc hP1 hD1
      have hP := hP.sub (ws' := (wd_Model_apply kA a0 a1 a2 a3 a4 a5 a6 v0_1 v0_2 v0_3 v0_4 v0_5 v0_6 v0_7 v0_8 v0_9 v0_10 v0_11 v0_12 v0_13 v0_14 v0_19 v0_25 u_21.2 x0_15 x0_16 x0_22 x0_23 x0_27 x0_28 f1 f2 f3 f4 f5 f6)) [6, 0, 1, 2, 3, 4, 5] rfl
      have hD := hD.sub (ws' := (wd_Model_apply kA a0 a1 a2 a3 a4 a5 a6 v0_1 v0_2 v0_3 v0_4 v0_5 v0_6 v0_7 v0_8 v0_9 v0_10 v0_11 v0_12 v0_13 v0_14 v0_19 v0_25 u_21.2 x0_15 x0_16 x0_22 x0_23 x0_27 x0_28 f1 f2 f3 f4 f5 f6)) [6, 0, 1, 2, 3, 4, 5] (by decide) rfl
      clear hPc hDc hFc hP1 hK1 hD1
      generalize H1 = H at hP hS ⊢
      have e0 := Option.some.inj hF
      have q0 := Prod.mk.inj e0
      have q1 := Prod.mk.inj q0.2
      have q2 := Prod.mk.inj q1.2
      have q3 := Prod.mk.inj q2.2
      have q4 := Prod.mk.inj q3.2
      have q5 := Prod.mk.inj q4.2
      have q6 := Prod.mk.inj q5.2
      have q7 := Prod.mk.inj q6.2
      have q8 := Prod.mk.inj q7.2
      exact W.iret (v := u_21.1) hx hb hr (fun t ht hW => ⟨⟨u_21.1, (), rfl, q0.1, by rw [ht, ← q1.1, ← q2.1, ← q3.1, ← q4.1, ← q5.1, ← q6.1, ← q7.1, ← q8.1, ← q8.2]; exact hP, va_K.moved hW.alike hK, (by rw [← q1.1, ← q2.1, ← q3.1, ← q4.1, ← q5.1, ← q6.1, ← q7.1, ← q8.1, ← q8.2]; exact hD)⟩, hS.F ht⟩) hS.2.2 d_Model_apply_22 hlocks
-- ===== RepairDeskModel.letter(I)I
abbrev wd_Model_letter (kA : Nat → ClassId) (a0 a1 : Nat) (v0_1 v0_2 v0_3 v0_4 v0_5 v0_6 v0_7 v0_8 v0_9 v0_10 v0_11 v0_12 v0_13 v0_14 v0_16 v0_18 v0_19 v0_20 v0_21 v0_22 v0_23 v0_24 v0_25 v0_26 v0_27 v0_28 : Value) (x0_0 : Int32) (x0_15 : Int32) (f1 : (Nat → Int32)) : va_W := [(a0, .inr (9, [.int x0_0, v0_1, v0_2, v0_3, v0_4, v0_5, v0_6, v0_7, v0_8, v0_9, v0_10, v0_11, v0_12, v0_13, v0_14, .int x0_15, v0_16, .ref a1, v0_18, v0_19, v0_20, v0_21, v0_22, v0_23, v0_24, v0_25, v0_26, v0_27, v0_28])), (a1, .inl (kA 0, 16, .inl f1))]
abbrev rm_Model_letter : Room := { frames := 0, cells := 0, slots := 0, locals := 0 }
def S_Model_letter (p1 : Int32) (x0_0 : Int32) (x0_15 : Int32) (f1 : (Nat → Int32)) : Option (Int32 × Int32) := (if p1 < 0 then (some ((-1), 0)) else (if x0_15 ≤ p1 then (some ((-1), 0)) else (if (p1 : Int32) < 0 ∨ 16 ≤ (Int32.toNatClampNeg p1) then none else (some ((f1 (Int32.toNatClampNeg p1)), 0)))))
set_option maxHeartbeats 4000000 in
set_option maxRecDepth 100000 in
theorem c_Model_letter (l : Launch) (dC : Nat → ClassId) (dI : Nat → Nat → Nat) (kA : Nat → ClassId) (sz : Nat) (a0 a1 : Nat) (v0_1 v0_2 v0_3 v0_4 v0_5 v0_6 v0_7 v0_8 v0_9 v0_10 v0_11 v0_12 v0_13 v0_14 v0_16 v0_18 v0_19 v0_20 v0_21 v0_22 v0_23 v0_24 v0_25 v0_26 v0_27 v0_28 : Value) (p1 : Int32) (x0_0 : Int32) (x0_15 : Int32) (f1 : (Nat → Int32)) (r : Int32) (ox0_0 : Int32) (hF : S_Model_letter p1 x0_0 x0_15 f1 = some (r, ox0_0)) : Met l y_Model_letter w_Model_letter rm_Model_letter (va_Pc [.ref a0, .int p1] (fun U => U.heap.size = sz ∧ va_P (dC, dI) classes (wd_Model_letter kA a0 a1 v0_1 v0_2 v0_3 v0_4 v0_5 v0_6 v0_7 v0_8 v0_9 v0_10 v0_11 v0_12 v0_13 v0_14 v0_16 v0_18 v0_19 v0_20 v0_21 v0_22 v0_23 v0_24 v0_25 v0_26 v0_27 v0_28 x0_0 x0_15 f1) U.heap ∧ va_K (dC, dI) classes (tys_ kA) U ∧ va_D (fun _ => True) (wd_Model_letter kA a0 a1 v0_1 v0_2 v0_3 v0_4 v0_5 v0_6 v0_7 v0_8 v0_9 v0_10 v0_11 v0_12 v0_13 v0_14 v0_16 v0_18 v0_19 v0_20 v0_21 v0_22 v0_23 v0_24 v0_25 v0_26 v0_27 v0_28 x0_0 x0_15 f1))) (va_Qi (fun (r1 : Int32) (_ : Unit) => r1 = r) (fun _ t => va_P (dC, dI) classes (wd_Model_letter kA a0 a1 v0_1 v0_2 v0_3 v0_4 v0_5 v0_6 v0_7 v0_8 v0_9 v0_10 v0_11 v0_12 v0_13 v0_14 v0_16 v0_18 v0_19 v0_20 v0_21 v0_22 v0_23 v0_24 v0_25 v0_26 v0_27 v0_28 ox0_0 x0_15 f1) t.heap ∧ va_K (dC, dI) classes (tys_ kA) t ∧ va_D (va_A (wd_Model_letter kA a0 a1 v0_1 v0_2 v0_3 v0_4 v0_5 v0_6 v0_7 v0_8 v0_9 v0_10 v0_11 v0_12 v0_13 v0_14 v0_16 v0_18 v0_19 v0_20 v0_21 v0_22 v0_23 v0_24 v0_25 v0_26 v0_27 v0_28 x0_0 x0_15 f1) sz) (wd_Model_letter kA a0 a1 v0_1 v0_2 v0_3 v0_4 v0_5 v0_6 v0_7 v0_8 v0_9 v0_10 v0_11 v0_12 v0_13 v0_14 v0_16 v0_18 v0_19 v0_20 v0_21 v0_22 v0_23 v0_24 v0_25 v0_26 v0_27 v0_28 ox0_0 x0_15 f1)) (va_A (wd_Model_letter kA a0 a1 v0_1 v0_2 v0_3 v0_4 v0_5 v0_6 v0_7 v0_8 v0_9 v0_10 v0_11 v0_12 v0_13 v0_14 v0_16 v0_18 v0_19 v0_20 v0_21 v0_22 v0_23 v0_24 v0_25 v0_26 v0_27 v0_28 x0_0 x0_15 f1) sz)) 0 0 (va_A (wd_Model_letter kA a0 a1 v0_1 v0_2 v0_3 v0_4 v0_5 v0_6 v0_7 v0_8 v0_9 v0_10 v0_11 v0_12 v0_13 v0_14 v0_16 v0_18 v0_19 v0_20 v0_21 v0_22 v0_23 v0_24 v0_25 v0_26 v0_27 v0_28 x0_0 x0_15 f1) sz) := by
  refine Met.ofW (cc := b_Model_letter) (maxL := 2) (ret := some .int) (by decide) rfl ?_
  intro p e s m args below meth c s₁ B hml hv
  obtain ⟨rfl, hsz, hP, hK, hD0⟩ := hv
  have hx := B.exec
  have hb := B.bytes
  have hr := B.returns
  have hts := atoms_spec (ws := w_Model_letter) B.pre
  have hown : s.vm.findClass R_Model = some m.cls := findClass_of_methodNamed B.named
  have hg := fun (w : Cond) (h : w ∈ gw) => hts w (List.mem_cons_of_mem _ h)
  have hlocks := B.notSynchronized
  subst hsz
  have hD := hD0.self (sz := s.heap.size)
  generalize hAe : va_A (wd_Model_letter kA a0 a1 v0_1 v0_2 v0_3 v0_4 v0_5 v0_6 v0_7 v0_8 v0_9 v0_10 v0_11 v0_12 v0_13 v0_14 v0_16 v0_18 v0_19 v0_20 v0_21 v0_22 v0_23 v0_24 v0_25 v0_26 v0_27 v0_28 x0_0 x0_15 f1) s.heap.size = A at hD ⊢
  have hA : ∀ q : Nat, s.heap.size ≤ q → A q := fun q h => by rw [← hAe]; exact Or.inr h
  have hS : va_S A s.heap s.heap [] := va_S.rf
  have hl := lv_entry ([.ref a0, .int p1]) (n := 2) (Nat.le_of_ble_eq_true rfl)
  rw [lg_entry_eq]
  generalize (lg_sl ([.ref a0, .int p1]) ++ List.replicate (2 - (lg_sl ([.ref a0, .int p1])).length) Slot.unset).toArray = ls at hl ⊢
  have hl : lv_has ls 2 [(0, .ref a0), (1, .int p1)] := hl
  unfold S_Model_letter at hF
  refine lv_aload_n hx hb d_Model_letter_0 rfl (lv_at hl 0 rfl) ?_
  refine lv_iconst (v := 0) hx hb d_Model_letter_1 (by decide) ?_
  refine va_put (D := (dC, dI)) (ci := 9) (v := .int 0) (ty := .int) (C := R_Model) (T := F_Model) (N := 29) hx hb hg iw_Model t_Model t_Model_ok n_Model hown hK hP hD hS 0 rfl rfl 0 (by decide) (hg _ gw_259) (fun _ h9 => h9) rfl (by decide +kernel) rfl rfl (Nat.le_of_ble_eq_true rfl) d_Model_letter_2 (fun H locs hP hD hS => ?_)
  have hP : va_P (dC, dI) classes (wd_Model_letter kA a0 a1 v0_1 v0_2 v0_3 v0_4 v0_5 v0_6 v0_7 v0_8 v0_9 v0_10 v0_11 v0_12 v0_13 v0_14 v0_16 v0_18 v0_19 v0_20 v0_21 v0_22 v0_23 v0_24 v0_25 v0_26 v0_27 v0_28 0 x0_15 f1) H := hP
  have hD : va_D A (wd_Model_letter kA a0 a1 v0_1 v0_2 v0_3 v0_4 v0_5 v0_6 v0_7 v0_8 v0_9 v0_10 v0_11 v0_12 v0_13 v0_14 v0_16 v0_18 v0_19 v0_20 v0_21 v0_22 v0_23 v0_24 v0_25 v0_26 v0_27 v0_28 0 x0_15 f1) := hD
  refine lv_iload_n hx hb d_Model_letter_5 rfl (lv_at hl 1 rfl) ?_
  refine lv_if_lt (tgt := 26) hx hb d_Model_letter_6 (by decide) (fun c_1 => ?_) (fun c_1 => ?_)
  · rw [if_pos c_1] at hF
    refine lv_iconst (v := (-1)) hx hb d_Model_letter_26 (by decide) ?_
    have e0 := Option.some.inj hF
    have q0 := Prod.mk.inj e0
    exact W.iret (v := (-1)) hx hb hr (fun t ht hW => ⟨⟨(-1), (), rfl, q0.1, by rw [ht, ← q0.2]; exact hP, va_K.moved hW.alike hK, (by rw [← q0.2]; exact hD)⟩, hS.F ht⟩) hS.2.2 d_Model_letter_27 hlocks
  · rw [if_neg c_1] at hF
    refine lv_iload_n hx hb d_Model_letter_9 rfl (lv_at hl 1 rfl) ?_
    refine lv_aload_n hx hb d_Model_letter_10 rfl (lv_at hl 0 rfl) ?_
    refine va_get (D := (dC, dI)) (ci := 9) (v := .int x0_15) (C := R_Model) (T := F_Model) (N := 29) hx hb hg iw_Model hown hK hP 0 rfl rfl 15 (by decide) (hg _ gw_329) (fun _ h9 => h9) rfl d_Model_letter_11 ?_
    refine lv_icmp_ge (tgt := 26) hx hb d_Model_letter_14 (by decide) (fun c_2 => ?_) (fun c_2 => ?_)
    · rw [if_pos c_2] at hF
      refine lv_iconst (v := (-1)) hx hb d_Model_letter_26 (by decide) ?_
      have e0 := Option.some.inj hF
      have q0 := Prod.mk.inj e0
      exact W.iret (v := (-1)) hx hb hr (fun t ht hW => ⟨⟨(-1), (), rfl, q0.1, by rw [ht, ← q0.2]; exact hP, va_K.moved hW.alike hK, (by rw [← q0.2]; exact hD)⟩, hS.F ht⟩) hS.2.2 d_Model_letter_27 hlocks
    · rw [if_neg c_2] at hF
      refine lv_aload_n hx hb d_Model_letter_17 rfl (lv_at hl 0 rfl) ?_
      refine va_get (D := (dC, dI)) (ci := 9) (v := .ref a1) (C := R_Model) (T := F_Model) (N := 29) hx hb hg iw_Model hown hK hP 0 rfl rfl 17 (by decide) (hg _ gw_330) (fun _ h9 => h9) rfl d_Model_letter_18 ?_
      refine lv_iload_n hx hb d_Model_letter_21 rfl (lv_at hl 1 rfl) ?_
      obtain ⟨h_3, hF⟩ := rd_chk hF
      refine va_iald hx hb hK hP 1 0 rfl rfl h_3 d_Model_letter_22 ?_
      refine lv_goto (tgt := 27) hx hb d_Model_letter_23 (by decide) ?_
      have e0 := Option.some.inj hF
      have q0 := Prod.mk.inj e0
      exact W.iret (v := (f1 (Int32.toNatClampNeg p1))) hx hb hr (fun t ht hW => ⟨⟨(f1 (Int32.toNatClampNeg p1)), (), rfl, q0.1, by rw [ht, ← q0.2]; exact hP, va_K.moved hW.alike hK, (by rw [← q0.2]; exact hD)⟩, hS.F ht⟩) hS.2.2 d_Model_letter_27 hlocks
-- ===== RepairDeskModel.count(I)I
abbrev wd_Model_count (kA : Nat → ClassId) (a0 a1 : Nat) (v0_1 v0_2 v0_4 v0_5 v0_6 v0_7 v0_8 v0_9 v0_10 v0_11 v0_14 v0_15 v0_16 v0_17 v0_18 v0_19 v0_20 v0_21 v0_22 v0_23 v0_24 v0_25 v0_26 v0_27 v0_28 : Value) (x0_0 : Int32) (x0_3 : Int32) (x0_12 : Int32) (f1 : (Nat → Int32)) : va_W := [(a0, .inr (9, [.int x0_0, v0_1, v0_2, .int x0_3, v0_4, v0_5, v0_6, v0_7, v0_8, v0_9, v0_10, v0_11, .int x0_12, .ref a1, v0_14, v0_15, v0_16, v0_17, v0_18, v0_19, v0_20, v0_21, v0_22, v0_23, v0_24, v0_25, v0_26, v0_27, v0_28])), (a1, .inl (kA 0, 2310, .inl f1))]
abbrev rm_Model_count : Room := { frames := 0, cells := 0, slots := 0, locals := 0 }
def B_Model_count_0 (K : Nat → Int32 → Int32 → Int32 → Int32 → Int32 → Option (Int32 × Int32)) (x0_3 : Int32) (x0_12 : Int32) (f1 : (Nat → Int32)) (l1 : Int32) (l2 : Int32) (l3 : Int32) (l4 : Int32) (x0_0 : Int32) : Option (Int32 × Int32) := (if (55 * x0_12) ≤ l3 then (some (l2, x0_0)) else (K 1 l1 l2 l3 0 x0_0))
def B_Model_count_1 (K : Nat → Int32 → Int32 → Int32 → Int32 → Int32 → Option (Int32 × Int32)) (x0_3 : Int32) (x0_12 : Int32) (f1 : (Nat → Int32)) (l1 : Int32) (l2 : Int32) (l3 : Int32) (l4 : Int32) (x0_0 : Int32) : Option (Int32 × Int32) := (if 7 ≤ l4 then (K 0 l1 l2 (l3 + 1) 0 x0_0) else (if (l3 : Int32) < 0 ∨ 2310 ≤ (Int32.toNatClampNeg l3) then none else (K 1 l1 (l2 + ((((f1 (Int32.toNatClampNeg l3)) : Int32) >>> ((l4 : Int32) &&& 31)) &&& 1)) l3 (l4 + 1) x0_0)))
def F_Model_count (x0_3 : Int32) (x0_12 : Int32) (f1 : (Nat → Int32)) : Nat → Nat → Int32 → Int32 → Int32 → Int32 → Int32 → Option (Int32 × Int32)
  | 0 => fun _ _ _ _ _ _ => none
  | n + 1 => fun hd l1 l2 l3 l4 x0_0 => match hd with
    | 0 => B_Model_count_0 (F_Model_count x0_3 x0_12 f1 n) x0_3 x0_12 f1 l1 l2 l3 l4 x0_0
    | 1 => B_Model_count_1 (F_Model_count x0_3 x0_12 f1 n) x0_3 x0_12 f1 l1 l2 l3 l4 x0_0
    | _ => none
set_option maxHeartbeats 4000000 in
set_option maxRecDepth 100000 in
theorem L_Model_count {p : Program} {l : Launch} {e : Env} {s : State} {m : MethodId} {args : Array Value} {below : List Frame} {meth : Method} {c : Code} {A : Nat → Prop} {dC : Nat → ClassId} {dI : Nat → Nat → Nat} {kA : Nat → ClassId} (hx : p.tables.exec = Jvm.exec) (hb : c.code = b_Model_count) (hr : meth.sig.returnType = some .int) (hlocks : meth.locks = false) (hml : c.maxLocals = 5) (hown : s.vm.findClass R_Model = some m.cls) (hts : ∀ w ∈ w_Model_count, w.before args s = true) (hA : ∀ q : Nat, s.heap.size ≤ q → A q) (hK : va_K (dC, dI) classes (tys_ kA) s) (a0 a1 : Nat) (v0_1 v0_2 v0_4 v0_5 v0_6 v0_7 v0_8 v0_9 v0_10 v0_11 v0_14 v0_15 v0_16 v0_17 v0_18 v0_19 v0_20 v0_21 v0_22 v0_23 v0_24 v0_25 v0_26 v0_27 v0_28 : Value) (x0_3 : Int32) (x0_12 : Int32) (f1 : (Nat → Int32)) (r : Int32) (ox0_0 : Int32) : ∀ n : Nat, (∀ (l1 l2 l3 l4 : Int32) (x0_0 : Int32), F_Model_count x0_3 x0_12 f1 n 0 l1 l2 l3 l4 x0_0 = some (r, ox0_0) → ∀ (H : Heap) (locs : List Loc) (ls : Array Slot), va_P (dC, dI) classes (wd_Model_count kA a0 a1 v0_1 v0_2 v0_4 v0_5 v0_6 v0_7 v0_8 v0_9 v0_10 v0_11 v0_14 v0_15 v0_16 v0_17 v0_18 v0_19 v0_20 v0_21 v0_22 v0_23 v0_24 v0_25 v0_26 v0_27 v0_28 x0_0 x0_3 x0_12 f1) H → va_D A (wd_Model_count kA a0 a1 v0_1 v0_2 v0_4 v0_5 v0_6 v0_7 v0_8 v0_9 v0_10 v0_11 v0_14 v0_15 v0_16 v0_17 v0_18 v0_19 v0_20 v0_21 v0_22 v0_23 v0_24 v0_25 v0_26 v0_27 v0_28 x0_0 x0_3 x0_12 f1) → va_S A s.heap H locs → lv_has ls 5 [(0, .ref a0), (1, .int l1), (2, .int l2), (3, .int l3)] → W p l e (headSpec w_Model_count rm_Model_count).room s m args below meth c H locs 0 0 (MQ below (va_Qi (fun (r1 : Int32) (_ : Unit) => r1 = r) (fun _ t => va_P (dC, dI) classes (wd_Model_count kA a0 a1 v0_1 v0_2 v0_4 v0_5 v0_6 v0_7 v0_8 v0_9 v0_10 v0_11 v0_14 v0_15 v0_16 v0_17 v0_18 v0_19 v0_20 v0_21 v0_22 v0_23 v0_24 v0_25 v0_26 v0_27 v0_28 ox0_0 x0_3 x0_12 f1) t.heap ∧ va_K (dC, dI) classes (tys_ kA) t ∧ va_D A (wd_Model_count kA a0 a1 v0_1 v0_2 v0_4 v0_5 v0_6 v0_7 v0_8 v0_9 v0_10 v0_11 v0_14 v0_15 v0_16 v0_17 v0_18 v0_19 v0_20 v0_21 v0_22 v0_23 v0_24 v0_25 v0_26 v0_27 v0_28 ox0_0 x0_3 x0_12 f1)) A) args s 0 0 A) (F0 m 35 ls [])) ∧ (∀ (l1 l2 l3 l4 : Int32) (x0_0 : Int32), F_Model_count x0_3 x0_12 f1 n 1 l1 l2 l3 l4 x0_0 = some (r, ox0_0) → ∀ (H : Heap) (locs : List Loc) (ls : Array Slot), va_P (dC, dI) classes (wd_Model_count kA a0 a1 v0_1 v0_2 v0_4 v0_5 v0_6 v0_7 v0_8 v0_9 v0_10 v0_11 v0_14 v0_15 v0_16 v0_17 v0_18 v0_19 v0_20 v0_21 v0_22 v0_23 v0_24 v0_25 v0_26 v0_27 v0_28 x0_0 x0_3 x0_12 f1) H → va_D A (wd_Model_count kA a0 a1 v0_1 v0_2 v0_4 v0_5 v0_6 v0_7 v0_8 v0_9 v0_10 v0_11 v0_14 v0_15 v0_16 v0_17 v0_18 v0_19 v0_20 v0_21 v0_22 v0_23 v0_24 v0_25 v0_26 v0_27 v0_28 x0_0 x0_3 x0_12 f1) → va_S A s.heap H locs → lv_has ls 5 [(0, .ref a0), (1, .int l1), (2, .int l2), (3, .int l3), (4, .int l4)] → W p l e (headSpec w_Model_count rm_Model_count).room s m args below meth c H locs 0 0 (MQ below (va_Qi (fun (r1 : Int32) (_ : Unit) => r1 = r) (fun _ t => va_P (dC, dI) classes (wd_Model_count kA a0 a1 v0_1 v0_2 v0_4 v0_5 v0_6 v0_7 v0_8 v0_9 v0_10 v0_11 v0_14 v0_15 v0_16 v0_17 v0_18 v0_19 v0_20 v0_21 v0_22 v0_23 v0_24 v0_25 v0_26 v0_27 v0_28 ox0_0 x0_3 x0_12 f1) t.heap ∧ va_K (dC, dI) classes (tys_ kA) t ∧ va_D A (wd_Model_count kA a0 a1 v0_1 v0_2 v0_4 v0_5 v0_6 v0_7 v0_8 v0_9 v0_10 v0_11 v0_14 v0_15 v0_16 v0_17 v0_18 v0_19 v0_20 v0_21 v0_22 v0_23 v0_24 v0_25 v0_26 v0_27 v0_28 ox0_0 x0_3 x0_12 f1)) A) args s 0 0 A) (F0 m 49 ls [])) := by
  have hg := fun (w : Cond) (h : w ∈ gw) => hts w (List.mem_cons_of_mem _ h)
  intro n
  induction n with
  | zero =>
    exact ⟨fun _ _ _ _ _ hF => absurd (show (none : Option _) = some _ from hF) (fun z => by cases z), fun _ _ _ _ _ hF => absurd (show (none : Option _) = some _ from hF) (fun z => by cases z)⟩
  | succ n ih =>
    refine ⟨?_, ?_⟩
    · intro l1 l2 l3 l4 x0_0 hF H locs ls hP hD hS hl
      have hF : B_Model_count_0 (F_Model_count x0_3 x0_12 f1 n) x0_3 x0_12 f1 l1 l2 l3 l4 x0_0 = some (r, ox0_0) := hF
      unfold B_Model_count_0 at hF
      refine lv_iload_n hx hb d_Model_count_35 rfl (lv_at hl 3 rfl) ?_
      refine lv_bipush (v := 55) hx hb d_Model_count_36 (by decide) ?_
      refine lv_aload_n hx hb d_Model_count_38 rfl (lv_at hl 0 rfl) ?_
      refine va_get (D := (dC, dI)) (ci := 9) (v := .int x0_12) (C := R_Model) (T := F_Model) (N := 29) hx hb hg iw_Model hown hK hP 0 rfl rfl 12 (by decide) (hg _ gw_280) (fun _ h9 => h9) rfl d_Model_count_39 ?_
      refine lv_imul hx hb d_Model_count_42 ?_
      refine lv_icmp_ge (tgt := 82) hx hb d_Model_count_43 (by decide) (fun c_1 => ?_) (fun c_1 => ?_)
      · rw [if_pos c_1] at hF
        refine lv_iload_n hx hb d_Model_count_82 rfl (lv_at hl 2 rfl) ?_
        have e0 := Option.some.inj hF
        have q0 := Prod.mk.inj e0
        exact W.iret (v := l2) hx hb hr (fun t ht hW => ⟨⟨l2, (), rfl, q0.1, by rw [ht, ← q0.2]; exact hP, va_K.moved hW.alike hK, (by rw [← q0.2]; exact hD)⟩, hS.F ht⟩) hS.2.2 d_Model_count_83 hlocks
      · rw [if_neg c_1] at hF
        refine lv_iconst (v := 0) hx hb d_Model_count_46 (by decide) ?_
        refine lv_istore (lv' := [(4, .int 0), (0, .ref a0), (1, .int l1), (2, .int l2), (3, .int l3)]) hx hb d_Model_count_47 hl (by decide) rfl (fun ls hl => ?_)
        exact ih.2 l1 l2 l3 0 x0_0 hF _ _ _ hP hD hS (lv_sub hl [1, 2, 3, 4, 0] rfl)
    · intro l1 l2 l3 l4 x0_0 hF H locs ls hP hD hS hl
      have hF : B_Model_count_1 (F_Model_count x0_3 x0_12 f1 n) x0_3 x0_12 f1 l1 l2 l3 l4 x0_0 = some (r, ox0_0) := hF
      unfold B_Model_count_1 at hF
      refine lv_iload hx hb d_Model_count_49 (lv_at hl 4 rfl) ?_
      refine lv_bipush (v := 7) hx hb d_Model_count_51 (by decide) ?_
      refine lv_icmp_ge (tgt := 76) hx hb d_Model_count_53 (by decide) (fun c_2 => ?_) (fun c_2 => ?_)
      · rw [if_pos c_2] at hF
        refine lv_iinc (v := (l3 + 1)) (lv' := [(3, .int (l3 + 1)), (0, .ref a0), (1, .int l1), (2, .int l2), (4, .int l4)]) hx hb d_Model_count_76 hl (k := 3) rfl (by rfl) (by decide) rfl (fun ls hl => ?_)
        refine lv_goto (tgt := 35) hx hb d_Model_count_79 (by decide) ?_
        exact ih.1 l1 l2 (l3 + 1) 0 x0_0 hF _ _ _ hP hD hS (lv_sub hl [1, 2, 3, 0] rfl)
      · rw [if_neg c_2] at hF
        refine lv_iload_n hx hb d_Model_count_56 rfl (lv_at hl 2 rfl) ?_
        refine lv_aload_n hx hb d_Model_count_57 rfl (lv_at hl 0 rfl) ?_
        refine va_get (D := (dC, dI)) (ci := 9) (v := .ref a1) (C := R_Model) (T := F_Model) (N := 29) hx hb hg iw_Model hown hK hP 0 rfl rfl 13 (by decide) (hg _ gw_297) (fun _ h9 => h9) rfl d_Model_count_58 ?_
        refine lv_iload_n hx hb d_Model_count_61 rfl (lv_at hl 3 rfl) ?_
        obtain ⟨h_3, hF⟩ := rd_chk hF
        refine va_iald hx hb hK hP 1 0 rfl rfl h_3 d_Model_count_62 ?_
        refine lv_iload hx hb d_Model_count_63 (lv_at hl 4 rfl) ?_
        refine lv_ishr hx hb d_Model_count_65 ?_
        refine lv_iconst (v := 1) hx hb d_Model_count_66 (by decide) ?_
        refine lv_iand hx hb d_Model_count_67 ?_
        refine lv_iadd hx hb d_Model_count_68 ?_
        refine lv_istore_n (lv' := [(2, .int (l2 + ((((f1 (Int32.toNatClampNeg l3)) : Int32) >>> ((l4 : Int32) &&& 31)) &&& 1))), (0, .ref a0), (1, .int l1), (3, .int l3), (4, .int l4)]) hx hb d_Model_count_69 rfl hl (by decide) rfl (fun ls hl => ?_)
        refine lv_iinc (v := (l4 + 1)) (lv' := [(4, .int (l4 + 1)), (2, .int (l2 + ((((f1 (Int32.toNatClampNeg l3)) : Int32) >>> ((l4 : Int32) &&& 31)) &&& 1))), (0, .ref a0), (1, .int l1), (3, .int l3)]) hx hb d_Model_count_70 hl (k := 4) rfl (by rfl) (by decide) rfl (fun ls hl => ?_)
        refine lv_goto (tgt := 49) hx hb d_Model_count_73 (by decide) ?_
        exact ih.2 l1 (l2 + ((((f1 (Int32.toNatClampNeg l3)) : Int32) >>> ((l4 : Int32) &&& 31)) &&& 1)) l3 (l4 + 1) x0_0 hF _ _ _ hP hD hS (lv_sub hl [2, 3, 1, 4, 0] rfl)
def S_Model_count (p1 : Int32) (x0_0 : Int32) (x0_3 : Int32) (x0_12 : Int32) (f1 : (Nat → Int32)) : Option (Int32 × Int32) := (if ¬ p1 = 0 then (if ¬ p1 = 1 then (if p1 = 2 then (F_Model_count x0_3 x0_12 f1 fuel_ 0 p1 0 0 0 0) else (some ((-1), 0))) else (some (x0_12, 0))) else (some (x0_3, 0)))
set_option maxHeartbeats 4000000 in
set_option maxRecDepth 100000 in
theorem c_Model_count (l : Launch) (dC : Nat → ClassId) (dI : Nat → Nat → Nat) (kA : Nat → ClassId) (sz : Nat) (a0 a1 : Nat) (v0_1 v0_2 v0_4 v0_5 v0_6 v0_7 v0_8 v0_9 v0_10 v0_11 v0_14 v0_15 v0_16 v0_17 v0_18 v0_19 v0_20 v0_21 v0_22 v0_23 v0_24 v0_25 v0_26 v0_27 v0_28 : Value) (p1 : Int32) (x0_0 : Int32) (x0_3 : Int32) (x0_12 : Int32) (f1 : (Nat → Int32)) (r : Int32) (ox0_0 : Int32) (hF : S_Model_count p1 x0_0 x0_3 x0_12 f1 = some (r, ox0_0)) : Met l y_Model_count w_Model_count rm_Model_count (va_Pc [.ref a0, .int p1] (fun U => U.heap.size = sz ∧ va_P (dC, dI) classes (wd_Model_count kA a0 a1 v0_1 v0_2 v0_4 v0_5 v0_6 v0_7 v0_8 v0_9 v0_10 v0_11 v0_14 v0_15 v0_16 v0_17 v0_18 v0_19 v0_20 v0_21 v0_22 v0_23 v0_24 v0_25 v0_26 v0_27 v0_28 x0_0 x0_3 x0_12 f1) U.heap ∧ va_K (dC, dI) classes (tys_ kA) U ∧ va_D (fun _ => True) (wd_Model_count kA a0 a1 v0_1 v0_2 v0_4 v0_5 v0_6 v0_7 v0_8 v0_9 v0_10 v0_11 v0_14 v0_15 v0_16 v0_17 v0_18 v0_19 v0_20 v0_21 v0_22 v0_23 v0_24 v0_25 v0_26 v0_27 v0_28 x0_0 x0_3 x0_12 f1))) (va_Qi (fun (r1 : Int32) (_ : Unit) => r1 = r) (fun _ t => va_P (dC, dI) classes (wd_Model_count kA a0 a1 v0_1 v0_2 v0_4 v0_5 v0_6 v0_7 v0_8 v0_9 v0_10 v0_11 v0_14 v0_15 v0_16 v0_17 v0_18 v0_19 v0_20 v0_21 v0_22 v0_23 v0_24 v0_25 v0_26 v0_27 v0_28 ox0_0 x0_3 x0_12 f1) t.heap ∧ va_K (dC, dI) classes (tys_ kA) t ∧ va_D (va_A (wd_Model_count kA a0 a1 v0_1 v0_2 v0_4 v0_5 v0_6 v0_7 v0_8 v0_9 v0_10 v0_11 v0_14 v0_15 v0_16 v0_17 v0_18 v0_19 v0_20 v0_21 v0_22 v0_23 v0_24 v0_25 v0_26 v0_27 v0_28 x0_0 x0_3 x0_12 f1) sz) (wd_Model_count kA a0 a1 v0_1 v0_2 v0_4 v0_5 v0_6 v0_7 v0_8 v0_9 v0_10 v0_11 v0_14 v0_15 v0_16 v0_17 v0_18 v0_19 v0_20 v0_21 v0_22 v0_23 v0_24 v0_25 v0_26 v0_27 v0_28 ox0_0 x0_3 x0_12 f1)) (va_A (wd_Model_count kA a0 a1 v0_1 v0_2 v0_4 v0_5 v0_6 v0_7 v0_8 v0_9 v0_10 v0_11 v0_14 v0_15 v0_16 v0_17 v0_18 v0_19 v0_20 v0_21 v0_22 v0_23 v0_24 v0_25 v0_26 v0_27 v0_28 x0_0 x0_3 x0_12 f1) sz)) 0 0 (va_A (wd_Model_count kA a0 a1 v0_1 v0_2 v0_4 v0_5 v0_6 v0_7 v0_8 v0_9 v0_10 v0_11 v0_14 v0_15 v0_16 v0_17 v0_18 v0_19 v0_20 v0_21 v0_22 v0_23 v0_24 v0_25 v0_26 v0_27 v0_28 x0_0 x0_3 x0_12 f1) sz) := by
  refine Met.ofW (cc := b_Model_count) (maxL := 5) (ret := some .int) (by decide) rfl ?_
  intro p e s m args below meth c s₁ B hml hv
  obtain ⟨rfl, hsz, hP, hK, hD0⟩ := hv
  have hx := B.exec
  have hb := B.bytes
  have hr := B.returns
  have hts := atoms_spec (ws := w_Model_count) B.pre
  have hown : s.vm.findClass R_Model = some m.cls := findClass_of_methodNamed B.named
  have hg := fun (w : Cond) (h : w ∈ gw) => hts w (List.mem_cons_of_mem _ h)
  have hlocks := B.notSynchronized
  subst hsz
  have hD := hD0.self (sz := s.heap.size)
  generalize hAe : va_A (wd_Model_count kA a0 a1 v0_1 v0_2 v0_4 v0_5 v0_6 v0_7 v0_8 v0_9 v0_10 v0_11 v0_14 v0_15 v0_16 v0_17 v0_18 v0_19 v0_20 v0_21 v0_22 v0_23 v0_24 v0_25 v0_26 v0_27 v0_28 x0_0 x0_3 x0_12 f1) s.heap.size = A at hD ⊢
  have hA : ∀ q : Nat, s.heap.size ≤ q → A q := fun q h => by rw [← hAe]; exact Or.inr h
  have hS : va_S A s.heap s.heap [] := va_S.rf
  have hl := lv_entry ([.ref a0, .int p1]) (n := 5) (Nat.le_of_ble_eq_true rfl)
  rw [lg_entry_eq]
  generalize (lg_sl ([.ref a0, .int p1]) ++ List.replicate (5 - (lg_sl ([.ref a0, .int p1])).length) Slot.unset).toArray = ls at hl ⊢
  have hl : lv_has ls 5 [(0, .ref a0), (1, .int p1)] := hl
  unfold S_Model_count at hF
  have ih := L_Model_count (l := l) (e := e) (below := below) hx hb hr hlocks hml hown hts hA hK a0 a1 v0_1 v0_2 v0_4 v0_5 v0_6 v0_7 v0_8 v0_9 v0_10 v0_11 v0_14 v0_15 v0_16 v0_17 v0_18 v0_19 v0_20 v0_21 v0_22 v0_23 v0_24 v0_25 v0_26 v0_27 v0_28 x0_3 x0_12 f1 r ox0_0 fuel_
  refine lv_aload_n hx hb d_Model_count_0 rfl (lv_at hl 0 rfl) ?_
  refine lv_iconst (v := 0) hx hb d_Model_count_1 (by decide) ?_
  refine va_put (D := (dC, dI)) (ci := 9) (v := .int 0) (ty := .int) (C := R_Model) (T := F_Model) (N := 29) hx hb hg iw_Model t_Model t_Model_ok n_Model hown hK hP hD hS 0 rfl rfl 0 (by decide) (hg _ gw_259) (fun _ h9 => h9) rfl (by decide +kernel) rfl rfl (Nat.le_of_ble_eq_true rfl) d_Model_count_2 (fun H locs hP hD hS => ?_)
  have hP : va_P (dC, dI) classes (wd_Model_count kA a0 a1 v0_1 v0_2 v0_4 v0_5 v0_6 v0_7 v0_8 v0_9 v0_10 v0_11 v0_14 v0_15 v0_16 v0_17 v0_18 v0_19 v0_20 v0_21 v0_22 v0_23 v0_24 v0_25 v0_26 v0_27 v0_28 0 x0_3 x0_12 f1) H := hP
  have hD : va_D A (wd_Model_count kA a0 a1 v0_1 v0_2 v0_4 v0_5 v0_6 v0_7 v0_8 v0_9 v0_10 v0_11 v0_14 v0_15 v0_16 v0_17 v0_18 v0_19 v0_20 v0_21 v0_22 v0_23 v0_24 v0_25 v0_26 v0_27 v0_28 0 x0_3 x0_12 f1) := hD
  refine lv_iload_n hx hb d_Model_count_5 rfl (lv_at hl 1 rfl) ?_
  refine lv_if_ne (tgt := 14) hx hb d_Model_count_6 (by decide) (fun c_4 => ?_) (fun c_4 => ?_)
  · rw [if_pos c_4] at hF
    refine lv_iload_n hx hb d_Model_count_14 rfl (lv_at hl 1 rfl) ?_
    refine lv_iconst (v := 1) hx hb d_Model_count_15 (by decide) ?_
    refine lv_icmp_ne (tgt := 24) hx hb d_Model_count_16 (by decide) (fun c_5 => ?_) (fun c_5 => ?_)
    · rw [if_pos c_5] at hF
      refine lv_iload_n hx hb d_Model_count_24 rfl (lv_at hl 1 rfl) ?_
      refine lv_iconst (v := 2) hx hb d_Model_count_25 (by decide) ?_
      refine lv_icmp_eq (tgt := 31) hx hb d_Model_count_26 (by decide) (fun c_6 => ?_) (fun c_6 => ?_)
      · rw [if_pos c_6] at hF
        refine lv_iconst (v := 0) hx hb d_Model_count_31 (by decide) ?_
        refine lv_istore_n (lv' := [(2, .int 0), (0, .ref a0), (1, .int p1)]) hx hb d_Model_count_32 rfl hl (by decide) rfl (fun ls hl => ?_)
        refine lv_iconst (v := 0) hx hb d_Model_count_33 (by decide) ?_
        refine lv_istore_n (lv' := [(3, .int 0), (2, .int 0), (0, .ref a0), (1, .int p1)]) hx hb d_Model_count_34 rfl hl (by decide) rfl (fun ls hl => ?_)
        exact ih.1 p1 0 0 0 0 hF _ _ _ hP hD hS (lv_sub hl [2, 3, 1, 0] rfl)
      · rw [if_neg c_6] at hF
        refine lv_iconst (v := (-1)) hx hb d_Model_count_29 (by decide) ?_
        have e0 := Option.some.inj hF
        have q0 := Prod.mk.inj e0
        exact W.iret (v := (-1)) hx hb hr (fun t ht hW => ⟨⟨(-1), (), rfl, q0.1, by rw [ht, ← q0.2]; exact hP, va_K.moved hW.alike hK, (by rw [← q0.2]; exact hD)⟩, hS.F ht⟩) hS.2.2 d_Model_count_30 hlocks
    · rw [if_neg (fun z => z c_5)] at hF
      refine lv_aload_n hx hb d_Model_count_19 rfl (lv_at hl 0 rfl) ?_
      refine va_get (D := (dC, dI)) (ci := 9) (v := .int x0_12) (C := R_Model) (T := F_Model) (N := 29) hx hb hg iw_Model hown hK hP 0 rfl rfl 12 (by decide) (hg _ gw_280) (fun _ h9 => h9) rfl d_Model_count_20 ?_
      have e0 := Option.some.inj hF
      have q0 := Prod.mk.inj e0
      exact W.iret (v := x0_12) hx hb hr (fun t ht hW => ⟨⟨x0_12, (), rfl, q0.1, by rw [ht, ← q0.2]; exact hP, va_K.moved hW.alike hK, (by rw [← q0.2]; exact hD)⟩, hS.F ht⟩) hS.2.2 d_Model_count_23 hlocks
  · rw [if_neg (fun z => z c_4)] at hF
    refine lv_aload_n hx hb d_Model_count_9 rfl (lv_at hl 0 rfl) ?_
    refine va_get (D := (dC, dI)) (ci := 9) (v := .int x0_3) (C := R_Model) (T := F_Model) (N := 29) hx hb hg iw_Model hown hK hP 0 rfl rfl 3 (by decide) (hg _ gw_276) (fun _ h9 => h9) rfl d_Model_count_10 ?_
    have e0 := Option.some.inj hF
    have q0 := Prod.mk.inj e0
    exact W.iret (v := x0_3) hx hb hr (fun t ht hW => ⟨⟨x0_3, (), rfl, q0.1, by rw [ht, ← q0.2]; exact hP, va_K.moved hW.alike hK, (by rw [← q0.2]; exact hD)⟩, hS.F ht⟩) hS.2.2 d_Model_count_13 hlocks
