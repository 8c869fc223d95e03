-- ===== RepairDeskModel.thrown()I
abbrev wd_Model_thrown (kA : Nat → ClassId) (a0 : Nat) (v0_1 v0_2 v0_3 v0_4 v0_5 v0_6 v0_7 v0_8 v0_9 v0_10 v0_11 v0_12 v0_13 v0_14 v0_15 v0_16 v0_17 v0_18 v0_19 v0_20 v0_21 v0_22 v0_23 v0_24 v0_25 v0_26 v0_27 v0_28 : Value) (x0_0 : Int32) : va_W := [(a0, .inr (9, [.int x0_0, v0_1, v0_2, v0_3, v0_4, v0_5, v0_6, v0_7, v0_8, v0_9, v0_10, v0_11, v0_12, v0_13, v0_14, v0_15, v0_16, v0_17, v0_18, v0_19, v0_20, v0_21, v0_22, v0_23, v0_24, v0_25, v0_26, v0_27, v0_28]))]
abbrev rm_Model_thrown : Room := { frames := 0, cells := 0, slots := 0, locals := 0 }
def S_Model_thrown (x0_0 : Int32) : Option (Int32) := (some x0_0)
set_option maxHeartbeats 4000000 in
set_option maxRecDepth 100000 in
theorem c_Model_thrown (l : Launch) (dC : Nat → ClassId) (dI : Nat → Nat → Nat) (kA : Nat → ClassId) (sz : Nat) (a0 : Nat) (v0_1 v0_2 v0_3 v0_4 v0_5 v0_6 v0_7 v0_8 v0_9 v0_10 v0_11 v0_12 v0_13 v0_14 v0_15 v0_16 v0_17 v0_18 v0_19 v0_20 v0_21 v0_22 v0_23 v0_24 v0_25 v0_26 v0_27 v0_28 : Value) (x0_0 : Int32) (r : Int32) (hF : S_Model_thrown x0_0 = some r) : Met l y_Model_thrown w_Model_thrown rm_Model_thrown (va_Pc [.ref a0] (fun U => U.heap.size = sz ∧ va_P (dC, dI) classes (wd_Model_thrown kA a0 v0_1 v0_2 v0_3 v0_4 v0_5 v0_6 v0_7 v0_8 v0_9 v0_10 v0_11 v0_12 v0_13 v0_14 v0_15 v0_16 v0_17 v0_18 v0_19 v0_20 v0_21 v0_22 v0_23 v0_24 v0_25 v0_26 v0_27 v0_28 x0_0) U.heap ∧ va_K (dC, dI) classes (tys_ kA) U ∧ va_D (fun _ => True) (wd_Model_thrown kA a0 v0_1 v0_2 v0_3 v0_4 v0_5 v0_6 v0_7 v0_8 v0_9 v0_10 v0_11 v0_12 v0_13 v0_14 v0_15 v0_16 v0_17 v0_18 v0_19 v0_20 v0_21 v0_22 v0_23 v0_24 v0_25 v0_26 v0_27 v0_28 x0_0))) (va_Qi (fun (r1 : Int32) (_ : Unit) => r1 = r) (fun _ t => va_P (dC, dI) classes (wd_Model_thrown kA a0 v0_1 v0_2 v0_3 v0_4 v0_5 v0_6 v0_7 v0_8 v0_9 v0_10 v0_11 v0_12 v0_13 v0_14 v0_15 v0_16 v0_17 v0_18 v0_19 v0_20 v0_21 v0_22 v0_23 v0_24 v0_25 v0_26 v0_27 v0_28 x0_0) t.heap ∧ va_K (dC, dI) classes (tys_ kA) t ∧ va_D (va_A (wd_Model_thrown kA a0 v0_1 v0_2 v0_3 v0_4 v0_5 v0_6 v0_7 v0_8 v0_9 v0_10 v0_11 v0_12 v0_13 v0_14 v0_15 v0_16 v0_17 v0_18 v0_19 v0_20 v0_21 v0_22 v0_23 v0_24 v0_25 v0_26 v0_27 v0_28 x0_0) sz) (wd_Model_thrown kA a0 v0_1 v0_2 v0_3 v0_4 v0_5 v0_6 v0_7 v0_8 v0_9 v0_10 v0_11 v0_12 v0_13 v0_14 v0_15 v0_16 v0_17 v0_18 v0_19 v0_20 v0_21 v0_22 v0_23 v0_24 v0_25 v0_26 v0_27 v0_28 x0_0)) (va_A (wd_Model_thrown kA a0 v0_1 v0_2 v0_3 v0_4 v0_5 v0_6 v0_7 v0_8 v0_9 v0_10 v0_11 v0_12 v0_13 v0_14 v0_15 v0_16 v0_17 v0_18 v0_19 v0_20 v0_21 v0_22 v0_23 v0_24 v0_25 v0_26 v0_27 v0_28 x0_0) sz)) 0 0 (va_A (wd_Model_thrown kA a0 v0_1 v0_2 v0_3 v0_4 v0_5 v0_6 v0_7 v0_8 v0_9 v0_10 v0_11 v0_12 v0_13 v0_14 v0_15 v0_16 v0_17 v0_18 v0_19 v0_20 v0_21 v0_22 v0_23 v0_24 v0_25 v0_26 v0_27 v0_28 x0_0) sz) := by
  refine Met.ofW (cc := b_Model_thrown) (maxL := 1) (ret := some .int) (by decide) rfl ?_
  intro p e s m args below meth c s₁ B hml hv
  obtain ⟨rfl, hsz, hP, hK, hD0⟩ := hv
  have hx := B.exec
  have hb := B.bytes
  have hr := B.returns
  have hts := atoms_spec (ws := w_Model_thrown) B.pre
  have hown : s.vm.findClass R_Model = some m.cls := findClass_of_methodNamed B.named
  have hg := fun (w : Cond) (h : w ∈ gw) => hts w (List.mem_cons_of_mem _ h)
  have hlocks := B.notSynchronized
  subst hsz
  have hD := hD0.self (sz := s.heap.size)
  generalize hAe : va_A (wd_Model_thrown kA a0 v0_1 v0_2 v0_3 v0_4 v0_5 v0_6 v0_7 v0_8 v0_9 v0_10 v0_11 v0_12 v0_13 v0_14 v0_15 v0_16 v0_17 v0_18 v0_19 v0_20 v0_21 v0_22 v0_23 v0_24 v0_25 v0_26 v0_27 v0_28 x0_0) s.heap.size = A at hD ⊢
  have hA : ∀ q : Nat, s.heap.size ≤ q → A q := fun q h => by rw [← hAe]; exact Or.inr h
  have hS : va_S A s.heap s.heap [] := va_S.rf
  have hl := lv_entry ([.ref a0]) (n := 1) (Nat.le_of_ble_eq_true rfl)
  rw [lg_entry_eq]
  generalize (lg_sl ([.ref a0]) ++ List.replicate (1 - (lg_sl ([.ref a0])).length) Slot.unset).toArray = ls at hl ⊢
  have hl : lv_has ls 1 [(0, .ref a0)] := hl
  unfold S_Model_thrown at hF
  refine lv_aload_n hx hb d_Model_thrown_0 rfl (lv_at hl 0 rfl) ?_
  refine va_get (D := (dC, dI)) (ci := 9) (v := .int x0_0) (C := R_Model) (T := F_Model) (N := 29) hx hb hg iw_Model hown hK hP 0 rfl rfl 0 (by decide) (hg _ gw_259) (fun _ h9 => h9) rfl d_Model_thrown_1 ?_
  have e0 := Option.some.inj hF
  exact W.iret (v := x0_0) hx hb hr (fun t ht hW => ⟨⟨x0_0, (), rfl, e0, by rw [ht]; exact hP, va_K.moved hW.alike hK, (by exact hD)⟩, hS.F ht⟩) hS.2.2 d_Model_thrown_4 hlocks
-- ===== RepairDeskModel.fails(I)I
abbrev wd_Model_fails (kA : Nat → ClassId) (a0 : Nat) (v0_1 v0_2 v0_3 v0_4 v0_5 v0_6 v0_7 v0_8 v0_9 v0_10 v0_11 v0_12 v0_13 v0_14 v0_15 v0_16 v0_17 v0_18 v0_19 v0_20 v0_21 v0_22 v0_23 v0_24 v0_25 v0_26 v0_27 v0_28 : Value) (x0_0 : Int32) : va_W := [(a0, .inr (9, [.int x0_0, v0_1, v0_2, v0_3, v0_4, v0_5, v0_6, v0_7, v0_8, v0_9, v0_10, v0_11, v0_12, v0_13, v0_14, v0_15, v0_16, v0_17, v0_18, v0_19, v0_20, v0_21, v0_22, v0_23, v0_24, v0_25, v0_26, v0_27, v0_28]))]
abbrev rm_Model_fails : Room := { frames := 0, cells := 0, slots := 0, locals := 0 }
def S_Model_fails (p1 : Int32) (x0_0 : Int32) : Option (Int32 × Int32) := (some (0, p1))
set_option maxHeartbeats 4000000 in
set_option maxRecDepth 100000 in
theorem c_Model_fails (l : Launch) (dC : Nat → ClassId) (dI : Nat → Nat → Nat) (kA : Nat → ClassId) (sz : Nat) (a0 : Nat) (v0_1 v0_2 v0_3 v0_4 v0_5 v0_6 v0_7 v0_8 v0_9 v0_10 v0_11 v0_12 v0_13 v0_14 v0_15 v0_16 v0_17 v0_18 v0_19 v0_20 v0_21 v0_22 v0_23 v0_24 v0_25 v0_26 v0_27 v0_28 : Value) (p1 : Int32) (x0_0 : Int32) (r : Int32) (ox0_0 : Int32) (hF : S_Model_fails p1 x0_0 = some (r, ox0_0)) : Met l y_Model_fails w_Model_fails rm_Model_fails (va_Pc [.ref a0, .int p1] (fun U => U.heap.size = sz ∧ va_P (dC, dI) classes (wd_Model_fails kA a0 v0_1 v0_2 v0_3 v0_4 v0_5 v0_6 v0_7 v0_8 v0_9 v0_10 v0_11 v0_12 v0_13 v0_14 v0_15 v0_16 v0_17 v0_18 v0_19 v0_20 v0_21 v0_22 v0_23 v0_24 v0_25 v0_26 v0_27 v0_28 x0_0) U.heap ∧ va_K (dC, dI) classes (tys_ kA) U ∧ va_D (fun _ => True) (wd_Model_fails kA a0 v0_1 v0_2 v0_3 v0_4 v0_5 v0_6 v0_7 v0_8 v0_9 v0_10 v0_11 v0_12 v0_13 v0_14 v0_15 v0_16 v0_17 v0_18 v0_19 v0_20 v0_21 v0_22 v0_23 v0_24 v0_25 v0_26 v0_27 v0_28 x0_0))) (va_Qi (fun (r1 : Int32) (_ : Unit) => r1 = r) (fun _ t => va_P (dC, dI) classes (wd_Model_fails kA a0 v0_1 v0_2 v0_3 v0_4 v0_5 v0_6 v0_7 v0_8 v0_9 v0_10 v0_11 v0_12 v0_13 v0_14 v0_15 v0_16 v0_17 v0_18 v0_19 v0_20 v0_21 v0_22 v0_23 v0_24 v0_25 v0_26 v0_27 v0_28 ox0_0) t.heap ∧ va_K (dC, dI) classes (tys_ kA) t ∧ va_D (va_A (wd_Model_fails kA a0 v0_1 v0_2 v0_3 v0_4 v0_5 v0_6 v0_7 v0_8 v0_9 v0_10 v0_11 v0_12 v0_13 v0_14 v0_15 v0_16 v0_17 v0_18 v0_19 v0_20 v0_21 v0_22 v0_23 v0_24 v0_25 v0_26 v0_27 v0_28 x0_0) sz) (wd_Model_fails kA a0 v0_1 v0_2 v0_3 v0_4 v0_5 v0_6 v0_7 v0_8 v0_9 v0_10 v0_11 v0_12 v0_13 v0_14 v0_15 v0_16 v0_17 v0_18 v0_19 v0_20 v0_21 v0_22 v0_23 v0_24 v0_25 v0_26 v0_27 v0_28 ox0_0)) (va_A (wd_Model_fails kA a0 v0_1 v0_2 v0_3 v0_4 v0_5 v0_6 v0_7 v0_8 v0_9 v0_10 v0_11 v0_12 v0_13 v0_14 v0_15 v0_16 v0_17 v0_18 v0_19 v0_20 v0_21 v0_22 v0_23 v0_24 v0_25 v0_26 v0_27 v0_28 x0_0) sz)) 0 0 (va_A (wd_Model_fails kA a0 v0_1 v0_2 v0_3 v0_4 v0_5 v0_6 v0_7 v0_8 v0_9 v0_10 v0_11 v0_12 v0_13 v0_14 v0_15 v0_16 v0_17 v0_18 v0_19 v0_20 v0_21 v0_22 v0_23 v0_24 v0_25 v0_26 v0_27 v0_28 x0_0) sz) := by
  refine Met.ofW (cc := b_Model_fails) (maxL := 2) (ret := some .int) (by decide) rfl ?_
  intro p e s m args below meth c s₁ B hml hv
  obtain ⟨rfl, hsz, hP, hK, hD0⟩ := hv
  have hx := B.exec
  have hb := B.bytes
  have hr := B.returns
  have hts := atoms_spec (ws := w_Model_fails) B.pre
  have hown : s.vm.findClass R_Model = some m.cls := findClass_of_methodNamed B.named
  have hg := fun (w : Cond) (h : w ∈ gw) => hts w (List.mem_cons_of_mem _ h)
  have hlocks := B.notSynchronized
  subst hsz
  have hD := hD0.self (sz := s.heap.size)
  generalize hAe : va_A (wd_Model_fails kA a0 v0_1 v0_2 v0_3 v0_4 v0_5 v0_6 v0_7 v0_8 v0_9 v0_10 v0_11 v0_12 v0_13 v0_14 v0_15 v0_16 v0_17 v0_18 v0_19 v0_20 v0_21 v0_22 v0_23 v0_24 v0_25 v0_26 v0_27 v0_28 x0_0) s.heap.size = A at hD ⊢
  have hA : ∀ q : Nat, s.heap.size ≤ q → A q := fun q h => by rw [← hAe]; exact Or.inr h
  have hS : va_S A s.heap s.heap [] := va_S.rf
  have hl := lv_entry ([.ref a0, .int p1]) (n := 2) (Nat.le_of_ble_eq_true rfl)
  rw [lg_entry_eq]
  generalize (lg_sl ([.ref a0, .int p1]) ++ List.replicate (2 - (lg_sl ([.ref a0, .int p1])).length) Slot.unset).toArray = ls at hl ⊢
  have hl : lv_has ls 2 [(0, .ref a0), (1, .int p1)] := hl
  unfold S_Model_fails at hF
  refine lv_aload_n hx hb d_Model_fails_0 rfl (lv_at hl 0 rfl) ?_
  refine lv_iload_n hx hb d_Model_fails_1 rfl (lv_at hl 1 rfl) ?_
  refine va_put (D := (dC, dI)) (ci := 9) (v := .int p1) (ty := .int) (C := R_Model) (T := F_Model) (N := 29) hx hb hg iw_Model t_Model t_Model_ok n_Model hown hK hP hD hS 0 rfl rfl 0 (by decide) (hg _ gw_259) (fun _ h9 => h9) rfl (by decide +kernel) rfl rfl (Nat.le_of_ble_eq_true rfl) d_Model_fails_2 (fun H locs hP hD hS => ?_)
  have hP : va_P (dC, dI) classes (wd_Model_fails kA a0 v0_1 v0_2 v0_3 v0_4 v0_5 v0_6 v0_7 v0_8 v0_9 v0_10 v0_11 v0_12 v0_13 v0_14 v0_15 v0_16 v0_17 v0_18 v0_19 v0_20 v0_21 v0_22 v0_23 v0_24 v0_25 v0_26 v0_27 v0_28 p1) H := hP
  have hD : va_D A (wd_Model_fails kA a0 v0_1 v0_2 v0_3 v0_4 v0_5 v0_6 v0_7 v0_8 v0_9 v0_10 v0_11 v0_12 v0_13 v0_14 v0_15 v0_16 v0_17 v0_18 v0_19 v0_20 v0_21 v0_22 v0_23 v0_24 v0_25 v0_26 v0_27 v0_28 p1) := hD
  refine lv_iconst (v := 0) hx hb d_Model_fails_5 (by decide) ?_
  have e0 := Option.some.inj hF
  have q0 := Prod.mk.inj e0
  exact W.iret (v := 0) hx hb hr (fun t ht hW => ⟨⟨0, (), rfl, q0.1, by rw [ht, ← q0.2]; exact hP, va_K.moved hW.alike hK, (by rw [← q0.2]; exact hD)⟩, hS.F ht⟩) hS.2.2 d_Model_fails_6 hlocks
-- ===== RepairDeskModel.write(C)Z
abbrev wd_Model_write (kA : Nat → ClassId) (a0 a1 : Nat) (v0_3 v0_4 v0_5 v0_6 v0_7 v0_8 v0_9 v0_10 v0_11 v0_12 v0_13 v0_14 v0_15 v0_16 v0_17 v0_18 v0_19 v0_20 v0_21 v0_22 v0_23 v0_24 v0_25 v0_26 v0_27 v0_28 : Value) (x0_0 : Int32) (x0_2 : Int32) (f1 : (Nat → Int32)) : va_W := [(a0, .inr (9, [.int x0_0, .ref a1, .int x0_2, v0_3, v0_4, v0_5, v0_6, v0_7, v0_8, v0_9, v0_10, v0_11, v0_12, v0_13, v0_14, v0_15, v0_16, v0_17, v0_18, v0_19, v0_20, v0_21, v0_22, v0_23, v0_24, v0_25, v0_26, v0_27, v0_28])), (a1, .inl (kA 2, 10, .inl f1))]
abbrev rm_Model_write : Room := { frames := 0, cells := 0, slots := 0, locals := 0 }
def S_Model_write (p1 : Int32) (x0_0 : Int32) (x0_2 : Int32) (f1 : (Nat → Int32)) : Option (Int32 × Int32 × Int32 × (Nat → Int32)) := (if p1 < 32 then (some (0, 0, x0_2, f1)) else (if 126 < p1 then (some (0, 0, x0_2, f1)) else (if x0_2 < 10 then (if (x0_2 : Int32) < 0 ∨ 10 ≤ (Int32.toNatClampNeg x0_2) then none else (some (1, 0, (x0_2 + 1), (upd f1 (Int32.toNatClampNeg x0_2) (vp_nar .char p1))))) else (some (0, 0, x0_2, f1)))))
set_option maxHeartbeats 4000000 in
set_option maxRecDepth 100000 in
theorem c_Model_write (l : Launch) (dC : Nat → ClassId) (dI : Nat → Nat → Nat) (kA : Nat → ClassId) (sz : Nat) (a0 a1 : Nat) (v0_3 v0_4 v0_5 v0_6 v0_7 v0_8 v0_9 v0_10 v0_11 v0_12 v0_13 v0_14 v0_15 v0_16 v0_17 v0_18 v0_19 v0_20 v0_21 v0_22 v0_23 v0_24 v0_25 v0_26 v0_27 v0_28 : Value) (p1 : Int32) (x0_0 : Int32) (x0_2 : Int32) (f1 : (Nat → Int32)) (r : Int32) (ox0_0 : Int32) (ox0_2 : Int32) (of1 : (Nat → Int32)) (hF : S_Model_write p1 x0_0 x0_2 f1 = some (r, ox0_0, ox0_2, of1)) : Met l y_Model_write w_Model_write rm_Model_write (va_Pc [.ref a0, .int p1] (fun U => U.heap.size = sz ∧ va_P (dC, dI) classes (wd_Model_write kA a0 a1 v0_3 v0_4 v0_5 v0_6 v0_7 v0_8 v0_9 v0_10 v0_11 v0_12 v0_13 v0_14 v0_15 v0_16 v0_17 v0_18 v0_19 v0_20 v0_21 v0_22 v0_23 v0_24 v0_25 v0_26 v0_27 v0_28 x0_0 x0_2 f1) U.heap ∧ va_K (dC, dI) classes (tys_ kA) U ∧ va_D (fun _ => True) (wd_Model_write kA a0 a1 v0_3 v0_4 v0_5 v0_6 v0_7 v0_8 v0_9 v0_10 v0_11 v0_12 v0_13 v0_14 v0_15 v0_16 v0_17 v0_18 v0_19 v0_20 v0_21 v0_22 v0_23 v0_24 v0_25 v0_26 v0_27 v0_28 x0_0 x0_2 f1))) (va_Qi (fun (r1 : Int32) (_ : Unit) => r1 = r) (fun _ t => va_P (dC, dI) classes (wd_Model_write kA a0 a1 v0_3 v0_4 v0_5 v0_6 v0_7 v0_8 v0_9 v0_10 v0_11 v0_12 v0_13 v0_14 v0_15 v0_16 v0_17 v0_18 v0_19 v0_20 v0_21 v0_22 v0_23 v0_24 v0_25 v0_26 v0_27 v0_28 ox0_0 ox0_2 of1) t.heap ∧ va_K (dC, dI) classes (tys_ kA) t ∧ va_D (va_A (wd_Model_write kA a0 a1 v0_3 v0_4 v0_5 v0_6 v0_7 v0_8 v0_9 v0_10 v0_11 v0_12 v0_13 v0_14 v0_15 v0_16 v0_17 v0_18 v0_19 v0_20 v0_21 v0_22 v0_23 v0_24 v0_25 v0_26 v0_27 v0_28 x0_0 x0_2 f1) sz) (wd_Model_write kA a0 a1 v0_3 v0_4 v0_5 v0_6 v0_7 v0_8 v0_9 v0_10 v0_11 v0_12 v0_13 v0_14 v0_15 v0_16 v0_17 v0_18 v0_19 v0_20 v0_21 v0_22 v0_23 v0_24 v0_25 v0_26 v0_27 v0_28 ox0_0 ox0_2 of1)) (va_A (wd_Model_write kA a0 a1 v0_3 v0_4 v0_5 v0_6 v0_7 v0_8 v0_9 v0_10 v0_11 v0_12 v0_13 v0_14 v0_15 v0_16 v0_17 v0_18 v0_19 v0_20 v0_21 v0_22 v0_23 v0_24 v0_25 v0_26 v0_27 v0_28 x0_0 x0_2 f1) sz)) 0 0 (va_A (wd_Model_write kA a0 a1 v0_3 v0_4 v0_5 v0_6 v0_7 v0_8 v0_9 v0_10 v0_11 v0_12 v0_13 v0_14 v0_15 v0_16 v0_17 v0_18 v0_19 v0_20 v0_21 v0_22 v0_23 v0_24 v0_25 v0_26 v0_27 v0_28 x0_0 x0_2 f1) sz) := by
  refine Met.ofW (cc := b_Model_write) (maxL := 2) (ret := some .boolean) (by decide) rfl ?_
  intro p e s m args below meth c s₁ B hml hv
  obtain ⟨rfl, hsz, hP, hK, hD0⟩ := hv
  have hx := B.exec
  have hb := B.bytes
  have hr := B.returns
  have hts := atoms_spec (ws := w_Model_write) B.pre
  have hown : s.vm.findClass R_Model = some m.cls := findClass_of_methodNamed B.named
  have hg := fun (w : Cond) (h : w ∈ gw) => hts w (List.mem_cons_of_mem _ h)
  have hlocks := B.notSynchronized
  subst hsz
  have hD := hD0.self (sz := s.heap.size)
  generalize hAe : va_A (wd_Model_write kA a0 a1 v0_3 v0_4 v0_5 v0_6 v0_7 v0_8 v0_9 v0_10 v0_11 v0_12 v0_13 v0_14 v0_15 v0_16 v0_17 v0_18 v0_19 v0_20 v0_21 v0_22 v0_23 v0_24 v0_25 v0_26 v0_27 v0_28 x0_0 x0_2 f1) s.heap.size = A at hD ⊢
  have hA : ∀ q : Nat, s.heap.size ≤ q → A q := fun q h => by rw [← hAe]; exact Or.inr h
  have hS : va_S A s.heap s.heap [] := va_S.rf
  have hl := lv_entry ([.ref a0, .int p1]) (n := 2) (Nat.le_of_ble_eq_true rfl)
  rw [lg_entry_eq]
  generalize (lg_sl ([.ref a0, .int p1]) ++ List.replicate (2 - (lg_sl ([.ref a0, .int p1])).length) Slot.unset).toArray = ls at hl ⊢
  have hl : lv_has ls 2 [(0, .ref a0), (1, .int p1)] := hl
  unfold S_Model_write at hF
  refine lv_aload_n hx hb d_Model_write_0 rfl (lv_at hl 0 rfl) ?_
  refine lv_iconst (v := 0) hx hb d_Model_write_1 (by decide) ?_
  refine va_put (D := (dC, dI)) (ci := 9) (v := .int 0) (ty := .int) (C := R_Model) (T := F_Model) (N := 29) hx hb hg iw_Model t_Model t_Model_ok n_Model hown hK hP hD hS 0 rfl rfl 0 (by decide) (hg _ gw_259) (fun _ h9 => h9) rfl (by decide +kernel) rfl rfl (Nat.le_of_ble_eq_true rfl) d_Model_write_2 (fun H locs hP hD hS => ?_)
  have hP : va_P (dC, dI) classes (wd_Model_write kA a0 a1 v0_3 v0_4 v0_5 v0_6 v0_7 v0_8 v0_9 v0_10 v0_11 v0_12 v0_13 v0_14 v0_15 v0_16 v0_17 v0_18 v0_19 v0_20 v0_21 v0_22 v0_23 v0_24 v0_25 v0_26 v0_27 v0_28 0 x0_2 f1) H := hP
  have hD : va_D A (wd_Model_write kA a0 a1 v0_3 v0_4 v0_5 v0_6 v0_7 v0_8 v0_9 v0_10 v0_11 v0_12 v0_13 v0_14 v0_15 v0_16 v0_17 v0_18 v0_19 v0_20 v0_21 v0_22 v0_23 v0_24 v0_25 v0_26 v0_27 v0_28 0 x0_2 f1) := hD
  refine lv_iload_n hx hb d_Model_write_5 rfl (lv_at hl 1 rfl) ?_
  refine lv_bipush (v := 32) hx hb d_Model_write_6 (by decide) ?_
  refine lv_icmp_lt (tgt := 26) hx hb d_Model_write_8 (by decide) (fun c_1 => ?_) (fun c_1 => ?_)
  · rw [if_pos c_1] at hF
    refine lv_iconst (v := 0) hx hb d_Model_write_26 (by decide) ?_
    have e0 := Option.some.inj hF
    have q0 := Prod.mk.inj e0
    have q1 := Prod.mk.inj q0.2
    have q2 := Prod.mk.inj q1.2
    exact W.zret (v := 0) hx hb hr rfl (fun t ht hW => ⟨⟨0, (), rfl, q0.1, by rw [ht, ← q1.1, ← q2.1, ← q2.2]; exact hP, va_K.moved hW.alike hK, (by rw [← q1.1, ← q2.1, ← q2.2]; exact hD)⟩, hS.F ht⟩) hS.2.2 d_Model_write_27 hlocks
  · rw [if_neg c_1] at hF
    refine lv_iload_n hx hb d_Model_write_11 rfl (lv_at hl 1 rfl) ?_
    refine lv_bipush (v := 126) hx hb d_Model_write_12 (by decide) ?_
    refine lv_icmp_gt (tgt := 26) hx hb d_Model_write_14 (by decide) (fun c_2 => ?_) (fun c_2 => ?_)
    · rw [if_pos c_2] at hF
      refine lv_iconst (v := 0) hx hb d_Model_write_26 (by decide) ?_
      have e0 := Option.some.inj hF
      have q0 := Prod.mk.inj e0
      have q1 := Prod.mk.inj q0.2
      have q2 := Prod.mk.inj q1.2
      exact W.zret (v := 0) hx hb hr rfl (fun t ht hW => ⟨⟨0, (), rfl, q0.1, by rw [ht, ← q1.1, ← q2.1, ← q2.2]; exact hP, va_K.moved hW.alike hK, (by rw [← q1.1, ← q2.1, ← q2.2]; exact hD)⟩, hS.F ht⟩) hS.2.2 d_Model_write_27 hlocks
    · rw [if_neg c_2] at hF
      refine lv_aload_n hx hb d_Model_write_17 rfl (lv_at hl 0 rfl) ?_
      refine va_get (D := (dC, dI)) (ci := 9) (v := .int x0_2) (C := R_Model) (T := F_Model) (N := 29) hx hb hg iw_Model hown hK hP 0 rfl rfl 2 (by decide) (hg _ gw_260) (fun _ h9 => h9) rfl d_Model_write_18 ?_
      refine lv_bipush (v := 10) hx hb d_Model_write_21 (by decide) ?_
      refine lv_icmp_lt (tgt := 28) hx hb d_Model_write_23 (by decide) (fun c_3 => ?_) (fun c_3 => ?_)
      · rw [if_pos c_3] at hF
        refine lv_aload_n hx hb d_Model_write_28 rfl (lv_at hl 0 rfl) ?_
        refine va_get (D := (dC, dI)) (ci := 9) (v := .ref a1) (C := R_Model) (T := F_Model) (N := 29) hx hb hg iw_Model hown hK hP 0 rfl rfl 1 (by decide) (hg _ gw_261) (fun _ h9 => h9) rfl d_Model_write_29 ?_
        refine lv_aload_n hx hb d_Model_write_32 rfl (lv_at hl 0 rfl) ?_
        refine va_get (D := (dC, dI)) (ci := 9) (v := .int x0_2) (C := R_Model) (T := F_Model) (N := 29) hx hb hg iw_Model hown hK hP 0 rfl rfl 2 (by decide) (hg _ gw_260) (fun _ h9 => h9) rfl d_Model_write_33 ?_
        refine lv_iload_n hx hb d_Model_write_36 rfl (lv_at hl 1 rfl) ?_
        obtain ⟨h_4, hF⟩ := rd_chk hF
        refine va_cast hx hb hK hP hD hS 1 2 rfl rfl h_4 d_Model_write_37 (fun H locs hP hD hS => ?_)
        have hP : va_P (dC, dI) classes (wd_Model_write kA a0 a1 v0_3 v0_4 v0_5 v0_6 v0_7 v0_8 v0_9 v0_10 v0_11 v0_12 v0_13 v0_14 v0_15 v0_16 v0_17 v0_18 v0_19 v0_20 v0_21 v0_22 v0_23 v0_24 v0_25 v0_26 v0_27 v0_28 0 x0_2 (upd f1 (Int32.toNatClampNeg x0_2) (vp_nar .char p1))) H := hP
        have hD : va_D A (wd_Model_write kA a0 a1 v0_3 v0_4 v0_5 v0_6 v0_7 v0_8 v0_9 v0_10 v0_11 v0_12 v0_13 v0_14 v0_15 v0_16 v0_17 v0_18 v0_19 v0_20 v0_21 v0_22 v0_23 v0_24 v0_25 v0_26 v0_27 v0_28 0 x0_2 (upd f1 (Int32.toNatClampNeg x0_2) (vp_nar .char p1))) := hD
        refine lv_aload_n hx hb d_Model_write_38 rfl (lv_at hl 0 rfl) ?_
        refine lv_dup hx hb d_Model_write_39 rfl ?_
        refine va_get (D := (dC, dI)) (ci := 9) (v := .int x0_2) (C := R_Model) (T := F_Model) (N := 29) hx hb hg iw_Model hown hK hP 0 rfl rfl 2 (by decide) (hg _ gw_260) (fun _ h9 => h9) rfl d_Model_write_40 ?_
        refine lv_iconst (v := 1) hx hb d_Model_write_43 (by decide) ?_
        refine lv_iadd hx hb d_Model_write_44 ?_
        refine va_put (D := (dC, dI)) (ci := 9) (v := .int (x0_2 + 1)) (ty := .int) (C := R_Model) (T := F_Model) (N := 29) hx hb hg iw_Model t_Model t_Model_ok n_Model hown hK hP hD hS 0 rfl rfl 2 (by decide) (hg _ gw_260) (fun _ h9 => h9) rfl (by decide +kernel) rfl rfl (Nat.le_of_ble_eq_true rfl) d_Model_write_45 (fun H locs hP hD hS => ?_)
        have hP : va_P (dC, dI) classes (wd_Model_write kA a0 a1 v0_3 v0_4 v0_5 v0_6 v0_7 v0_8 v0_9 v0_10 v0_11 v0_12 v0_13 v0_14 v0_15 v0_16 v0_17 v0_18 v0_19 v0_20 v0_21 v0_22 v0_23 v0_24 v0_25 v0_26 v0_27 v0_28 0 (x0_2 + 1) (upd f1 (Int32.toNatClampNeg x0_2) (vp_nar .char p1))) H := hP
        have hD : va_D A (wd_Model_write kA a0 a1 v0_3 v0_4 v0_5 v0_6 v0_7 v0_8 v0_9 v0_10 v0_11 v0_12 v0_13 v0_14 v0_15 v0_16 v0_17 v0_18 v0_19 v0_20 v0_21 v0_22 v0_23 v0_24 v0_25 v0_26 v0_27 v0_28 0 (x0_2 + 1) (upd f1 (Int32.toNatClampNeg x0_2) (vp_nar .char p1))) := hD
        refine lv_iconst (v := 1) hx hb d_Model_write_48 (by decide) ?_
        have e0 := Option.some.inj hF
        have q0 := Prod.mk.inj e0
        have q1 := Prod.mk.inj q0.2
        have q2 := Prod.mk.inj q1.2
        exact W.zret (v := 1) hx hb hr rfl (fun t ht hW => ⟨⟨1, (), rfl, q0.1, by rw [ht, ← q1.1, ← q2.1, ← q2.2]; exact hP, va_K.moved hW.alike hK, (by rw [← q1.1, ← q2.1, ← q2.2]; exact hD)⟩, hS.F ht⟩) hS.2.2 d_Model_write_49 hlocks
      · rw [if_neg c_3] at hF
        refine lv_iconst (v := 0) hx hb d_Model_write_26 (by decide) ?_
        have e0 := Option.some.inj hF
        have q0 := Prod.mk.inj e0
        have q1 := Prod.mk.inj q0.2
        have q2 := Prod.mk.inj q1.2
        exact W.zret (v := 0) hx hb hr rfl (fun t ht hW => ⟨⟨0, (), rfl, q0.1, by rw [ht, ← q1.1, ← q2.1, ← q2.2]; exact hP, va_K.moved hW.alike hK, (by rw [← q1.1, ← q2.1, ← q2.2]; exact hD)⟩, hS.F ht⟩) hS.2.2 d_Model_write_27 hlocks
-- ===== RepairDeskModel.isLetter(C)Z
abbrev wd_Model_isLetter (kA : Nat → ClassId) : va_W := []
abbrev rm_Model_isLetter : Room := { frames := 0, cells := 0, slots := 0, locals := 0 }
def S_Model_isLetter (p0 : Int32) : Option (Int32) := (if p0 < 97 then (some 0) else (if 102 < p0 then (some 0) else (some 1)))
set_option maxHeartbeats 4000000 in
set_option maxRecDepth 100000 in
theorem c_Model_isLetter (l : Launch) (dC : Nat → ClassId) (dI : Nat → Nat → Nat) (kA : Nat → ClassId) (sz : Nat) (p0 : Int32) (r : Int32) (hF : S_Model_isLetter p0 = some r) : Met l y_Model_isLetter w_Model_isLetter rm_Model_isLetter (va_Pc [.int p0] (fun U => U.heap.size = sz ∧ va_P (dC, dI) classes (wd_Model_isLetter kA ) U.heap ∧ va_K (dC, dI) classes (tys_ kA) U ∧ va_D (fun _ => True) (wd_Model_isLetter kA ))) (va_Qi (fun (r1 : Int32) (_ : Unit) => r1 = r) (fun _ t => va_P (dC, dI) classes (wd_Model_isLetter kA ) t.heap ∧ va_K (dC, dI) classes (tys_ kA) t ∧ va_D (va_A (wd_Model_isLetter kA ) sz) (wd_Model_isLetter kA )) (va_A (wd_Model_isLetter kA ) sz)) 0 0 (va_A (wd_Model_isLetter kA ) sz) := by
  refine Met.ofW (cc := b_Model_isLetter) (maxL := 1) (ret := some .boolean) (by decide) rfl ?_
  intro p e s m args below meth c s₁ B hml hv
  obtain ⟨rfl, hsz, hP, hK, hD0⟩ := hv
  have hx := B.exec
  have hb := B.bytes
  have hr := B.returns
  have hts := atoms_spec (ws := w_Model_isLetter) B.pre
  have hown : s.vm.findClass R_Model = some m.cls := findClass_of_methodNamed B.named
  have hg := fun (w : Cond) (h : w ∈ gw) => hts w (List.mem_cons_of_mem _ h)
  have hlocks := B.notSynchronized
  subst hsz
  have hD := hD0.self (sz := s.heap.size)
  generalize hAe : va_A (wd_Model_isLetter kA ) s.heap.size = A at hD ⊢
  have hA : ∀ q : Nat, s.heap.size ≤ q → A q := fun q h => by rw [← hAe]; exact Or.inr h
  have hS : va_S A s.heap s.heap [] := va_S.rf
  have hl := lv_entry ([.int p0]) (n := 1) (Nat.le_of_ble_eq_true rfl)
  rw [lg_entry_eq]
  generalize (lg_sl ([.int p0]) ++ List.replicate (1 - (lg_sl ([.int p0])).length) Slot.unset).toArray = ls at hl ⊢
  have hl : lv_has ls 1 [(0, .int p0)] := hl
  unfold S_Model_isLetter at hF
  refine lv_iload_n hx hb d_Model_isLetter_0 rfl (lv_at hl 0 rfl) ?_
  refine lv_bipush (v := 97) hx hb d_Model_isLetter_1 (by decide) ?_
  refine lv_icmp_lt (tgt := 16) hx hb d_Model_isLetter_3 (by decide) (fun c_1 => ?_) (fun c_1 => ?_)
  · rw [if_pos c_1] at hF
    refine lv_iconst (v := 0) hx hb d_Model_isLetter_16 (by decide) ?_
    have e0 := Option.some.inj hF
    exact W.zret (v := 0) hx hb hr rfl (fun t ht hW => ⟨⟨0, (), rfl, e0, by rw [ht]; exact hP, va_K.moved hW.alike hK, (by exact hD)⟩, hS.F ht⟩) hS.2.2 d_Model_isLetter_17 hlocks
  · rw [if_neg c_1] at hF
    refine lv_iload_n hx hb d_Model_isLetter_6 rfl (lv_at hl 0 rfl) ?_
    refine lv_bipush (v := 102) hx hb d_Model_isLetter_7 (by decide) ?_
    refine lv_icmp_gt (tgt := 16) hx hb d_Model_isLetter_9 (by decide) (fun c_2 => ?_) (fun c_2 => ?_)
    · rw [if_pos c_2] at hF
      refine lv_iconst (v := 0) hx hb d_Model_isLetter_16 (by decide) ?_
      have e0 := Option.some.inj hF
      exact W.zret (v := 0) hx hb hr rfl (fun t ht hW => ⟨⟨0, (), rfl, e0, by rw [ht]; exact hP, va_K.moved hW.alike hK, (by exact hD)⟩, hS.F ht⟩) hS.2.2 d_Model_isLetter_17 hlocks
    · rw [if_neg c_2] at hF
      refine lv_iconst (v := 1) hx hb d_Model_isLetter_12 (by decide) ?_
      refine lv_goto (tgt := 17) hx hb d_Model_isLetter_13 (by decide) ?_
      have e0 := Option.some.inj hF
      exact W.zret (v := 1) hx hb hr rfl (fun t ht hW => ⟨⟨1, (), rfl, e0, by rw [ht]; exact hP, va_K.moved hW.alike hK, (by exact hD)⟩, hS.F ht⟩) hS.2.2 d_Model_isLetter_17 hlocks
-- ===== RepairDeskModel.isName(C)Z
abbrev wd_Model_isName (kA : Nat → ClassId) : va_W := []
abbrev rm_Model_isName : Room := { frames := 0, cells := 0, slots := 0, locals := 0 }
def S_Model_isName (p0 : Int32) : Option (Int32) := (if p0 < 65 then (some 0) else (if 70 < p0 then (some 0) else (some 1)))
set_option maxHeartbeats 4000000 in
set_option maxRecDepth 100000 in
theorem c_Model_isName (l : Launch) (dC : Nat → ClassId) (dI : Nat → Nat → Nat) (kA : Nat → ClassId) (sz : Nat) (p0 : Int32) (r : Int32) (hF : S_Model_isName p0 = some r) : Met l y_Model_isName w_Model_isName rm_Model_isName (va_Pc [.int p0] (fun U => U.heap.size = sz ∧ va_P (dC, dI) classes (wd_Model_isName kA ) U.heap ∧ va_K (dC, dI) classes (tys_ kA) U ∧ va_D (fun _ => True) (wd_Model_isName kA ))) (va_Qi (fun (r1 : Int32) (_ : Unit) => r1 = r) (fun _ t => va_P (dC, dI) classes (wd_Model_isName kA ) t.heap ∧ va_K (dC, dI) classes (tys_ kA) t ∧ va_D (va_A (wd_Model_isName kA ) sz) (wd_Model_isName kA )) (va_A (wd_Model_isName kA ) sz)) 0 0 (va_A (wd_Model_isName kA ) sz) := by
  refine Met.ofW (cc := b_Model_isName) (maxL := 1) (ret := some .boolean) (by decide) rfl ?_
  intro p e s m args below meth c s₁ B hml hv
  obtain ⟨rfl, hsz, hP, hK, hD0⟩ := hv
  have hx := B.exec
  have hb := B.bytes
  have hr := B.returns
  have hts := atoms_spec (ws := w_Model_isName) B.pre
  have hown : s.vm.findClass R_Model = some m.cls := findClass_of_methodNamed B.named
  have hg := fun (w : Cond) (h : w ∈ gw) => hts w (List.mem_cons_of_mem _ h)
  have hlocks := B.notSynchronized
  subst hsz
  have hD := hD0.self (sz := s.heap.size)
  generalize hAe : va_A (wd_Model_isName kA ) s.heap.size = A at hD ⊢
  have hA : ∀ q : Nat, s.heap.size ≤ q → A q := fun q h => by rw [← hAe]; exact Or.inr h
  have hS : va_S A s.heap s.heap [] := va_S.rf
  have hl := lv_entry ([.int p0]) (n := 1) (Nat.le_of_ble_eq_true rfl)
  rw [lg_entry_eq]
  generalize (lg_sl ([.int p0]) ++ List.replicate (1 - (lg_sl ([.int p0])).length) Slot.unset).toArray = ls at hl ⊢
  have hl : lv_has ls 1 [(0, .int p0)] := hl
  unfold S_Model_isName at hF
  refine lv_iload_n hx hb d_Model_isName_0 rfl (lv_at hl 0 rfl) ?_
  refine lv_bipush (v := 65) hx hb d_Model_isName_1 (by decide) ?_
  refine lv_icmp_lt (tgt := 16) hx hb d_Model_isName_3 (by decide) (fun c_1 => ?_) (fun c_1 => ?_)
  · rw [if_pos c_1] at hF
    refine lv_iconst (v := 0) hx hb d_Model_isName_16 (by decide) ?_
    have e0 := Option.some.inj hF
    exact W.zret (v := 0) hx hb hr rfl (fun t ht hW => ⟨⟨0, (), rfl, e0, by rw [ht]; exact hP, va_K.moved hW.alike hK, (by exact hD)⟩, hS.F ht⟩) hS.2.2 d_Model_isName_17 hlocks
  · rw [if_neg c_1] at hF
    refine lv_iload_n hx hb d_Model_isName_6 rfl (lv_at hl 0 rfl) ?_
    refine lv_bipush (v := 70) hx hb d_Model_isName_7 (by decide) ?_
    refine lv_icmp_gt (tgt := 16) hx hb d_Model_isName_9 (by decide) (fun c_2 => ?_) (fun c_2 => ?_)
    · rw [if_pos c_2] at hF
      refine lv_iconst (v := 0) hx hb d_Model_isName_16 (by decide) ?_
      have e0 := Option.some.inj hF
      exact W.zret (v := 0) hx hb hr rfl (fun t ht hW => ⟨⟨0, (), rfl, e0, by rw [ht]; exact hP, va_K.moved hW.alike hK, (by exact hD)⟩, hS.F ht⟩) hS.2.2 d_Model_isName_17 hlocks
    · rw [if_neg c_2] at hF
      refine lv_iconst (v := 1) hx hb d_Model_isName_12 (by decide) ?_
      refine lv_goto (tgt := 17) hx hb d_Model_isName_13 (by decide) ?_
      have e0 := Option.some.inj hF
      exact W.zret (v := 1) hx hb hr rfl (fun t ht hW => ⟨⟨1, (), rfl, e0, by rw [ht]; exact hP, va_K.moved hW.alike hK, (by exact hD)⟩, hS.F ht⟩) hS.2.2 d_Model_isName_17 hlocks
-- ===== RepairDeskModel.forget()V
abbrev wd_Model_forget (kA : Nat → ClassId) (a0 : Nat) (v0_0 v0_1 v0_2 v0_3 v0_4 v0_5 v0_6 v0_7 v0_8 v0_9 v0_10 v0_11 v0_12 v0_13 v0_14 v0_15 v0_16 v0_17 v0_18 v0_19 v0_20 v0_21 v0_24 v0_25 v0_26 v0_27 v0_28 : Value) (x0_22 : Int32) (x0_23 : Int32) : va_W := [(a0, .inr (9, [v0_0, v0_1, v0_2, v0_3, v0_4, v0_5, v0_6, v0_7, v0_8, v0_9, v0_10, v0_11, v0_12, v0_13, v0_14, v0_15, v0_16, v0_17, v0_18, v0_19, v0_20, v0_21, .int x0_22, .int x0_23, v0_24, v0_25, v0_26, v0_27, v0_28]))]
abbrev rm_Model_forget : Room := { frames := 0, cells := 0, slots := 0, locals := 0 }
def S_Model_forget (x0_22 : Int32) (x0_23 : Int32) : Option (Int32 × Int32) := (some (0, 0))
set_option maxHeartbeats 4000000 in
set_option maxRecDepth 100000 in
theorem c_Model_forget (l : Launch) (dC : Nat → ClassId) (dI : Nat → Nat → Nat) (kA : Nat → ClassId) (sz : Nat) (a0 : Nat) (v0_0 v0_1 v0_2 v0_3 v0_4 v0_5 v0_6 v0_7 v0_8 v0_9 v0_10 v0_11 v0_12 v0_13 v0_14 v0_15 v0_16 v0_17 v0_18 v0_19 v0_20 v0_21 v0_24 v0_25 v0_26 v0_27 v0_28 : Value) (x0_22 : Int32) (x0_23 : Int32) (ox0_22 : Int32) (ox0_23 : Int32) (hF : S_Model_forget x0_22 x0_23 = some (ox0_22, ox0_23)) : Met l y_Model_forget w_Model_forget rm_Model_forget (va_Pc [.ref a0] (fun U => U.heap.size = sz ∧ va_P (dC, dI) classes (wd_Model_forget kA a0 v0_0 v0_1 v0_2 v0_3 v0_4 v0_5 v0_6 v0_7 v0_8 v0_9 v0_10 v0_11 v0_12 v0_13 v0_14 v0_15 v0_16 v0_17 v0_18 v0_19 v0_20 v0_21 v0_24 v0_25 v0_26 v0_27 v0_28 x0_22 x0_23) U.heap ∧ va_K (dC, dI) classes (tys_ kA) U ∧ va_D (fun _ => True) (wd_Model_forget kA a0 v0_0 v0_1 v0_2 v0_3 v0_4 v0_5 v0_6 v0_7 v0_8 v0_9 v0_10 v0_11 v0_12 v0_13 v0_14 v0_15 v0_16 v0_17 v0_18 v0_19 v0_20 v0_21 v0_24 v0_25 v0_26 v0_27 v0_28 x0_22 x0_23))) (va_Qv (fun (_ : Unit) => True) (fun _ t => va_P (dC, dI) classes (wd_Model_forget kA a0 v0_0 v0_1 v0_2 v0_3 v0_4 v0_5 v0_6 v0_7 v0_8 v0_9 v0_10 v0_11 v0_12 v0_13 v0_14 v0_15 v0_16 v0_17 v0_18 v0_19 v0_20 v0_21 v0_24 v0_25 v0_26 v0_27 v0_28 ox0_22 ox0_23) t.heap ∧ va_K (dC, dI) classes (tys_ kA) t ∧ va_D (va_A (wd_Model_forget kA a0 v0_0 v0_1 v0_2 v0_3 v0_4 v0_5 v0_6 v0_7 v0_8 v0_9 v0_10 v0_11 v0_12 v0_13 v0_14 v0_15 v0_16 v0_17 v0_18 v0_19 v0_20 v0_21 v0_24 v0_25 v0_26 v0_27 v0_28 x0_22 x0_23) sz) (wd_Model_forget kA a0 v0_0 v0_1 v0_2 v0_3 v0_4 v0_5 v0_6 v0_7 v0_8 v0_9 v0_10 v0_11 v0_12 v0_13 v0_14 v0_15 v0_16 v0_17 v0_18 v0_19 v0_20 v0_21 v0_24 v0_25 v0_26 v0_27 v0_28 ox0_22 ox0_23)) (va_A (wd_Model_forget kA a0 v0_0 v0_1 v0_2 v0_3 v0_4 v0_5 v0_6 v0_7 v0_8 v0_9 v0_10 v0_11 v0_12 v0_13 v0_14 v0_15 v0_16 v0_17 v0_18 v0_19 v0_20 v0_21 v0_24 v0_25 v0_26 v0_27 v0_28 x0_22 x0_23) sz)) 0 0 (va_A (wd_Model_forget kA a0 v0_0 v0_1 v0_2 v0_3 v0_4 v0_5 v0_6 v0_7 v0_8 v0_9 v0_10 v0_11 v0_12 v0_13 v0_14 v0_15 v0_16 v0_17 v0_18 v0_19 v0_20 v0_21 v0_24 v0_25 v0_26 v0_27 v0_28 x0_22 x0_23) sz) := by
  refine Met.ofW (cc := b_Model_forget) (maxL := 1) (ret := none) (by decide) rfl ?_
  intro p e s m args below meth c s₁ B hml hv
  obtain ⟨rfl, hsz, hP, hK, hD0⟩ := hv
  have hx := B.exec
  have hb := B.bytes
  have hr := B.returns
  have hts := atoms_spec (ws := w_Model_forget) B.pre
  have hown : s.vm.findClass R_Model = some m.cls := findClass_of_methodNamed B.named
  have hg := fun (w : Cond) (h : w ∈ gw) => hts w (List.mem_cons_of_mem _ h)
  have hlocks := B.notSynchronized
  subst hsz
  have hD := hD0.self (sz := s.heap.size)
  generalize hAe : va_A (wd_Model_forget kA a0 v0_0 v0_1 v0_2 v0_3 v0_4 v0_5 v0_6 v0_7 v0_8 v0_9 v0_10 v0_11 v0_12 v0_13 v0_14 v0_15 v0_16 v0_17 v0_18 v0_19 v0_20 v0_21 v0_24 v0_25 v0_26 v0_27 v0_28 x0_22 x0_23) s.heap.size = A at hD ⊢
  have hA : ∀ q : Nat, s.heap.size ≤ q → A q := fun q h => by rw [← hAe]; exact Or.inr h
  have hS : va_S A s.heap s.heap [] := va_S.rf
  have hl := lv_entry ([.ref a0]) (n := 1) (Nat.le_of_ble_eq_true rfl)
  rw [lg_entry_eq]
  generalize (lg_sl ([.ref a0]) ++ List.replicate (1 - (lg_sl ([.ref a0])).length) Slot.unset).toArray = ls at hl ⊢
  have hl : lv_has ls 1 [(0, .ref a0)] := hl
  unfold S_Model_forget at hF
  refine lv_aload_n hx hb d_Model_forget_0 rfl (lv_at hl 0 rfl) ?_
  refine lv_iconst (v := 0) hx hb d_Model_forget_1 (by decide) ?_
  refine va_put (D := (dC, dI)) (ci := 9) (v := .int 0) (ty := .int) (C := R_Model) (T := F_Model) (N := 29) hx hb hg iw_Model t_Model t_Model_ok n_Model hown hK hP hD hS 0 rfl rfl 22 (by decide) (hg _ gw_262) (fun _ h9 => h9) rfl (by decide +kernel) rfl rfl (Nat.le_of_ble_eq_true rfl) d_Model_forget_2 (fun H locs hP hD hS => ?_)
  have hP : va_P (dC, dI) classes (wd_Model_forget kA a0 v0_0 v0_1 v0_2 v0_3 v0_4 v0_5 v0_6 v0_7 v0_8 v0_9 v0_10 v0_11 v0_12 v0_13 v0_14 v0_15 v0_16 v0_17 v0_18 v0_19 v0_20 v0_21 v0_24 v0_25 v0_26 v0_27 v0_28 0 x0_23) H := hP
  have hD : va_D A (wd_Model_forget kA a0 v0_0 v0_1 v0_2 v0_3 v0_4 v0_5 v0_6 v0_7 v0_8 v0_9 v0_10 v0_11 v0_12 v0_13 v0_14 v0_15 v0_16 v0_17 v0_18 v0_19 v0_20 v0_21 v0_24 v0_25 v0_26 v0_27 v0_28 0 x0_23) := hD
  refine lv_aload_n hx hb d_Model_forget_5 rfl (lv_at hl 0 rfl) ?_
  refine lv_iconst (v := 0) hx hb d_Model_forget_6 (by decide) ?_
  refine va_put (D := (dC, dI)) (ci := 9) (v := .int 0) (ty := .int) (C := R_Model) (T := F_Model) (N := 29) hx hb hg iw_Model t_Model t_Model_ok n_Model hown hK hP hD hS 0 rfl rfl 23 (by decide) (hg _ gw_263) (fun _ h9 => h9) rfl (by decide +kernel) rfl rfl (Nat.le_of_ble_eq_true rfl) d_Model_forget_7 (fun H locs hP hD hS => ?_)
  have hP : va_P (dC, dI) classes (wd_Model_forget kA a0 v0_0 v0_1 v0_2 v0_3 v0_4 v0_5 v0_6 v0_7 v0_8 v0_9 v0_10 v0_11 v0_12 v0_13 v0_14 v0_15 v0_16 v0_17 v0_18 v0_19 v0_20 v0_21 v0_24 v0_25 v0_26 v0_27 v0_28 0 0) H := hP
  have hD : va_D A (wd_Model_forget kA a0 v0_0 v0_1 v0_2 v0_3 v0_4 v0_5 v0_6 v0_7 v0_8 v0_9 v0_10 v0_11 v0_12 v0_13 v0_14 v0_15 v0_16 v0_17 v0_18 v0_19 v0_20 v0_21 v0_24 v0_25 v0_26 v0_27 v0_28 0 0) := hD
  have e0 := Option.some.inj hF
  have q0 := Prod.mk.inj e0
  exact W.vret hx hb hr (fun t ht hW => ⟨⟨(), rfl, trivial, by rw [ht, ← q0.1, ← q0.2]; exact hP, va_K.moved hW.alike hK, (by rw [← q0.1, ← q0.2]; exact hD)⟩, hS.F ht⟩) hS.2.2 d_Model_forget_10 hlocks
-- ===== RepairDeskModel.rule()I
abbrev wd_Model_rule (kA : Nat → ClassId) (a0 a1 a2 a3 a4 a5 : Nat) (v0_7 v0_8 v0_9 v0_10 v0_11 v0_13 v0_14 v0_15 v0_16 v0_17 v0_19 v0_20 v0_21 v0_24 v0_25 v0_26 v0_27 v0_28 : Value) (x0_0 : Int32) (x0_2 : Int32) (x0_3 : Int32) (x0_12 : Int32) (x0_22 : Int32) (x0_23 : Int32) (f1 : (Nat → Int32)) (f2 : (Nat → Int32)) (f3 : (Nat → Int32)) (f4 : (Nat → Int32)) (f5 : (Nat → Int32)) : va_W := [(a0, .inr (9, [.int x0_0, .ref a5, .int x0_2, .int x0_3, .ref a2, .ref a3, .ref a4, v0_7, v0_8, v0_9, v0_10, v0_11, .int x0_12, v0_13, v0_14, v0_15, v0_16, v0_17, .ref a1, v0_19, v0_20, v0_21, .int x0_22, .int x0_23, v0_24, v0_25, v0_26, v0_27, v0_28])), (a1, .inl (kA 0, 24, .inl f1)), (a2, .inl (kA 0, 11, .inl f2)), (a3, .inl (kA 0, 11, .inl f3)), (a4, .inl (kA 0, 44, .inl f4)), (a5, .inl (kA 2, 10, .inl f5))]
abbrev rm_Model_rule : Room := { frames := 1, cells := 0, slots := 0, locals := 21 }
def B_Model_rule_0 (K : Nat → Int32 → Int32 → Int32 → Int32 → Int32 → Int32 → Int32 → Int32 → Int32 → Int32 → Int32 → (Nat → Int32) → (Nat → Int32) → (Nat → Int32) → (Nat → Int32) → Option (Int32 × Int32 × Int32 × Int32 × Int32 × Int32 × Int32 × (Nat → Int32) × (Nat → Int32) × (Nat → Int32) × (Nat → Int32))) (f5 : (Nat → Int32)) (l1 : Int32) (l2 : Int32) (l3 : Int32) (l4 : Int32) (l5 : Int32) (x0_0 : Int32) (x0_2 : Int32) (x0_3 : Int32) (x0_12 : Int32) (x0_22 : Int32) (x0_23 : Int32) (f1 : (Nat → Int32)) (f2 : (Nat → Int32)) (f3 : (Nat → Int32)) (f4 : (Nat → Int32)) : Option (Int32 × Int32 × Int32 × Int32 × Int32 × Int32 × Int32 × (Nat → Int32) × (Nat → Int32) × (Nat → Int32) × (Nat → Int32)) := (if l1 ≤ l3 then (if ¬ l2 = 0 then (K 1 l1 l2 2 0 0 x0_0 x0_2 x0_3 x0_12 x0_22 x0_23 f1 f2 f3 f4) else ((S_Model_fails 1 x0_0).bind fun u_3 => (some (u_3.1, u_3.2, x0_2, x0_3, x0_12, x0_22, x0_23, f1, f2, f3, f4)))) else (if l2 = 0 then (if ¬ l2 = 0 then (K 1 l1 l2 2 0 0 x0_0 x0_2 x0_3 x0_12 x0_22 x0_23 f1 f2 f3 f4) else ((S_Model_fails 1 x0_0).bind fun u_6 => (some (u_6.1, u_6.2, x0_2, x0_3, x0_12, x0_22, x0_23, f1, f2, f3, f4)))) else (if (l3 : Int32) < 0 ∨ 10 ≤ (Int32.toNatClampNeg l3) then none else ((S_Model_isLetter (f5 (Int32.toNatClampNeg l3))).bind fun u_8 => (if ¬ u_8 = 0 then (K 0 l1 1 (l3 + 1) 0 0 x0_0 x0_2 x0_3 x0_12 x0_22 x0_23 f1 f2 f3 f4) else (if (l3 : Int32) < 0 ∨ 10 ≤ (Int32.toNatClampNeg l3) then none else ((S_Model_isName (f5 (Int32.toNatClampNeg l3))).bind fun u_11 => (if u_11 = 0 then (K 0 l1 0 (l3 + 1) 0 0 x0_0 x0_2 x0_3 x0_12 x0_22 x0_23 f1 f2 f3 f4) else (K 0 l1 1 (l3 + 1) 0 0 x0_0 x0_2 x0_3 x0_12 x0_22 x0_23 f1 f2 f3 f4)))))))))
def B_Model_rule_1 (K : Nat → Int32 → Int32 → Int32 → Int32 → Int32 → Int32 → Int32 → Int32 → Int32 → Int32 → Int32 → (Nat → Int32) → (Nat → Int32) → (Nat → Int32) → (Nat → Int32) → Option (Int32 × Int32 × Int32 × Int32 × Int32 × Int32 × Int32 × (Nat → Int32) × (Nat → Int32) × (Nat → Int32) × (Nat → Int32))) (f5 : (Nat → Int32)) (l1 : Int32) (l2 : Int32) (l3 : Int32) (l4 : Int32) (l5 : Int32) (x0_0 : Int32) (x0_2 : Int32) (x0_3 : Int32) (x0_12 : Int32) (x0_22 : Int32) (x0_23 : Int32) (f1 : (Nat → Int32)) (f2 : (Nat → Int32)) (f3 : (Nat → Int32)) (f4 : (Nat → Int32)) : Option (Int32 × Int32 × Int32 × Int32 × Int32 × Int32 × Int32 × (Nat → Int32) × (Nat → Int32) × (Nat → Int32) × (Nat → Int32)) := (if l1 ≤ l3 then (K 2 l1 l2 0 0 0 x0_0 x0_2 x0_3 x0_12 x0_22 x0_23 f1 f2 f3 f4) else (if (l3 : Int32) < 0 ∨ 10 ≤ (Int32.toNatClampNeg l3) then none else ((S_Model_isLetter (f5 (Int32.toNatClampNeg l3))).bind fun u_15 => (if u_15 = 0 then (if (l3 : Int32) < 0 ∨ 10 ≤ (Int32.toNatClampNeg l3) then none else (if ((l3 - 2) : Int32) < 0 ∨ 24 ≤ (Int32.toNatClampNeg (l3 - 2)) then none else (K 1 l1 l2 (l3 + 1) 0 0 x0_0 x0_2 x0_3 x0_12 x0_22 x0_23 (upd f1 (Int32.toNatClampNeg (l3 - 2)) ((6 + (f5 (Int32.toNatClampNeg l3))) - 65)) f2 f3 f4))) else (if (l3 : Int32) < 0 ∨ 10 ≤ (Int32.toNatClampNeg l3) then none else (if ((l3 - 2) : Int32) < 0 ∨ 24 ≤ (Int32.toNatClampNeg (l3 - 2)) then none else (K 1 l1 l2 (l3 + 1) 0 0 x0_0 x0_2 x0_3 x0_12 x0_22 x0_23 (upd f1 (Int32.toNatClampNeg (l3 - 2)) ((f5 (Int32.toNatClampNeg l3)) - 97)) f2 f3 f4)))))))
def B_Model_rule_2 (K : Nat → Int32 → Int32 → Int32 → Int32 → Int32 → Int32 → Int32 → Int32 → Int32 → Int32 → Int32 → (Nat → Int32) → (Nat → Int32) → (Nat → Int32) → (Nat → Int32) → Option (Int32 × Int32 × Int32 × Int32 × Int32 × Int32 × Int32 × (Nat → Int32) × (Nat → Int32) × (Nat → Int32) × (Nat → Int32))) (f5 : (Nat → Int32)) (l1 : Int32) (l2 : Int32) (l3 : Int32) (l4 : Int32) (l5 : Int32) (x0_0 : Int32) (x0_2 : Int32) (x0_3 : Int32) (x0_12 : Int32) (x0_22 : Int32) (x0_23 : Int32) (f1 : (Nat → Int32)) (f2 : (Nat → Int32)) (f3 : (Nat → Int32)) (f4 : (Nat → Int32)) : Option (Int32 × Int32 × Int32 × Int32 × Int32 × Int32 × Int32 × (Nat → Int32) × (Nat → Int32) × (Nat → Int32) × (Nat → Int32)) := (if x0_3 ≤ l3 then (if ¬ x0_3 = 10 then (if (0 : Int32) < 0 ∨ 10 ≤ (Int32.toNatClampNeg 0) then none else (if (x0_3 : Int32) < 0 ∨ 11 ≤ (Int32.toNatClampNeg x0_3) then none else (if (x0_3 : Int32) < 0 ∨ 11 ≤ (Int32.toNatClampNeg x0_3) then none else (K 4 l1 l2 0 0 0 x0_0 x0_2 x0_3 x0_12 x0_22 x0_23 f1 (upd f2 (Int32.toNatClampNeg x0_3) ((f5 (Int32.toNatClampNeg 0)) - 65)) (upd f3 (Int32.toNatClampNeg x0_3) (l1 - 2)) f4)))) else ((S_Model_fails 2 x0_0).bind fun u_26 => (some (u_26.1, u_26.2, x0_2, x0_3, x0_12, x0_22, x0_23, f1, f2, f3, f4)))) else (if (l3 : Int32) < 0 ∨ 11 ≤ (Int32.toNatClampNeg l3) then none else (if (0 : Int32) < 0 ∨ 10 ≤ (Int32.toNatClampNeg 0) then none else (if ¬ (f2 (Int32.toNatClampNeg l3)) = ((f5 (Int32.toNatClampNeg 0)) - 65) then (K 3 l1 l2 l3 0 0 x0_0 x0_2 x0_3 x0_12 x0_22 x0_23 f1 f2 f3 f4) else (if (l3 : Int32) < 0 ∨ 11 ≤ (Int32.toNatClampNeg l3) then none else (if ¬ (f3 (Int32.toNatClampNeg l3)) = (l1 - 2) then (K 3 l1 l2 l3 0 0 x0_0 x0_2 x0_3 x0_12 x0_22 x0_23 f1 f2 f3 f4) else (K 3 l1 l2 l3 1 0 x0_0 x0_2 x0_3 x0_12 x0_22 x0_23 f1 f2 f3 f4)))))))
def B_Model_rule_3 (K : Nat → Int32 → Int32 → Int32 → Int32 → Int32 → Int32 → Int32 → Int32 → Int32 → Int32 → Int32 → (Nat → Int32) → (Nat → Int32) → (Nat → Int32) → (Nat → Int32) → Option (Int32 × Int32 × Int32 × Int32 × Int32 × Int32 × Int32 × (Nat → Int32) × (Nat → Int32) × (Nat → Int32) × (Nat → Int32))) (f5 : (Nat → Int32)) (l1 : Int32) (l2 : Int32) (l3 : Int32) (l4 : Int32) (l5 : Int32) (x0_0 : Int32) (x0_2 : Int32) (x0_3 : Int32) (x0_12 : Int32) (x0_22 : Int32) (x0_23 : Int32) (f1 : (Nat → Int32)) (f2 : (Nat → Int32)) (f3 : (Nat → Int32)) (f4 : (Nat → Int32)) : Option (Int32 × Int32 × Int32 × Int32 × Int32 × Int32 × Int32 × (Nat → Int32) × (Nat → Int32) × (Nat → Int32) × (Nat → Int32)) := (if (l1 - 2) ≤ l5 then (if l4 = 0 then (K 2 l1 l2 (l3 + 1) 0 0 x0_0 x0_2 x0_3 x0_12 x0_22 x0_23 f1 f2 f3 f4) else ((S_Model_fails 1 x0_0).bind fun u_34 => (some (u_34.1, u_34.2, x0_2, x0_3, x0_12, x0_22, x0_23, f1, f2, f3, f4)))) else (if l4 = 0 then (if l4 = 0 then (K 2 l1 l2 (l3 + 1) 0 0 x0_0 x0_2 x0_3 x0_12 x0_22 x0_23 f1 f2 f3 f4) else ((S_Model_fails 1 x0_0).bind fun u_37 => (some (u_37.1, u_37.2, x0_2, x0_3, x0_12, x0_22, x0_23, f1, f2, f3, f4)))) else (if (((4 * l3) + l5) : Int32) < 0 ∨ 44 ≤ (Int32.toNatClampNeg ((4 * l3) + l5)) then none else (if (l5 : Int32) < 0 ∨ 24 ≤ (Int32.toNatClampNeg l5) then none else (if ¬ (f4 (Int32.toNatClampNeg ((4 * l3) + l5))) = (f1 (Int32.toNatClampNeg l5)) then (K 3 l1 l2 l3 0 (l5 + 1) x0_0 x0_2 x0_3 x0_12 x0_22 x0_23 f1 f2 f3 f4) else (K 3 l1 l2 l3 1 (l5 + 1) x0_0 x0_2 x0_3 x0_12 x0_22 x0_23 f1 f2 f3 f4))))))
def B_Model_rule_4 (K : Nat → Int32 → Int32 → Int32 → Int32 → Int32 → Int32 → Int32 → Int32 → Int32 → Int32 → Int32 → (Nat → Int32) → (Nat → Int32) → (Nat → Int32) → (Nat → Int32) → Option (Int32 × Int32 × Int32 × Int32 × Int32 × Int32 × Int32 × (Nat → Int32) × (Nat → Int32) × (Nat → Int32) × (Nat → Int32))) (f5 : (Nat → Int32)) (l1 : Int32) (l2 : Int32) (l3 : Int32) (l4 : Int32) (l5 : Int32) (x0_0 : Int32) (x0_2 : Int32) (x0_3 : Int32) (x0_12 : Int32) (x0_22 : Int32) (x0_23 : Int32) (f1 : (Nat → Int32)) (f2 : (Nat → Int32)) (f3 : (Nat → Int32)) (f4 : (Nat → Int32)) : Option (Int32 × Int32 × Int32 × Int32 × Int32 × Int32 × Int32 × (Nat → Int32) × (Nat → Int32) × (Nat → Int32) × (Nat → Int32)) := (if (l1 - 2) ≤ l3 then ((S_Model_forget x0_22 x0_23).bind fun u_42 => (some (((x0_3 + 1) - 1), x0_0, x0_2, (x0_3 + 1), 0, u_42.1, u_42.2, f1, f2, f3, f4))) else (if (l3 : Int32) < 0 ∨ 24 ≤ (Int32.toNatClampNeg l3) then none else (if (((4 * x0_3) + l3) : Int32) < 0 ∨ 44 ≤ (Int32.toNatClampNeg ((4 * x0_3) + l3)) then none else (K 4 l1 l2 (l3 + 1) 0 0 x0_0 x0_2 x0_3 x0_12 x0_22 x0_23 f1 f2 f3 (upd f4 (Int32.toNatClampNeg ((4 * x0_3) + l3)) (f1 (Int32.toNatClampNeg l3)))))))
def F_Model_rule (f5 : (Nat → Int32)) : Nat → Nat → Int32 → Int32 → Int32 → Int32 → Int32 → Int32 → Int32 → Int32 → Int32 → Int32 → Int32 → (Nat → Int32) → (Nat → Int32) → (Nat → Int32) → (Nat → Int32) → Option (Int32 × Int32 × Int32 × Int32 × Int32 × Int32 × Int32 × (Nat → Int32) × (Nat → Int32) × (Nat → Int32) × (Nat → Int32))
  | 0 => fun _ _ _ _ _ _ _ _ _ _ _ _ _ _ _ _ => none
  | n + 1 => fun hd l1 l2 l3 l4 l5 x0_0 x0_2 x0_3 x0_12 x0_22 x0_23 f1 f2 f3 f4 => match hd with
    | 0 => B_Model_rule_0 (F_Model_rule f5 n) f5 l1 l2 l3 l4 l5 x0_0 x0_2 x0_3 x0_12 x0_22 x0_23 f1 f2 f3 f4
    | 1 => B_Model_rule_1 (F_Model_rule f5 n) f5 l1 l2 l3 l4 l5 x0_0 x0_2 x0_3 x0_12 x0_22 x0_23 f1 f2 f3 f4
    | 2 => B_Model_rule_2 (F_Model_rule f5 n) f5 l1 l2 l3 l4 l5 x0_0 x0_2 x0_3 x0_12 x0_22 x0_23 f1 f2 f3 f4
    | 3 => B_Model_rule_3 (F_Model_rule f5 n) f5 l1 l2 l3 l4 l5 x0_0 x0_2 x0_3 x0_12 x0_22 x0_23 f1 f2 f3 f4
    | 4 => B_Model_rule_4 (F_Model_rule f5 n) f5 l1 l2 l3 l4 l5 x0_0 x0_2 x0_3 x0_12 x0_22 x0_23 f1 f2 f3 f4
    | _ => none
set_option maxHeartbeats 4000000 in
set_option maxRecDepth 100000 in
theorem L_Model_rule {p : Program} {l : Launch} {e : Env} {s : State} {m : MethodId} {args : Array Value} {below : List Frame} {meth : Method} {c : Code} {A : Nat → Prop} {dC : Nat → ClassId} {dI : Nat → Nat → Nat} {kA : Nat → ClassId} (hx : p.tables.exec = Jvm.exec) (hb : c.code = b_Model_rule) (hr : meth.sig.returnType = some .int) (hlocks : meth.locks = false) (hml : c.maxLocals = 6) (hown : s.vm.findClass R_Model = some m.cls) (hts : ∀ w ∈ w_Model_rule, w.before args s = true) (hA : ∀ q : Nat, s.heap.size ≤ q → A q) (hK : va_K (dC, dI) classes (tys_ kA) s) (a0 a1 a2 a3 a4 a5 : Nat) (v0_7 v0_8 v0_9 v0_10 v0_11 v0_13 v0_14 v0_15 v0_16 v0_17 v0_19 v0_20 v0_21 v0_24 v0_25 v0_26 v0_27 v0_28 : Value) (f5 : (Nat → Int32)) (r : Int32) (ox0_0 : Int32) (ox0_2 : Int32) (ox0_3 : Int32) (ox0_12 : Int32) (ox0_22 : Int32) (ox0_23 : Int32) (of1 : (Nat → Int32)) (of2 : (Nat → Int32)) (of3 : (Nat → Int32)) (of4 : (Nat → Int32)) : ∀ n : Nat, (∀ (l1 l2 l3 l4 l5 : Int32) (x0_0 : Int32) (x0_2 : Int32) (x0_3 : Int32) (x0_12 : Int32) (x0_22 : Int32) (x0_23 : Int32) (f1 : (Nat → Int32)) (f2 : (Nat → Int32)) (f3 : (Nat → Int32)) (f4 : (Nat → Int32)), F_Model_rule f5 n 0 l1 l2 l3 l4 l5 x0_0 x0_2 x0_3 x0_12 x0_22 x0_23 f1 f2 f3 f4 = some (r, ox0_0, ox0_2, ox0_3, ox0_12, ox0_22, ox0_23, of1, of2, of3, of4) → ∀ (H : Heap) (locs : List Loc) (ls : Array Slot), va_P (dC, dI) classes (wd_Model_rule kA a0 a1 a2 a3 a4 a5 v0_7 v0_8 v0_9 v0_10 v0_11 v0_13 v0_14 v0_15 v0_16 v0_17 v0_19 v0_20 v0_21 v0_24 v0_25 v0_26 v0_27 v0_28 x0_0 x0_2 x0_3 x0_12 x0_22 x0_23 f1 f2 f3 f4 f5) H → va_D A (wd_Model_rule kA a0 a1 a2 a3 a4 a5 v0_7 v0_8 v0_9 v0_10 v0_11 v0_13 v0_14 v0_15 v0_16 v0_17 v0_19 v0_20 v0_21 v0_24 v0_25 v0_26 v0_27 v0_28 x0_0 x0_2 x0_3 x0_12 x0_22 x0_23 f1 f2 f3 f4 f5) → va_S A s.heap H locs → lv_has ls 6 [(0, .ref a0), (1, .int l1), (2, .int l2), (3, .int l3)] → W p l e (headSpec w_Model_rule rm_Model_rule).room s m args below meth c H locs 0 0 (MQ below (va_Qi (fun (r1 : Int32) (_ : Unit) => r1 = r) (fun _ t => va_P (dC, dI) classes (wd_Model_rule kA a0 a1 a2 a3 a4 a5 v0_7 v0_8 v0_9 v0_10 v0_11 v0_13 v0_14 v0_15 v0_16 v0_17 v0_19 v0_20 v0_21 v0_24 v0_25 v0_26 v0_27 v0_28 ox0_0 ox0_2 ox0_3 ox0_12 ox0_22 ox0_23 of1 of2 of3 of4 f5) t.heap ∧ va_K (dC, dI) classes (tys_ kA) t ∧ va_D A (wd_Model_rule kA a0 a1 a2 a3 a4 a5 v0_7 v0_8 v0_9 v0_10 v0_11 v0_13 v0_14 v0_15 v0_16 v0_17 v0_19 v0_20 v0_21 v0_24 v0_25 v0_26 v0_27 v0_28 ox0_0 ox0_2 ox0_3 ox0_12 ox0_22 ox0_23 of1 of2 of3 of4 f5)) A) args s 0 0 A) (F0 m 57 ls [])) ∧ (∀ (l1 l2 l3 l4 l5 : Int32) (x0_0 : Int32) (x0_2 : Int32) (x0_3 : Int32) (x0_12 : Int32) (x0_22 : Int32) (x0_23 : Int32) (f1 : (Nat → Int32)) (f2 : (Nat → Int32)) (f3 : (Nat → Int32)) (f4 : (Nat → Int32)), F_Model_rule f5 n 1 l1 l2 l3 l4 l5 x0_0 x0_2 x0_3 x0_12 x0_22 x0_23 f1 f2 f3 f4 = some (r, ox0_0, ox0_2, ox0_3, ox0_12, ox0_22, ox0_23, of1, of2, of3, of4) → ∀ (H : Heap) (locs : List Loc) (ls : Array Slot), va_P (dC, dI) classes (wd_Model_rule kA a0 a1 a2 a3 a4 a5 v0_7 v0_8 v0_9 v0_10 v0_11 v0_13 v0_14 v0_15 v0_16 v0_17 v0_19 v0_20 v0_21 v0_24 v0_25 v0_26 v0_27 v0_28 x0_0 x0_2 x0_3 x0_12 x0_22 x0_23 f1 f2 f3 f4 f5) H → va_D A (wd_Model_rule kA a0 a1 a2 a3 a4 a5 v0_7 v0_8 v0_9 v0_10 v0_11 v0_13 v0_14 v0_15 v0_16 v0_17 v0_19 v0_20 v0_21 v0_24 v0_25 v0_26 v0_27 v0_28 x0_0 x0_2 x0_3 x0_12 x0_22 x0_23 f1 f2 f3 f4 f5) → va_S A s.heap H locs → lv_has ls 6 [(0, .ref a0), (1, .int l1), (2, .int l2), (3, .int l3)] → W p l e (headSpec w_Model_rule rm_Model_rule).room s m args below meth c H locs 0 0 (MQ below (va_Qi (fun (r1 : Int32) (_ : Unit) => r1 = r) (fun _ t => va_P (dC, dI) classes (wd_Model_rule kA a0 a1 a2 a3 a4 a5 v0_7 v0_8 v0_9 v0_10 v0_11 v0_13 v0_14 v0_15 v0_16 v0_17 v0_19 v0_20 v0_21 v0_24 v0_25 v0_26 v0_27 v0_28 ox0_0 ox0_2 ox0_3 ox0_12 ox0_22 ox0_23 of1 of2 of3 of4 f5) t.heap ∧ va_K (dC, dI) classes (tys_ kA) t ∧ va_D A (wd_Model_rule kA a0 a1 a2 a3 a4 a5 v0_7 v0_8 v0_9 v0_10 v0_11 v0_13 v0_14 v0_15 v0_16 v0_17 v0_19 v0_20 v0_21 v0_24 v0_25 v0_26 v0_27 v0_28 ox0_0 ox0_2 ox0_3 ox0_12 ox0_22 ox0_23 of1 of2 of3 of4 f5)) A) args s 0 0 A) (F0 m 114 ls [])) ∧ (∀ (l1 l2 l3 l4 l5 : Int32) (x0_0 : Int32) (x0_2 : Int32) (x0_3 : Int32) (x0_12 : Int32) (x0_22 : Int32) (x0_23 : Int32) (f1 : (Nat → Int32)) (f2 : (Nat → Int32)) (f3 : (Nat → Int32)) (f4 : (Nat → Int32)), F_Model_rule f5 n 2 l1 l2 l3 l4 l5 x0_0 x0_2 x0_3 x0_12 x0_22 x0_23 f1 f2 f3 f4 = some (r, ox0_0, ox0_2, ox0_3, ox0_12, ox0_22, ox0_23, of1, of2, of3, of4) → ∀ (H : Heap) (locs : List Loc) (ls : Array Slot), va_P (dC, dI) classes (wd_Model_rule kA a0 a1 a2 a3 a4 a5 v0_7 v0_8 v0_9 v0_10 v0_11 v0_13 v0_14 v0_15 v0_16 v0_17 v0_19 v0_20 v0_21 v0_24 v0_25 v0_26 v0_27 v0_28 x0_0 x0_2 x0_3 x0_12 x0_22 x0_23 f1 f2 f3 f4 f5) H → va_D A (wd_Model_rule kA a0 a1 a2 a3 a4 a5 v0_7 v0_8 v0_9 v0_10 v0_11 v0_13 v0_14 v0_15 v0_16 v0_17 v0_19 v0_20 v0_21 v0_24 v0_25 v0_26 v0_27 v0_28 x0_0 x0_2 x0_3 x0_12 x0_22 x0_23 f1 f2 f3 f4 f5) → va_S A s.heap H locs → lv_has ls 6 [(0, .ref a0), (1, .int l1), (2, .int l2), (3, .int l3)] → W p l e (headSpec w_Model_rule rm_Model_rule).room s m args below meth c H locs 0 0 (MQ below (va_Qi (fun (r1 : Int32) (_ : Unit) => r1 = r) (fun _ t => va_P (dC, dI) classes (wd_Model_rule kA a0 a1 a2 a3 a4 a5 v0_7 v0_8 v0_9 v0_10 v0_11 v0_13 v0_14 v0_15 v0_16 v0_17 v0_19 v0_20 v0_21 v0_24 v0_25 v0_26 v0_27 v0_28 ox0_0 ox0_2 ox0_3 ox0_12 ox0_22 ox0_23 of1 of2 of3 of4 f5) t.heap ∧ va_K (dC, dI) classes (tys_ kA) t ∧ va_D A (wd_Model_rule kA a0 a1 a2 a3 a4 a5 v0_7 v0_8 v0_9 v0_10 v0_11 v0_13 v0_14 v0_15 v0_16 v0_17 v0_19 v0_20 v0_21 v0_24 v0_25 v0_26 v0_27 v0_28 ox0_0 ox0_2 ox0_3 ox0_12 ox0_22 ox0_23 of1 of2 of3 of4 f5)) A) args s 0 0 A) (F0 m 171 ls [])) ∧ (∀ (l1 l2 l3 l4 l5 : Int32) (x0_0 : Int32) (x0_2 : Int32) (x0_3 : Int32) (x0_12 : Int32) (x0_22 : Int32) (x0_23 : Int32) (f1 : (Nat → Int32)) (f2 : (Nat → Int32)) (f3 : (Nat → Int32)) (f4 : (Nat → Int32)), F_Model_rule f5 n 3 l1 l2 l3 l4 l5 x0_0 x0_2 x0_3 x0_12 x0_22 x0_23 f1 f2 f3 f4 = some (r, ox0_0, ox0_2, ox0_3, ox0_12, ox0_22, ox0_23, of1, of2, of3, of4) → ∀ (H : Heap) (locs : List Loc) (ls : Array Slot), va_P (dC, dI) classes (wd_Model_rule kA a0 a1 a2 a3 a4 a5 v0_7 v0_8 v0_9 v0_10 v0_11 v0_13 v0_14 v0_15 v0_16 v0_17 v0_19 v0_20 v0_21 v0_24 v0_25 v0_26 v0_27 v0_28 x0_0 x0_2 x0_3 x0_12 x0_22 x0_23 f1 f2 f3 f4 f5) H → va_D A (wd_Model_rule kA a0 a1 a2 a3 a4 a5 v0_7 v0_8 v0_9 v0_10 v0_11 v0_13 v0_14 v0_15 v0_16 v0_17 v0_19 v0_20 v0_21 v0_24 v0_25 v0_26 v0_27 v0_28 x0_0 x0_2 x0_3 x0_12 x0_22 x0_23 f1 f2 f3 f4 f5) → va_S A s.heap H locs → lv_has ls 6 [(0, .ref a0), (1, .int l1), (2, .int l2), (3, .int l3), (4, .int l4), (5, .int l5)] → W p l e (headSpec w_Model_rule rm_Model_rule).room s m args below meth c H locs 0 0 (MQ below (va_Qi (fun (r1 : Int32) (_ : Unit) => r1 = r) (fun _ t => va_P (dC, dI) classes (wd_Model_rule kA a0 a1 a2 a3 a4 a5 v0_7 v0_8 v0_9 v0_10 v0_11 v0_13 v0_14 v0_15 v0_16 v0_17 v0_19 v0_20 v0_21 v0_24 v0_25 v0_26 v0_27 v0_28 ox0_0 ox0_2 ox0_3 ox0_12 ox0_22 ox0_23 of1 of2 of3 of4 f5) t.heap ∧ va_K (dC, dI) classes (tys_ kA) t ∧ va_D A (wd_Model_rule kA a0 a1 a2 a3 a4 a5 v0_7 v0_8 v0_9 v0_10 v0_11 v0_13 v0_14 v0_15 v0_16 v0_17 v0_19 v0_20 v0_21 v0_24 v0_25 v0_26 v0_27 v0_28 ox0_0 ox0_2 ox0_3 ox0_12 ox0_22 ox0_23 of1 of2 of3 of4 f5)) A) args s 0 0 A) (F0 m 219 ls [])) ∧ (∀ (l1 l2 l3 l4 l5 : Int32) (x0_0 : Int32) (x0_2 : Int32) (x0_3 : Int32) (x0_12 : Int32) (x0_22 : Int32) (x0_23 : Int32) (f1 : (Nat → Int32)) (f2 : (Nat → Int32)) (f3 : (Nat → Int32)) (f4 : (Nat → Int32)), F_Model_rule f5 n 4 l1 l2 l3 l4 l5 x0_0 x0_2 x0_3 x0_12 x0_22 x0_23 f1 f2 f3 f4 = some (r, ox0_0, ox0_2, ox0_3, ox0_12, ox0_22, ox0_23, of1, of2, of3, of4) → ∀ (H : Heap) (locs : List Loc) (ls : Array Slot), va_P (dC, dI) classes (wd_Model_rule kA a0 a1 a2 a3 a4 a5 v0_7 v0_8 v0_9 v0_10 v0_11 v0_13 v0_14 v0_15 v0_16 v0_17 v0_19 v0_20 v0_21 v0_24 v0_25 v0_26 v0_27 v0_28 x0_0 x0_2 x0_3 x0_12 x0_22 x0_23 f1 f2 f3 f4 f5) H → va_D A (wd_Model_rule kA a0 a1 a2 a3 a4 a5 v0_7 v0_8 v0_9 v0_10 v0_11 v0_13 v0_14 v0_15 v0_16 v0_17 v0_19 v0_20 v0_21 v0_24 v0_25 v0_26 v0_27 v0_28 x0_0 x0_2 x0_3 x0_12 x0_22 x0_23 f1 f2 f3 f4 f5) → va_S A s.heap H locs → lv_has ls 6 [(0, .ref a0), (1, .int l1), (2, .int l2), (3, .int l3)] → W p l e (headSpec w_Model_rule rm_Model_rule).room s m args below meth c H locs 0 0 (MQ below (va_Qi (fun (r1 : Int32) (_ : Unit) => r1 = r) (fun _ t => va_P (dC, dI) classes (wd_Model_rule kA a0 a1 a2 a3 a4 a5 v0_7 v0_8 v0_9 v0_10 v0_11 v0_13 v0_14 v0_15 v0_16 v0_17 v0_19 v0_20 v0_21 v0_24 v0_25 v0_26 v0_27 v0_28 ox0_0 ox0_2 ox0_3 ox0_12 ox0_22 ox0_23 of1 of2 of3 of4 f5) t.heap ∧ va_K (dC, dI) classes (tys_ kA) t ∧ va_D A (wd_Model_rule kA a0 a1 a2 a3 a4 a5 v0_7 v0_8 v0_9 v0_10 v0_11 v0_13 v0_14 v0_15 v0_16 v0_17 v0_19 v0_20 v0_21 v0_24 v0_25 v0_26 v0_27 v0_28 ox0_0 ox0_2 ox0_3 ox0_12 ox0_22 ox0_23 of1 of2 of3 of4 f5)) A) args s 0 0 A) (F0 m 330 ls [])) := by
  have hg := fun (w : Cond) (h : w ∈ gw) => hts w (List.mem_cons_of_mem _ h)
  intro n
  induction n with
  | zero =>
    exact ⟨fun _ _ _ _ _ _ _ _ _ _ _ _ _ _ _ hF => absurd (show (none : Option _) = some _ from hF) (fun z => by cases z), fun _ _ _ _ _ _ _ _ _ _ _ _ _ _ _ hF => absurd (show (none : Option _) = some _ from hF) (fun z => by cases z), fun _ _ _ _ _ _ _ _ _ _ _ _ _ _ _ hF => absurd (show (none : Option _) = some _ from hF) (fun z => by cases z), fun _ _ _ _ _ _ _ _ _ _ _ _ _ _ _ hF => absurd (show (none : Option _) = some _ from hF) (fun z => by cases z), fun _ _ _ _ _ _ _ _ _ _ _ _ _ _ _ hF => absurd (show (none : Option _) = some _ from hF) (fun z => by cases z)⟩
  | succ n ih =>
    refine ⟨?_, ?_, ?_, ?_, ?_⟩
    · intro l1 l2 l3 l4 l5 x0_0 x0_2 x0_3 x0_12 x0_22 x0_23 f1 f2 f3 f4 hF H locs ls hP hD hS hl
      have hF : B_Model_rule_0 (F_Model_rule f5 n) f5 l1 l2 l3 l4 l5 x0_0 x0_2 x0_3 x0_12 x0_22 x0_23 f1 f2 f3 f4 = some (r, ox0_0, ox0_2, ox0_3, ox0_12, ox0_22, ox0_23, of1, of2, of3, of4) := hF
      unfold B_Model_rule_0 at hF
      refine lv_iload_n hx hb d_Model_rule_57 rfl (lv_at hl 3 rfl) ?_
      refine lv_iload_n hx hb d_Model_rule_58 rfl (lv_at hl 1 rfl) ?_
      refine lv_icmp_ge (tgt := 102) hx hb d_Model_rule_59 (by decide) (fun c_1 => ?_) (fun c_1 => ?_)
      · rw [if_pos c_1] at hF
        refine lv_iload_n hx hb d_Model_rule_102 rfl (lv_at hl 2 rfl) ?_
        refine lv_if_ne (tgt := 112) hx hb d_Model_rule_103 (by decide) (fun c_2 => ?_) (fun c_2 => ?_)
        · rw [if_pos c_2] at hF
          refine lv_iconst (v := 2) hx hb d_Model_rule_112 (by decide) ?_
          refine lv_istore_n (lv' := [(3, .int 2), (0, .ref a0), (1, .int l1), (2, .int l2)]) hx hb d_Model_rule_113 rfl hl (by decide) rfl (fun ls hl => ?_)
          exact ih.2.1 l1 l2 2 0 0 x0_0 x0_2 x0_3 x0_12 x0_22 x0_23 f1 f2 f3 f4 hF _ _ _ hP hD hS (lv_sub hl [1, 2, 3, 0] rfl)
        · rw [if_neg (fun z => z c_2)] at hF
          refine lv_aload_n hx hb d_Model_rule_106 rfl (lv_at hl 0 rfl) ?_
          refine lv_iconst (v := 1) hx hb d_Model_rule_107 (by decide) ?_
          obtain ⟨u_3, hS_3, hF⟩ := rd_bind hF
          have hPc := hP.sub (ws' := (wd_Model_fails kA a0 (.ref a5) (.int x0_2) (.int x0_3) (.ref a2) (.ref a3) (.ref a4) v0_7 v0_8 v0_9 v0_10 v0_11 (.int x0_12) v0_13 v0_14 v0_15 v0_16 v0_17 (.ref a1) v0_19 v0_20 v0_21 (.int x0_22) (.int x0_23) v0_24 v0_25 v0_26 v0_27 v0_28 x0_0)) [0] rfl
          have hDc := hD.sub (ws' := (wd_Model_fails kA a0 (.ref a5) (.int x0_2) (.int x0_3) (.ref a2) (.ref a3) (.ref a4) v0_7 v0_8 v0_9 v0_10 v0_11 (.int x0_12) v0_13 v0_14 v0_15 v0_16 v0_17 (.ref a1) v0_19 v0_20 v0_21 (.int x0_22) (.int x0_23) v0_24 v0_25 v0_26 v0_27 v0_28 x0_0)) [0] (by decide) rfl
          have hFc := va_free (wc := (wd_Model_fails kA a0 (.ref a5) (.int x0_2) (.int x0_3) (.ref a2) (.ref a3) (.ref a4) v0_7 v0_8 v0_9 v0_10 v0_11 (.int x0_12) v0_13 v0_14 v0_15 v0_16 v0_17 (.ref a1) v0_19 v0_20 v0_21 (.int x0_22) (.int x0_23) v0_24 v0_25 v0_26 v0_27 v0_28 x0_0)) hD hS hA [0] rfl
          refine va_calli (va_runV (As := [.int 1]) (rest := []) ⟨hx, hb, hml, hown, hts⟩ (c_Model_fails l dC dI kA H.size a0 (.ref a5) (.int x0_2) (.int x0_3) (.ref a2) (.ref a3) (.ref a4) v0_7 v0_8 v0_9 v0_10 v0_11 (.int x0_12) v0_13 v0_14 v0_15 v0_16 v0_17 (.ref a1) v0_19 v0_20 v0_21 (.int x0_22) (.int x0_23) v0_24 v0_25 v0_26 v0_27 v0_28 1 x0_0 u_3.1 u_3.2 hS_3) (cwV 1 hts (gw_V gw_264 gw_265 gw_266 gw_267 gw_268) rfl rfl rfl (by decide +kernel) ⟨Nat.le_of_ble_eq_true rfl, Nat.le_of_ble_eq_true rfl⟩) ⟨fun a U g mk q => by obtain ⟨q0, q1, qP, qK, qD⟩ := q; exact ⟨q0, q1, qP, va_K.moved (u := U) (U := U.calling g mk a) (Vm.Alike.refl U.vm) qK, qD⟩, va_recv hK hP (ci := 9) (q0 := 0) rfl rfl, fun U hU hW => ⟨rfl, by rw [hU], by rw [hU]; exact hPc, va_K.moved hW.alike hK, hDc.weaken (fun _ _ _ _ => trivial)⟩⟩ rfl rfl hl.1 rfl (lv_room (Nat.le_of_ble_eq_true rfl)) d_Model_rule_108 ⟨Nat.zero_le _, Nat.zero_le _⟩) hS (fun q _ h => hFc q h) hFc (fun r1 u t H1 locs ht hvm hw hB hz1 hk1 hS => ?_)
          rw [show r1 = _ from hw]
          obtain ⟨hP1, hK1, hD1⟩ := hB
          rw [ht] at hP1
          obtain ⟨hP, hD⟩ := va_join (wr := [(a1, .inl (kA 0, 24, .inl f1)), (a2, .inl (kA 0, 11, .inl f2)), (a3, .inl (kA 0, 11, .inl f3)), (a4, .inl (kA 0, 44, .inl f4)), (a5, .inl (kA 2, 10, .inl f5))]) (w1 := (wd_Model_fails kA a0 (.ref a5) (.int x0_2) (.int x0_3) (.ref a2) (.ref a3) (.ref a4) v0_7 v0_8 v0_9 v0_10 v0_11 (.int x0_12) v0_13 v0_14 v0_15 v0_16 v0_17 (.ref a1) v0_19 v0_20 v0_21 (.int x0_22) (.int x0_23) v0_24 v0_25 v0_26 v0_27 v0_28 u_3.2)) hP hD [0] [1, 2, 3, 4, 5] rfl rfl (by decide) (by decide) hk1 hFc hP1 hD1
          have hP := hP.sub (ws' := (wd_Model_rule kA a0 a1 a2 a3 a4 a5 v0_7 v0_8 v0_9 v0_10 v0_11 v0_13 v0_14 v0_15 v0_16 v0_17 v0_19 v0_20 v0_21 v0_24 v0_25 v0_26 v0_27 v0_28 u_3.2 x0_2 x0_3 x0_12 x0_22 x0_23 f1 f2 f3 f4 f5)) [5, 0, 1, 2, 3, 4] rfl
          have hD := hD.sub (ws' := (wd_Model_rule kA a0 a1 a2 a3 a4 a5 v0_7 v0_8 v0_9 v0_10 v0_11 v0_13 v0_14 v0_15 v0_16 v0_17 v0_19 v0_20 v0_21 v0_24 v0_25 v0_26 v0_27 v0_28 u_3.2 x0_2 x0_3 x0_12 x0_22 x0_23 f1 f2 f3 f4 f5)) [5, 0, 1, 2, 3, 4] (by decide) rfl
          clear hPc hDc hFc hP1 hK1 hD1
          generalize H1 = H at hP hS ⊢
          have e0 := Option.some.inj hF
          have q0 := Prod.mk.inj e0
          have q1 := Prod.mk.inj q0.2
          have q2 := Prod.mk.inj q1.2
          have q3 := Prod.mk.inj q2.2
          have q4 := Prod.mk.inj q3.2
          have q5 := Prod.mk.inj q4.2
          have q6 := Prod.mk.inj q5.2
          have q7 := Prod.mk.inj q6.2
          have q8 := Prod.mk.inj q7.2
          have q9 := Prod.mk.inj q8.2
          exact W.iret (v := u_3.1) hx hb hr (fun t ht hW => ⟨⟨u_3.1, (), rfl, q0.1, by rw [ht, ← q1.1, ← q2.1, ← q3.1, ← q4.1, ← q5.1, ← q6.1, ← q7.1, ← q8.1, ← q9.1, ← q9.2]; exact hP, va_K.moved hW.alike hK, (by rw [← q1.1, ← q2.1, ← q3.1, ← q4.1, ← q5.1, ← q6.1, ← q7.1, ← q8.1, ← q9.1, ← q9.2]; exact hD)⟩, hS.F ht⟩) hS.2.2 d_Model_rule_111 hlocks
      · rw [if_neg c_1] at hF
        refine lv_iload_n hx hb d_Model_rule_62 rfl (lv_at hl 2 rfl) ?_
        refine lv_if_eq (tgt := 102) hx hb d_Model_rule_63 (by decide) (fun c_4 => ?_) (fun c_4 => ?_)
        · rw [if_pos c_4] at hF
          refine lv_iload_n hx hb d_Model_rule_102 rfl (lv_at hl 2 rfl) ?_
          refine lv_if_ne (tgt := 112) hx hb d_Model_rule_103 (by decide) (fun c_5 => ?_) (fun c_5 => ?_)
          · rw [if_pos c_5] at hF
            refine lv_iconst (v := 2) hx hb d_Model_rule_112 (by decide) ?_
            refine lv_istore_n (lv' := [(3, .int 2), (0, .ref a0), (1, .int l1), (2, .int l2)]) hx hb d_Model_rule_113 rfl hl (by decide) rfl (fun ls hl => ?_)
            exact ih.2.1 l1 l2 2 0 0 x0_0 x0_2 x0_3 x0_12 x0_22 x0_23 f1 f2 f3 f4 hF _ _ _ hP hD hS (lv_sub hl [1, 2, 3, 0] rfl)
          · rw [if_neg (fun z => z c_5)] at hF
            refine lv_aload_n hx hb d_Model_rule_106 rfl (lv_at hl 0 rfl) ?_
            refine lv_iconst (v := 1) hx hb d_Model_rule_107 (by decide) ?_
            obtain ⟨u_6, hS_6, hF⟩ := rd_bind hF
            have hPc := hP.sub (ws' := (wd_Model_fails kA a0 (.ref a5) (.int x0_2) (.int x0_3) (.ref a2) (.ref a3) (.ref a4) v0_7 v0_8 v0_9 v0_10 v0_11 (.int x0_12) v0_13 v0_14 v0_15 v0_16 v0_17 (.ref a1) v0_19 v0_20 v0_21 (.int x0_22) (.int x0_23) v0_24 v0_25 v0_26 v0_27 v0_28 x0_0)) [0] rfl
            have hDc := hD.sub (ws' := (wd_Model_fails kA a0 (.ref a5) (.int x0_2) (.int x0_3) (.ref a2) (.ref a3) (.ref a4) v0_7 v0_8 v0_9 v0_10 v0_11 (.int x0_12) v0_13 v0_14 v0_15 v0_16 v0_17 (.ref a1) v0_19 v0_20 v0_21 (.int x0_22) (.int x0_23) v0_24 v0_25 v0_26 v0_27 v0_28 x0_0)) [0] (by decide) rfl
            have hFc := va_free (wc := (wd_Model_fails kA a0 (.ref a5) (.int x0_2) (.int x0_3) (.ref a2) (.ref a3) (.ref a4) v0_7 v0_8 v0_9 v0_10 v0_11 (.int x0_12) v0_13 v0_14 v0_15 v0_16 v0_17 (.ref a1) v0_19 v0_20 v0_21 (.int x0_22) (.int x0_23) v0_24 v0_25 v0_26 v0_27 v0_28 x0_0)) hD hS hA [0] rfl
            refine va_calli (va_runV (As := [.int 1]) (rest := []) ⟨hx, hb, hml, hown, hts⟩ (c_Model_fails l dC dI kA H.size a0 (.ref a5) (.int x0_2) (.int x0_3) (.ref a2) (.ref a3) (.ref a4) v0_7 v0_8 v0_9 v0_10 v0_11 (.int x0_12) v0_13 v0_14 v0_15 v0_16 v0_17 (.ref a1) v0_19 v0_20 v0_21 (.int x0_22) (.int x0_23) v0_24 v0_25 v0_26 v0_27 v0_28 1 x0_0 u_6.1 u_6.2 hS_6) (cwV 1 hts (gw_V gw_264 gw_265 gw_266 gw_267 gw_268) rfl rfl rfl (by decide +kernel) ⟨Nat.le_of_ble_eq_true rfl, Nat.le_of_ble_eq_true rfl⟩) ⟨fun a U g mk q => by obtain ⟨q0, q1, qP, qK, qD⟩ := q; exact ⟨q0, q1, qP, va_K.moved (u := U) (U := U.calling g mk a) (Vm.Alike.refl U.vm) qK, qD⟩, va_recv hK hP (ci := 9) (q0 := 0) rfl rfl, fun U hU hW => ⟨rfl, by rw [hU], by rw [hU]; exact hPc, va_K.moved hW.alike hK, hDc.weaken (fun _ _ _ _ => trivial)⟩⟩ rfl rfl hl.1 rfl (lv_room (Nat.le_of_ble_eq_true rfl)) d_Model_rule_108 ⟨Nat.zero_le _, Nat.zero_le _⟩) hS (fun q _ h => hFc q h) hFc (fun r1 u t H1 locs ht hvm hw hB hz1 hk1 hS => ?_)
            rw [show r1 = _ from hw]
            obtain ⟨hP1, hK1, hD1⟩ := hB
            rw [ht] at hP1
            obtain ⟨hP, hD⟩ := va_join (wr := [(a1, .inl (kA 0, 24, .inl f1)), (a2, .inl (kA 0, 11, .inl f2)), (a3, .inl (kA 0, 11, .inl f3)), (a4, .inl (kA 0, 44, .inl f4)), (a5, .inl (kA 2, 10, .inl f5))]) (w1 := (wd_Model_fails kA a0 (.ref a5) (.int x0_2) (.int x0_3) (.ref a2) (.ref a3) (.ref a4) v0_7 v0_8 v0_9 v0_10 v0_11 (.int x0_12) v0_13 v0_14 v0_15 v0_16 v0_17 (.ref a1) v0_19 v0_20 v0_21 (.int x0_22) (.int x0_23) v0_24 v0_25 v0_26 v0_27 v0_28 u_6.2)) hP hD [0] [1, 2, 3, 4, 5] rfl rfl (by decide) (by decide) hk1 hFc hP1 hD1
            have hP := hP.sub (ws' := (wd_Model_rule kA a0 a1 a2 a3 a4 a5 v0_7 v0_8 v0_9 v0_10 v0_11 v0_13 v0_14 v0_15 v0_16 v0_17 v0_19 v0_20 v0_21 v0_24 v0_25 v0_26 v0_27 v0_28 u_6.2 x0_2 x0_3 x0_12 x0_22 x0_23 f1 f2 f3 f4 f5)) [5, 0, 1, 2, 3, 4] rfl
            have hD := hD.sub (ws' := (wd_Model_rule kA a0 a1 a2 a3 a4 a5 v0_7 v0_8 v0_9 v0_10 v0_11 v0_13 v0_14 v0_15 v0_16 v0_17 v0_19 v0_20 v0_21 v0_24 v0_25 v0_26 v0_27 v0_28 u_6.2 x0_2 x0_3 x0_12 x0_22 x0_23 f1 f2 f3 f4 f5)) [5, 0, 1, 2, 3, 4] (by decide) rfl
            clear hPc hDc hFc hP1 hK1 hD1
            generalize H1 = H at hP hS ⊢
            have e0 := Option.some.inj hF
            have q0 := Prod.mk.inj e0
            have q1 := Prod.mk.inj q0.2
            have q2 := Prod.mk.inj q1.2
            have q3 := Prod.mk.inj q2.2
            have q4 := Prod.mk.inj q3.2
            have q5 := Prod.mk.inj q4.2
            have q6 := Prod.mk.inj q5.2
            have q7 := Prod.mk.inj q6.2
            have q8 := Prod.mk.inj q7.2
            have q9 := Prod.mk.inj q8.2
            exact W.iret (v := u_6.1) hx hb hr (fun t ht hW => ⟨⟨u_6.1, (), rfl, q0.1, by rw [ht, ← q1.1, ← q2.1, ← q3.1, ← q4.1, ← q5.1, ← q6.1, ← q7.1, ← q8.1, ← q9.1, ← q9.2]; exact hP, va_K.moved hW.alike hK, (by rw [← q1.1, ← q2.1, ← q3.1, ← q4.1, ← q5.1, ← q6.1, ← q7.1, ← q8.1, ← q9.1, ← q9.2]; exact hD)⟩, hS.F ht⟩) hS.2.2 d_Model_rule_111 hlocks
        · rw [if_neg c_4] at hF
          refine lv_aload_n hx hb d_Model_rule_66 rfl (lv_at hl 0 rfl) ?_
          refine va_get (D := (dC, dI)) (ci := 9) (v := .ref a5) (C := R_Model) (T := F_Model) (N := 29) hx hb hg iw_Model hown hK hP 0 rfl rfl 1 (by decide) (hg _ gw_261) (fun _ h9 => h9) rfl d_Model_rule_67 ?_
          refine lv_iload_n hx hb d_Model_rule_70 rfl (lv_at hl 3 rfl) ?_
          obtain ⟨h_7, hF⟩ := rd_chk hF
          refine va_cald hx hb hK hP 5 2 rfl rfl h_7 d_Model_rule_71 ?_
          obtain ⟨u_8, hS_8, hF⟩ := rd_bind hF
          have hPc := hP.sub (ws' := (wd_Model_isLetter kA )) [] rfl
          have hDc := hD.sub (ws' := (wd_Model_isLetter kA )) [] (by decide) rfl
          have hFc := va_free (wc := (wd_Model_isLetter kA )) hD hS hA [] rfl
          refine va_calli (va_runS (As := [.int (f5 (Int32.toNatClampNeg l3))]) (rest := []) ⟨hx, hb, hml, hown, hts⟩ (c_Model_isLetter l dC dI kA H.size (f5 (Int32.toNatClampNeg l3)) u_8 hS_8) (cwS 1 hts (gw_S gw_269 gw_270 gw_267 gw_271) rfl rfl rfl (by decide +kernel) ⟨Nat.le_of_ble_eq_true rfl, Nat.le_of_ble_eq_true rfl⟩) ⟨fun a U g mk q => by obtain ⟨q0, q1, qP, qK, qD⟩ := q; exact ⟨q0, q1, qP, va_K.moved (u := U) (U := U.calling g mk a) (Vm.Alike.refl U.vm) qK, qD⟩, fun U hU hW => ⟨rfl, by rw [hU], by rw [hU]; exact hPc, va_K.moved hW.alike hK, hDc.weaken (fun _ _ _ _ => trivial)⟩⟩ rfl rfl hl.1 rfl (lv_room (Nat.le_of_ble_eq_true rfl)) d_Model_rule_72 ⟨Nat.zero_le _, Nat.zero_le _⟩) hS (fun q _ h => hFc q h) hFc (fun r1 u t H1 locs ht hvm hw hB hz1 hk1 hS => ?_)
          rw [show r1 = _ from hw]
          obtain ⟨hP1, hK1, hD1⟩ := hB
          rw [ht] at hP1
          obtain ⟨hP, hD⟩ := va_join (wr := [(a0, .inr (9, [.int x0_0, .ref a5, .int x0_2, .int x0_3, .ref a2, .ref a3, .ref a4, v0_7, v0_8, v0_9, v0_10, v0_11, .int x0_12, v0_13, v0_14, v0_15, v0_16, v0_17, .ref a1, v0_19, v0_20, v0_21, .int x0_22, .int x0_23, v0_24, v0_25, v0_26, v0_27, v0_28])), (a1, .inl (kA 0, 24, .inl f1)), (a2, .inl (kA 0, 11, .inl f2)), (a3, .inl (kA 0, 11, .inl f3)), (a4, .inl (kA 0, 44, .inl f4)), (a5, .inl (kA 2, 10, .inl f5))]) (w1 := (wd_Model_isLetter kA )) hP hD [] [0, 1, 2, 3, 4, 5] rfl rfl (by decide) (by decide) hk1 hFc hP1 hD1
          have hP := hP.sub (ws' := (wd_Model_rule kA a0 a1 a2 a3 a4 a5 v0_7 v0_8 v0_9 v0_10 v0_11 v0_13 v0_14 v0_15 v0_16 v0_17 v0_19 v0_20 v0_21 v0_24 v0_25 v0_26 v0_27 v0_28 x0_0 x0_2 x0_3 x0_12 x0_22 x0_23 f1 f2 f3 f4 f5)) [0, 1, 2, 3, 4, 5] rfl
          have hD := hD.sub (ws' := (wd_Model_rule kA a0 a1 a2 a3 a4 a5 v0_7 v0_8 v0_9 v0_10 v0_11 v0_13 v0_14 v0_15 v0_16 v0_17 v0_19 v0_20 v0_21 v0_24 v0_25 v0_26 v0_27 v0_28 x0_0 x0_2 x0_3 x0_12 x0_22 x0_23 f1 f2 f3 f4 f5)) [0, 1, 2, 3, 4, 5] (by decide) rfl
          clear hPc hDc hFc hP1 hK1 hD1
          generalize H1 = H at hP hS ⊢
          refine lv_if_ne (tgt := 90) hx hb d_Model_rule_75 (by decide) (fun c_9 => ?_) (fun c_9 => ?_)
          · rw [if_pos c_9] at hF
            refine lv_iconst (v := 1) hx hb d_Model_rule_90 (by decide) ?_
            refine lv_goto (tgt := 95) hx hb d_Model_rule_91 (by decide) ?_
            refine lv_istore_n (lv' := [(2, .int 1), (0, .ref a0), (1, .int l1), (3, .int l3)]) hx hb d_Model_rule_95 rfl hl (by decide) rfl (fun ls hl => ?_)
            refine lv_iinc (v := (l3 + 1)) (lv' := [(3, .int (l3 + 1)), (2, .int 1), (0, .ref a0), (1, .int l1)]) hx hb d_Model_rule_96 hl (k := 3) rfl (by rfl) (by decide) rfl (fun ls hl => ?_)
            refine lv_goto (tgt := 57) hx hb d_Model_rule_99 (by decide) ?_
            exact ih.1 l1 1 (l3 + 1) 0 0 x0_0 x0_2 x0_3 x0_12 x0_22 x0_23 f1 f2 f3 f4 hF _ _ _ hP hD hS (lv_sub hl [2, 3, 1, 0] rfl)
          · rw [if_neg (fun z => z c_9)] at hF
            refine lv_aload_n hx hb d_Model_rule_78 rfl (lv_at hl 0 rfl) ?_
            refine va_get (D := (dC, dI)) (ci := 9) (v := .ref a5) (C := R_Model) (T := F_Model) (N := 29) hx hb hg iw_Model hown hK hP 0 rfl rfl 1 (by decide) (hg _ gw_261) (fun _ h9 => h9) rfl d_Model_rule_79 ?_
            refine lv_iload_n hx hb d_Model_rule_82 rfl (lv_at hl 3 rfl) ?_
            obtain ⟨h_10, hF⟩ := rd_chk hF
            refine va_cald hx hb hK hP 5 2 rfl rfl h_10 d_Model_rule_83 ?_
            obtain ⟨u_11, hS_11, hF⟩ := rd_bind hF
            have hPc := hP.sub (ws' := (wd_Model_isName kA )) [] rfl
            have hDc := hD.sub (ws' := (wd_Model_isName kA )) [] (by decide) rfl
            have hFc := va_free (wc := (wd_Model_isName kA )) hD hS hA [] rfl
            refine va_calli (va_runS (As := [.int (f5 (Int32.toNatClampNeg l3))]) (rest := []) ⟨hx, hb, hml, hown, hts⟩ (c_Model_isName l dC dI kA H.size (f5 (Int32.toNatClampNeg l3)) u_11 hS_11) (cwS 1 hts (gw_S gw_272 gw_273 gw_267 gw_274) rfl rfl rfl (by decide +kernel) ⟨Nat.le_of_ble_eq_true rfl, Nat.le_of_ble_eq_true rfl⟩) ⟨fun a U g mk q => by obtain ⟨q0, q1, qP, qK, qD⟩ := q; exact ⟨q0, q1, qP, va_K.moved (u := U) (U := U.calling g mk a) (Vm.Alike.refl U.vm) qK, qD⟩, fun U hU hW => ⟨rfl, by rw [hU], by rw [hU]; exact hPc, va_K.moved hW.alike hK, hDc.weaken (fun _ _ _ _ => trivial)⟩⟩ rfl rfl hl.1 rfl (lv_room (Nat.le_of_ble_eq_true rfl)) d_Model_rule_84 ⟨Nat.zero_le _, Nat.zero_le _⟩) hS (fun q _ h => hFc q h) hFc (fun r1 u t H1 locs ht hvm hw hB hz1 hk1 hS => ?_)
            rw [show r1 = _ from hw]
            obtain ⟨hP1, hK1, hD1⟩ := hB
            rw [ht] at hP1
            obtain ⟨hP, hD⟩ := va_join (wr := [(a0, .inr (9, [.int x0_0, .ref a5, .int x0_2, .int x0_3, .ref a2, .ref a3, .ref a4, v0_7, v0_8, v0_9, v0_10, v0_11, .int x0_12, v0_13, v0_14, v0_15, v0_16, v0_17, .ref a1, v0_19, v0_20, v0_21, .int x0_22, .int x0_23, v0_24, v0_25, v0_26, v0_27, v0_28])), (a1, .inl (kA 0, 24, .inl f1)), (a2, .inl (kA 0, 11, .inl f2)), (a3, .inl (kA 0, 11, .inl f3)), (a4, .inl (kA 0, 44, .inl f4)), (a5, .inl (kA 2, 10, .inl f5))]) (w1 := (wd_Model_isName kA )) hP hD [] [0, 1, 2, 3, 4, 5] rfl rfl (by decide) (by decide) hk1 hFc hP1 hD1
            have hP := hP.sub (ws' := (wd_Model_rule kA a0 a1 a2 a3 a4 a5 v0_7 v0_8 v0_9 v0_10 v0_11 v0_13 v0_14 v0_15 v0_16 v0_17 v0_19 v0_20 v0_21 v0_24 v0_25 v0_26 v0_27 v0_28 x0_0 x0_2 x0_3 x0_12 x0_22 x0_23 f1 f2 f3 f4 f5)) [0, 1, 2, 3, 4, 5] rfl
            have hD := hD.sub (ws' := (wd_Model_rule kA a0 a1 a2 a3 a4 a5 v0_7 v0_8 v0_9 v0_10 v0_11 v0_13 v0_14 v0_15 v0_16 v0_17 v0_19 v0_20 v0_21 v0_24 v0_25 v0_26 v0_27 v0_28 x0_0 x0_2 x0_3 x0_12 x0_22 x0_23 f1 f2 f3 f4 f5)) [0, 1, 2, 3, 4, 5] (by decide) rfl
            clear hPc hDc hFc hP1 hK1 hD1
            generalize H1 = H at hP hS ⊢
            refine lv_if_eq (tgt := 94) hx hb d_Model_rule_87 (by decide) (fun c_12 => ?_) (fun c_12 => ?_)
            · rw [if_pos c_12] at hF
              refine lv_iconst (v := 0) hx hb d_Model_rule_94 (by decide) ?_
              refine lv_istore_n (lv' := [(2, .int 0), (0, .ref a0), (1, .int l1), (3, .int l3)]) hx hb d_Model_rule_95 rfl hl (by decide) rfl (fun ls hl => ?_)
              refine lv_iinc (v := (l3 + 1)) (lv' := [(3, .int (l3 + 1)), (2, .int 0), (0, .ref a0), (1, .int l1)]) hx hb d_Model_rule_96 hl (k := 3) rfl (by rfl) (by decide) rfl (fun ls hl => ?_)
              refine lv_goto (tgt := 57) hx hb d_Model_rule_99 (by decide) ?_
              exact ih.1 l1 0 (l3 + 1) 0 0 x0_0 x0_2 x0_3 x0_12 x0_22 x0_23 f1 f2 f3 f4 hF _ _ _ hP hD hS (lv_sub hl [2, 3, 1, 0] rfl)
            · rw [if_neg c_12] at hF
              refine lv_iconst (v := 1) hx hb d_Model_rule_90 (by decide) ?_
              refine lv_goto (tgt := 95) hx hb d_Model_rule_91 (by decide) ?_
              refine lv_istore_n (lv' := [(2, .int 1), (0, .ref a0), (1, .int l1), (3, .int l3)]) hx hb d_Model_rule_95 rfl hl (by decide) rfl (fun ls hl => ?_)
              refine lv_iinc (v := (l3 + 1)) (lv' := [(3, .int (l3 + 1)), (2, .int 1), (0, .ref a0), (1, .int l1)]) hx hb d_Model_rule_96 hl (k := 3) rfl (by rfl) (by decide) rfl (fun ls hl => ?_)
              refine lv_goto (tgt := 57) hx hb d_Model_rule_99 (by decide) ?_
              exact ih.1 l1 1 (l3 + 1) 0 0 x0_0 x0_2 x0_3 x0_12 x0_22 x0_23 f1 f2 f3 f4 hF _ _ _ hP hD hS (lv_sub hl [2, 3, 1, 0] rfl)
    · intro l1 l2 l3 l4 l5 x0_0 x0_2 x0_3 x0_12 x0_22 x0_23 f1 f2 f3 f4 hF H locs ls hP hD hS hl
      have hF : B_Model_rule_1 (F_Model_rule f5 n) f5 l1 l2 l3 l4 l5 x0_0 x0_2 x0_3 x0_12 x0_22 x0_23 f1 f2 f3 f4 = some (r, ox0_0, ox0_2, ox0_3, ox0_12, ox0_22, ox0_23, of1, of2, of3, of4) := hF
      unfold B_Model_rule_1 at hF
      refine lv_iload_n hx hb d_Model_rule_114 rfl (lv_at hl 3 rfl) ?_
      refine lv_iload_n hx hb d_Model_rule_115 rfl (lv_at hl 1 rfl) ?_
      refine lv_icmp_ge (tgt := 169) hx hb d_Model_rule_116 (by decide) (fun c_13 => ?_) (fun c_13 => ?_)
      · rw [if_pos c_13] at hF
        refine lv_iconst (v := 0) hx hb d_Model_rule_169 (by decide) ?_
        refine lv_istore_n (lv' := [(3, .int 0), (0, .ref a0), (1, .int l1), (2, .int l2)]) hx hb d_Model_rule_170 rfl hl (by decide) rfl (fun ls hl => ?_)
        exact ih.2.2.1 l1 l2 0 0 0 x0_0 x0_2 x0_3 x0_12 x0_22 x0_23 f1 f2 f3 f4 hF _ _ _ hP hD hS (lv_sub hl [1, 2, 3, 0] rfl)
      · rw [if_neg c_13] at hF
        refine lv_aload_n hx hb d_Model_rule_119 rfl (lv_at hl 0 rfl) ?_
        refine va_get (D := (dC, dI)) (ci := 9) (v := .ref a1) (C := R_Model) (T := F_Model) (N := 29) hx hb hg iw_Model hown hK hP 0 rfl rfl 18 (by decide) (hg _ gw_275) (fun _ h9 => h9) rfl d_Model_rule_120 ?_
        refine lv_iload_n hx hb d_Model_rule_123 rfl (lv_at hl 3 rfl) ?_
        refine lv_iconst (v := 2) hx hb d_Model_rule_124 (by decide) ?_
        refine lv_isub hx hb d_Model_rule_125 ?_
        refine lv_aload_n hx hb d_Model_rule_126 rfl (lv_at hl 0 rfl) ?_
        refine va_get (D := (dC, dI)) (ci := 9) (v := .ref a5) (C := R_Model) (T := F_Model) (N := 29) hx hb hg iw_Model hown hK hP 0 rfl rfl 1 (by decide) (hg _ gw_261) (fun _ h9 => h9) rfl d_Model_rule_127 ?_
        refine lv_iload_n hx hb d_Model_rule_130 rfl (lv_at hl 3 rfl) ?_
        obtain ⟨h_14, hF⟩ := rd_chk hF
        refine va_cald hx hb hK hP 5 2 rfl rfl h_14 d_Model_rule_131 ?_
        obtain ⟨u_15, hS_15, hF⟩ := rd_bind hF
        have hPc := hP.sub (ws' := (wd_Model_isLetter kA )) [] rfl
        have hDc := hD.sub (ws' := (wd_Model_isLetter kA )) [] (by decide) rfl
        have hFc := va_free (wc := (wd_Model_isLetter kA )) hD hS hA [] rfl
        refine va_calli (va_runS (As := [.int (f5 (Int32.toNatClampNeg l3))]) (rest := [.int (l3 - 2), .ref a1]) ⟨hx, hb, hml, hown, hts⟩ (c_Model_isLetter l dC dI kA H.size (f5 (Int32.toNatClampNeg l3)) u_15 hS_15) (cwS 1 hts (gw_S gw_269 gw_270 gw_267 gw_271) rfl rfl rfl (by decide +kernel) ⟨Nat.le_of_ble_eq_true rfl, Nat.le_of_ble_eq_true rfl⟩) ⟨fun a U g mk q => by obtain ⟨q0, q1, qP, qK, qD⟩ := q; exact ⟨q0, q1, qP, va_K.moved (u := U) (U := U.calling g mk a) (Vm.Alike.refl U.vm) qK, qD⟩, fun U hU hW => ⟨rfl, by rw [hU], by rw [hU]; exact hPc, va_K.moved hW.alike hK, hDc.weaken (fun _ _ _ _ => trivial)⟩⟩ rfl rfl hl.1 rfl (lv_room (Nat.le_of_ble_eq_true rfl)) d_Model_rule_132 ⟨Nat.zero_le _, Nat.zero_le _⟩) hS (fun q _ h => hFc q h) hFc (fun r1 u t H1 locs ht hvm hw hB hz1 hk1 hS => ?_)
        rw [show r1 = _ from hw]
        obtain ⟨hP1, hK1, hD1⟩ := hB
        rw [ht] at hP1
        obtain ⟨hP, hD⟩ := va_join (wr := [(a0, .inr (9, [.int x0_0, .ref a5, .int x0_2, .int x0_3, .ref a2, .ref a3, .ref a4, v0_7, v0_8, v0_9, v0_10, v0_11, .int x0_12, v0_13, v0_14, v0_15, v0_16, v0_17, .ref a1, v0_19, v0_20, v0_21, .int x0_22, .int x0_23, v0_24, v0_25, v0_26, v0_27, v0_28])), (a1, .inl (kA 0, 24, .inl f1)), (a2, .inl (kA 0, 11, .inl f2)), (a3, .inl (kA 0, 11, .inl f3)), (a4, .inl (kA 0, 44, .inl f4)), (a5, .inl (kA 2, 10, .inl f5))]) (w1 := (wd_Model_isLetter kA )) hP hD [] [0, 1, 2, 3, 4, 5] rfl rfl (by decide) (by decide) hk1 hFc hP1 hD1
        have hP := hP.sub (ws' := (wd_Model_rule kA a0 a1 a2 a3 a4 a5 v0_7 v0_8 v0_9 v0_10 v0_11 v0_13 v0_14 v0_15 v0_16 v0_17 v0_19 v0_20 v0_21 v0_24 v0_25 v0_26 v0_27 v0_28 x0_0 x0_2 x0_3 x0_12 x0_22 x0_23 f1 f2 f3 f4 f5)) [0, 1, 2, 3, 4, 5] rfl
        have hD := hD.sub (ws' := (wd_Model_rule kA a0 a1 a2 a3 a4 a5 v0_7 v0_8 v0_9 v0_10 v0_11 v0_13 v0_14 v0_15 v0_16 v0_17 v0_19 v0_20 v0_21 v0_24 v0_25 v0_26 v0_27 v0_28 x0_0 x0_2 x0_3 x0_12 x0_22 x0_23 f1 f2 f3 f4 f5)) [0, 1, 2, 3, 4, 5] (by decide) rfl
        clear hPc hDc hFc hP1 hK1 hD1
        generalize H1 = H at hP hS ⊢
        refine lv_if_eq (tgt := 150) hx hb d_Model_rule_135 (by decide) (fun c_16 => ?_) (fun c_16 => ?_)
        · rw [if_pos c_16] at hF
          refine lv_bipush (v := 6) hx hb d_Model_rule_150 (by decide) ?_
          refine lv_aload_n hx hb d_Model_rule_152 rfl (lv_at hl 0 rfl) ?_
          refine va_get (D := (dC, dI)) (ci := 9) (v := .ref a5) (C := R_Model) (T := F_Model) (N := 29) hx hb hg iw_Model hown hK hP 0 rfl rfl 1 (by decide) (hg _ gw_261) (fun _ h9 => h9) rfl d_Model_rule_153 ?_
          refine lv_iload_n hx hb d_Model_rule_156 rfl (lv_at hl 3 rfl) ?_
          obtain ⟨h_17, hF⟩ := rd_chk hF
          refine va_cald hx hb hK hP 5 2 rfl rfl h_17 d_Model_rule_157 ?_
          refine lv_iadd hx hb d_Model_rule_158 ?_
          refine lv_bipush (v := 65) hx hb d_Model_rule_159 (by decide) ?_
          refine lv_isub hx hb d_Model_rule_161 ?_
          obtain ⟨h_18, hF⟩ := rd_chk hF
          refine va_iast hx hb hK hP hD hS 1 0 rfl rfl h_18 d_Model_rule_162 (fun H locs hP hD hS => ?_)
          have hP : va_P (dC, dI) classes (wd_Model_rule kA a0 a1 a2 a3 a4 a5 v0_7 v0_8 v0_9 v0_10 v0_11 v0_13 v0_14 v0_15 v0_16 v0_17 v0_19 v0_20 v0_21 v0_24 v0_25 v0_26 v0_27 v0_28 x0_0 x0_2 x0_3 x0_12 x0_22 x0_23 (upd f1 (Int32.toNatClampNeg (l3 - 2)) ((6 + (f5 (Int32.toNatClampNeg l3))) - 65)) f2 f3 f4 f5) H := hP
          have hD : va_D A (wd_Model_rule kA a0 a1 a2 a3 a4 a5 v0_7 v0_8 v0_9 v0_10 v0_11 v0_13 v0_14 v0_15 v0_16 v0_17 v0_19 v0_20 v0_21 v0_24 v0_25 v0_26 v0_27 v0_28 x0_0 x0_2 x0_3 x0_12 x0_22 x0_23 (upd f1 (Int32.toNatClampNeg (l3 - 2)) ((6 + (f5 (Int32.toNatClampNeg l3))) - 65)) f2 f3 f4 f5) := hD
          refine lv_iinc (v := (l3 + 1)) (lv' := [(3, .int (l3 + 1)), (0, .ref a0), (1, .int l1), (2, .int l2)]) hx hb d_Model_rule_163 hl (k := 3) rfl (by rfl) (by decide) rfl (fun ls hl => ?_)
          refine lv_goto (tgt := 114) hx hb d_Model_rule_166 (by decide) ?_
          exact ih.2.1 l1 l2 (l3 + 1) 0 0 x0_0 x0_2 x0_3 x0_12 x0_22 x0_23 (upd f1 (Int32.toNatClampNeg (l3 - 2)) ((6 + (f5 (Int32.toNatClampNeg l3))) - 65)) f2 f3 f4 hF _ _ _ hP hD hS (lv_sub hl [1, 2, 3, 0] rfl)
        · rw [if_neg c_16] at hF
          refine lv_aload_n hx hb d_Model_rule_138 rfl (lv_at hl 0 rfl) ?_
          refine va_get (D := (dC, dI)) (ci := 9) (v := .ref a5) (C := R_Model) (T := F_Model) (N := 29) hx hb hg iw_Model hown hK hP 0 rfl rfl 1 (by decide) (hg _ gw_261) (fun _ h9 => h9) rfl d_Model_rule_139 ?_
          refine lv_iload_n hx hb d_Model_rule_142 rfl (lv_at hl 3 rfl) ?_
          obtain ⟨h_19, hF⟩ := rd_chk hF
          refine va_cald hx hb hK hP 5 2 rfl rfl h_19 d_Model_rule_143 ?_
          refine lv_bipush (v := 97) hx hb d_Model_rule_144 (by decide) ?_
          refine lv_isub hx hb d_Model_rule_146 ?_
          refine lv_goto (tgt := 162) hx hb d_Model_rule_147 (by decide) ?_
          obtain ⟨h_20, hF⟩ := rd_chk hF
          refine va_iast hx hb hK hP hD hS 1 0 rfl rfl h_20 d_Model_rule_162 (fun H locs hP hD hS => ?_)
          have hP : va_P (dC, dI) classes (wd_Model_rule kA a0 a1 a2 a3 a4 a5 v0_7 v0_8 v0_9 v0_10 v0_11 v0_13 v0_14 v0_15 v0_16 v0_17 v0_19 v0_20 v0_21 v0_24 v0_25 v0_26 v0_27 v0_28 x0_0 x0_2 x0_3 x0_12 x0_22 x0_23 (upd f1 (Int32.toNatClampNeg (l3 - 2)) ((f5 (Int32.toNatClampNeg l3)) - 97)) f2 f3 f4 f5) H := hP
          have hD : va_D A (wd_Model_rule kA a0 a1 a2 a3 a4 a5 v0_7 v0_8 v0_9 v0_10 v0_11 v0_13 v0_14 v0_15 v0_16 v0_17 v0_19 v0_20 v0_21 v0_24 v0_25 v0_26 v0_27 v0_28 x0_0 x0_2 x0_3 x0_12 x0_22 x0_23 (upd f1 (Int32.toNatClampNeg (l3 - 2)) ((f5 (Int32.toNatClampNeg l3)) - 97)) f2 f3 f4 f5) := hD
          refine lv_iinc (v := (l3 + 1)) (lv' := [(3, .int (l3 + 1)), (0, .ref a0), (1, .int l1), (2, .int l2)]) hx hb d_Model_rule_163 hl (k := 3) rfl (by rfl) (by decide) rfl (fun ls hl => ?_)
          refine lv_goto (tgt := 114) hx hb d_Model_rule_166 (by decide) ?_
          exact ih.2.1 l1 l2 (l3 + 1) 0 0 x0_0 x0_2 x0_3 x0_12 x0_22 x0_23 (upd f1 (Int32.toNatClampNeg (l3 - 2)) ((f5 (Int32.toNatClampNeg l3)) - 97)) f2 f3 f4 hF _ _ _ hP hD hS (lv_sub hl [1, 2, 3, 0] rfl)
    · intro l1 l2 l3 l4 l5 x0_0 x0_2 x0_3 x0_12 x0_22 x0_23 f1 f2 f3 f4 hF H locs ls hP hD hS hl
      have hF : B_Model_rule_2 (F_Model_rule f5 n) f5 l1 l2 l3 l4 l5 x0_0 x0_2 x0_3 x0_12 x0_22 x0_23 f1 f2 f3 f4 = some (r, ox0_0, ox0_2, ox0_3, ox0_12, ox0_22, ox0_23, of1, of2, of3, of4) := hF
      unfold B_Model_rule_2 at hF
      refine lv_iload_n hx hb d_Model_rule_171 rfl (lv_at hl 3 rfl) ?_
      refine lv_aload_n hx hb d_Model_rule_172 rfl (lv_at hl 0 rfl) ?_
      refine va_get (D := (dC, dI)) (ci := 9) (v := .int x0_3) (C := R_Model) (T := F_Model) (N := 29) hx hb hg iw_Model hown hK hP 0 rfl rfl 3 (by decide) (hg _ gw_276) (fun _ h9 => h9) rfl d_Model_rule_173 ?_
      refine lv_icmp_ge (tgt := 283) hx hb d_Model_rule_176 (by decide) (fun c_21 => ?_) (fun c_21 => ?_)
      · rw [if_pos c_21] at hF
        refine lv_aload_n hx hb d_Model_rule_283 rfl (lv_at hl 0 rfl) ?_
        refine va_get (D := (dC, dI)) (ci := 9) (v := .int x0_3) (C := R_Model) (T := F_Model) (N := 29) hx hb hg iw_Model hown hK hP 0 rfl rfl 3 (by decide) (hg _ gw_276) (fun _ h9 => h9) rfl d_Model_rule_284 ?_
        refine lv_bipush (v := 10) hx hb d_Model_rule_287 (by decide) ?_
        refine lv_icmp_ne (tgt := 298) hx hb d_Model_rule_289 (by decide) (fun c_22 => ?_) (fun c_22 => ?_)
        · rw [if_pos c_22] at hF
          refine lv_aload_n hx hb d_Model_rule_298 rfl (lv_at hl 0 rfl) ?_
          refine va_get (D := (dC, dI)) (ci := 9) (v := .ref a2) (C := R_Model) (T := F_Model) (N := 29) hx hb hg iw_Model hown hK hP 0 rfl rfl 4 (by decide) (hg _ gw_277) (fun _ h9 => h9) rfl d_Model_rule_299 ?_
          refine lv_aload_n hx hb d_Model_rule_302 rfl (lv_at hl 0 rfl) ?_
          refine va_get (D := (dC, dI)) (ci := 9) (v := .int x0_3) (C := R_Model) (T := F_Model) (N := 29) hx hb hg iw_Model hown hK hP 0 rfl rfl 3 (by decide) (hg _ gw_276) (fun _ h9 => h9) rfl d_Model_rule_303 ?_
          refine lv_aload_n hx hb d_Model_rule_306 rfl (lv_at hl 0 rfl) ?_
          refine va_get (D := (dC, dI)) (ci := 9) (v := .ref a5) (C := R_Model) (T := F_Model) (N := 29) hx hb hg iw_Model hown hK hP 0 rfl rfl 1 (by decide) (hg _ gw_261) (fun _ h9 => h9) rfl d_Model_rule_307 ?_
          refine lv_iconst (v := 0) hx hb d_Model_rule_310 (by decide) ?_
          obtain ⟨h_23, hF⟩ := rd_chk hF
          refine va_cald hx hb hK hP 5 2 rfl rfl h_23 d_Model_rule_311 ?_
          refine lv_bipush (v := 65) hx hb d_Model_rule_312 (by decide) ?_
          refine lv_isub hx hb d_Model_rule_314 ?_
          obtain ⟨h_24, hF⟩ := rd_chk hF
          refine va_iast hx hb hK hP hD hS 2 0 rfl rfl h_24 d_Model_rule_315 (fun H locs hP hD hS => ?_)
          have hP : va_P (dC, dI) classes (wd_Model_rule kA a0 a1 a2 a3 a4 a5 v0_7 v0_8 v0_9 v0_10 v0_11 v0_13 v0_14 v0_15 v0_16 v0_17 v0_19 v0_20 v0_21 v0_24 v0_25 v0_26 v0_27 v0_28 x0_0 x0_2 x0_3 x0_12 x0_22 x0_23 f1 (upd f2 (Int32.toNatClampNeg x0_3) ((f5 (Int32.toNatClampNeg 0)) - 65)) f3 f4 f5) H := hP
          have hD : va_D A (wd_Model_rule kA a0 a1 a2 a3 a4 a5 v0_7 v0_8 v0_9 v0_10 v0_11 v0_13 v0_14 v0_15 v0_16 v0_17 v0_19 v0_20 v0_21 v0_24 v0_25 v0_26 v0_27 v0_28 x0_0 x0_2 x0_3 x0_12 x0_22 x0_23 f1 (upd f2 (Int32.toNatClampNeg x0_3) ((f5 (Int32.toNatClampNeg 0)) - 65)) f3 f4 f5) := hD
          refine lv_aload_n hx hb d_Model_rule_316 rfl (lv_at hl 0 rfl) ?_
          refine va_get (D := (dC, dI)) (ci := 9) (v := .ref a3) (C := R_Model) (T := F_Model) (N := 29) hx hb hg iw_Model hown hK hP 0 rfl rfl 5 (by decide) (hg _ gw_278) (fun _ h9 => h9) rfl d_Model_rule_317 ?_
          refine lv_aload_n hx hb d_Model_rule_320 rfl (lv_at hl 0 rfl) ?_
          refine va_get (D := (dC, dI)) (ci := 9) (v := .int x0_3) (C := R_Model) (T := F_Model) (N := 29) hx hb hg iw_Model hown hK hP 0 rfl rfl 3 (by decide) (hg _ gw_276) (fun _ h9 => h9) rfl d_Model_rule_321 ?_
          refine lv_iload_n hx hb d_Model_rule_324 rfl (lv_at hl 1 rfl) ?_
          refine lv_iconst (v := 2) hx hb d_Model_rule_325 (by decide) ?_
          refine lv_isub hx hb d_Model_rule_326 ?_
          obtain ⟨h_25, hF⟩ := rd_chk hF
          refine va_iast hx hb hK hP hD hS 3 0 rfl rfl h_25 d_Model_rule_327 (fun H locs hP hD hS => ?_)
          have hP : va_P (dC, dI) classes (wd_Model_rule kA a0 a1 a2 a3 a4 a5 v0_7 v0_8 v0_9 v0_10 v0_11 v0_13 v0_14 v0_15 v0_16 v0_17 v0_19 v0_20 v0_21 v0_24 v0_25 v0_26 v0_27 v0_28 x0_0 x0_2 x0_3 x0_12 x0_22 x0_23 f1 (upd f2 (Int32.toNatClampNeg x0_3) ((f5 (Int32.toNatClampNeg 0)) - 65)) (upd f3 (Int32.toNatClampNeg x0_3) (l1 - 2)) f4 f5) H := hP
          have hD : va_D A (wd_Model_rule kA a0 a1 a2 a3 a4 a5 v0_7 v0_8 v0_9 v0_10 v0_11 v0_13 v0_14 v0_15 v0_16 v0_17 v0_19 v0_20 v0_21 v0_24 v0_25 v0_26 v0_27 v0_28 x0_0 x0_2 x0_3 x0_12 x0_22 x0_23 f1 (upd f2 (Int32.toNatClampNeg x0_3) ((f5 (Int32.toNatClampNeg 0)) - 65)) (upd f3 (Int32.toNatClampNeg x0_3) (l1 - 2)) f4 f5) := hD
          refine lv_iconst (v := 0) hx hb d_Model_rule_328 (by decide) ?_
          refine lv_istore_n (lv' := [(3, .int 0), (0, .ref a0), (1, .int l1), (2, .int l2)]) hx hb d_Model_rule_329 rfl hl (by decide) rfl (fun ls hl => ?_)
          exact ih.2.2.2.2 l1 l2 0 0 0 x0_0 x0_2 x0_3 x0_12 x0_22 x0_23 f1 (upd f2 (Int32.toNatClampNeg x0_3) ((f5 (Int32.toNatClampNeg 0)) - 65)) (upd f3 (Int32.toNatClampNeg x0_3) (l1 - 2)) f4 hF _ _ _ hP hD hS (lv_sub hl [1, 2, 3, 0] rfl)
        · rw [if_neg (fun z => z c_22)] at hF
          refine lv_aload_n hx hb d_Model_rule_292 rfl (lv_at hl 0 rfl) ?_
          refine lv_iconst (v := 2) hx hb d_Model_rule_293 (by decide) ?_
          obtain ⟨u_26, hS_26, hF⟩ := rd_bind hF
          have hPc := hP.sub (ws' := (wd_Model_fails kA a0 (.ref a5) (.int x0_2) (.int x0_3) (.ref a2) (.ref a3) (.ref a4) v0_7 v0_8 v0_9 v0_10 v0_11 (.int x0_12) v0_13 v0_14 v0_15 v0_16 v0_17 (.ref a1) v0_19 v0_20 v0_21 (.int x0_22) (.int x0_23) v0_24 v0_25 v0_26 v0_27 v0_28 x0_0)) [0] rfl
          have hDc := hD.sub (ws' := (wd_Model_fails kA a0 (.ref a5) (.int x0_2) (.int x0_3) (.ref a2) (.ref a3) (.ref a4) v0_7 v0_8 v0_9 v0_10 v0_11 (.int x0_12) v0_13 v0_14 v0_15 v0_16 v0_17 (.ref a1) v0_19 v0_20 v0_21 (.int x0_22) (.int x0_23) v0_24 v0_25 v0_26 v0_27 v0_28 x0_0)) [0] (by decide) rfl
          have hFc := va_free (wc := (wd_Model_fails kA a0 (.ref a5) (.int x0_2) (.int x0_3) (.ref a2) (.ref a3) (.ref a4) v0_7 v0_8 v0_9 v0_10 v0_11 (.int x0_12) v0_13 v0_14 v0_15 v0_16 v0_17 (.ref a1) v0_19 v0_20 v0_21 (.int x0_22) (.int x0_23) v0_24 v0_25 v0_26 v0_27 v0_28 x0_0)) hD hS hA [0] rfl
          refine va_calli (va_runV (As := [.int 2]) (rest := []) ⟨hx, hb, hml, hown, hts⟩ (c_Model_fails l dC dI kA H.size a0 (.ref a5) (.int x0_2) (.int x0_3) (.ref a2) (.ref a3) (.ref a4) v0_7 v0_8 v0_9 v0_10 v0_11 (.int x0_12) v0_13 v0_14 v0_15 v0_16 v0_17 (.ref a1) v0_19 v0_20 v0_21 (.int x0_22) (.int x0_23) v0_24 v0_25 v0_26 v0_27 v0_28 2 x0_0 u_26.1 u_26.2 hS_26) (cwV 1 hts (gw_V gw_264 gw_265 gw_266 gw_267 gw_268) rfl rfl rfl (by decide +kernel) ⟨Nat.le_of_ble_eq_true rfl, Nat.le_of_ble_eq_true rfl⟩) ⟨fun a U g mk q => by obtain ⟨q0, q1, qP, qK, qD⟩ := q; exact ⟨q0, q1, qP, va_K.moved (u := U) (U := U.calling g mk a) (Vm.Alike.refl U.vm) qK, qD⟩, va_recv hK hP (ci := 9) (q0 := 0) rfl rfl, fun U hU hW => ⟨rfl, by rw [hU], by rw [hU]; exact hPc, va_K.moved hW.alike hK, hDc.weaken (fun _ _ _ _ => trivial)⟩⟩ rfl rfl hl.1 rfl (lv_room (Nat.le_of_ble_eq_true rfl)) d_Model_rule_294 ⟨Nat.zero_le _, Nat.zero_le _⟩) hS (fun q _ h => hFc q h) hFc (fun r1 u t H1 locs ht hvm hw hB hz1 hk1 hS => ?_)
          rw [show r1 = _ from hw]
          obtain ⟨hP1, hK1, hD1⟩ := hB
          rw [ht] at hP1
          obtain ⟨hP, hD⟩ := va_join (wr := [(a1, .inl (kA 0, 24, .inl f1)), (a2, .inl (kA 0, 11, .inl f2)), (a3, .inl (kA 0, 11, .inl f3)), (a4, .inl (kA 0, 44, .inl f4)), (a5, .inl (kA 2, 10, .inl f5))]) (w1 := (wd_Model_fails kA a0 (.ref a5) (.int x0_2) (.int x0_3) (.ref a2) (.ref a3) (.ref a4) v0_7 v0_8 v0_9 v0_10 v0_11 (.int x0_12) v0_13 v0_14 v0_15 v0_16 v0_17 (.ref a1) v0_19 v0_20 v0_21 (.int x0_22) (.int x0_23) v0_24 v0_25 v0_26 v0_27 v0_28 u_26.2)) hP hD [0] [1, 2, 3, 4, 5] rfl rfl (by decide) (by decide) hk1 hFc hP1 hD1
          have hP := hP.sub (ws' := (wd_Model_rule kA a0 a1 a2 a3 a4 a5 v0_7 v0_8 v0_9 v0_10 v0_11 v0_13 v0_14 v0_15 v0_16 v0_17 v0_19 v0_20 v0_21 v0_24 v0_25 v0_26 v0_27 v0_28 u_26.2 x0_2 x0_3 x0_12 x0_22 x0_23 f1 f2 f3 f4 f5)) [5, 0, 1, 2, 3, 4] rfl
          have hD := hD.sub (ws' := (wd_Model_rule kA a0 a1 a2 a3 a4 a5 v0_7 v0_8 v0_9 v0_10 v0_11 v0_13 v0_14 v0_15 v0_16 v0_17 v0_19 v0_20 v0_21 v0_24 v0_25 v0_26 v0_27 v0_28 u_26.2 x0_2 x0_3 x0_12 x0_22 x0_23 f1 f2 f3 f4 f5)) [5, 0, 1, 2, 3, 4] (by decide) rfl
          clear hPc hDc hFc hP1 hK1 hD1
          generalize H1 = H at hP hS ⊢
          have e0 := Option.some.inj hF
          have q0 := Prod.mk.inj e0
          have q1 := Prod.mk.inj q0.2
          have q2 := Prod.mk.inj q1.2
          have q3 := Prod.mk.inj q2.2
          have q4 := Prod.mk.inj q3.2
          have q5 := Prod.mk.inj q4.2
          have q6 := Prod.mk.inj q5.2
          have q7 := Prod.mk.inj q6.2
          have q8 := Prod.mk.inj q7.2
          have q9 := Prod.mk.inj q8.2
          exact W.iret (v := u_26.1) hx hb hr (fun t ht hW => ⟨⟨u_26.1, (), rfl, q0.1, by rw [ht, ← q1.1, ← q2.1, ← q3.1, ← q4.1, ← q5.1, ← q6.1, ← q7.1, ← q8.1, ← q9.1, ← q9.2]; exact hP, va_K.moved hW.alike hK, (by rw [← q1.1, ← q2.1, ← q3.1, ← q4.1, ← q5.1, ← q6.1, ← q7.1, ← q8.1, ← q9.1, ← q9.2]; exact hD)⟩, hS.F ht⟩) hS.2.2 d_Model_rule_297 hlocks
      · rw [if_neg c_21] at hF
        refine lv_aload_n hx hb d_Model_rule_179 rfl (lv_at hl 0 rfl) ?_
        refine va_get (D := (dC, dI)) (ci := 9) (v := .ref a2) (C := R_Model) (T := F_Model) (N := 29) hx hb hg iw_Model hown hK hP 0 rfl rfl 4 (by decide) (hg _ gw_277) (fun _ h9 => h9) rfl d_Model_rule_180 ?_
        refine lv_iload_n hx hb d_Model_rule_183 rfl (lv_at hl 3 rfl) ?_
        obtain ⟨h_27, hF⟩ := rd_chk hF
        refine va_iald hx hb hK hP 2 0 rfl rfl h_27 d_Model_rule_184 ?_
        refine lv_aload_n hx hb d_Model_rule_185 rfl (lv_at hl 0 rfl) ?_
        refine va_get (D := (dC, dI)) (ci := 9) (v := .ref a5) (C := R_Model) (T := F_Model) (N := 29) hx hb hg iw_Model hown hK hP 0 rfl rfl 1 (by decide) (hg _ gw_261) (fun _ h9 => h9) rfl d_Model_rule_186 ?_
        refine lv_iconst (v := 0) hx hb d_Model_rule_189 (by decide) ?_
        obtain ⟨h_28, hF⟩ := rd_chk hF
        refine va_cald hx hb hK hP 5 2 rfl rfl h_28 d_Model_rule_190 ?_
        refine lv_bipush (v := 65) hx hb d_Model_rule_191 (by decide) ?_
        refine lv_isub hx hb d_Model_rule_193 ?_
        refine lv_icmp_ne (tgt := 213) hx hb d_Model_rule_194 (by decide) (fun c_29 => ?_) (fun c_29 => ?_)
        · rw [if_pos c_29] at hF
          refine lv_iconst (v := 0) hx hb d_Model_rule_213 (by decide) ?_
          refine lv_istore (lv' := [(4, .int 0), (0, .ref a0), (1, .int l1), (2, .int l2), (3, .int l3)]) hx hb d_Model_rule_214 hl (by decide) rfl (fun ls hl => ?_)
          refine lv_iconst (v := 0) hx hb d_Model_rule_216 (by decide) ?_
          refine lv_istore (lv' := [(5, .int 0), (4, .int 0), (0, .ref a0), (1, .int l1), (2, .int l2), (3, .int l3)]) hx hb d_Model_rule_217 hl (by decide) rfl (fun ls hl => ?_)
          exact ih.2.2.2.1 l1 l2 l3 0 0 x0_0 x0_2 x0_3 x0_12 x0_22 x0_23 f1 f2 f3 f4 hF _ _ _ hP hD hS (lv_sub hl [2, 3, 4, 5, 1, 0] rfl)
        · rw [if_neg (fun z => z c_29)] at hF
          refine lv_aload_n hx hb d_Model_rule_197 rfl (lv_at hl 0 rfl) ?_
          refine va_get (D := (dC, dI)) (ci := 9) (v := .ref a3) (C := R_Model) (T := F_Model) (N := 29) hx hb hg iw_Model hown hK hP 0 rfl rfl 5 (by decide) (hg _ gw_278) (fun _ h9 => h9) rfl d_Model_rule_198 ?_
          refine lv_iload_n hx hb d_Model_rule_201 rfl (lv_at hl 3 rfl) ?_
          obtain ⟨h_30, hF⟩ := rd_chk hF
          refine va_iald hx hb hK hP 3 0 rfl rfl h_30 d_Model_rule_202 ?_
          refine lv_iload_n hx hb d_Model_rule_203 rfl (lv_at hl 1 rfl) ?_
          refine lv_iconst (v := 2) hx hb d_Model_rule_204 (by decide) ?_
          refine lv_isub hx hb d_Model_rule_205 ?_
          refine lv_icmp_ne (tgt := 213) hx hb d_Model_rule_206 (by decide) (fun c_31 => ?_) (fun c_31 => ?_)
          · rw [if_pos c_31] at hF
            refine lv_iconst (v := 0) hx hb d_Model_rule_213 (by decide) ?_
            refine lv_istore (lv' := [(4, .int 0), (0, .ref a0), (1, .int l1), (2, .int l2), (3, .int l3)]) hx hb d_Model_rule_214 hl (by decide) rfl (fun ls hl => ?_)
            refine lv_iconst (v := 0) hx hb d_Model_rule_216 (by decide) ?_
            refine lv_istore (lv' := [(5, .int 0), (4, .int 0), (0, .ref a0), (1, .int l1), (2, .int l2), (3, .int l3)]) hx hb d_Model_rule_217 hl (by decide) rfl (fun ls hl => ?_)
            exact ih.2.2.2.1 l1 l2 l3 0 0 x0_0 x0_2 x0_3 x0_12 x0_22 x0_23 f1 f2 f3 f4 hF _ _ _ hP hD hS (lv_sub hl [2, 3, 4, 5, 1, 0] rfl)
          · rw [if_neg (fun z => z c_31)] at hF
            refine lv_iconst (v := 1) hx hb d_Model_rule_209 (by decide) ?_
            refine lv_goto (tgt := 214) hx hb d_Model_rule_210 (by decide) ?_
            refine lv_istore (lv' := [(4, .int 1), (0, .ref a0), (1, .int l1), (2, .int l2), (3, .int l3)]) hx hb d_Model_rule_214 hl (by decide) rfl (fun ls hl => ?_)
            refine lv_iconst (v := 0) hx hb d_Model_rule_216 (by decide) ?_
            refine lv_istore (lv' := [(5, .int 0), (4, .int 1), (0, .ref a0), (1, .int l1), (2, .int l2), (3, .int l3)]) hx hb d_Model_rule_217 hl (by decide) rfl (fun ls hl => ?_)
            exact ih.2.2.2.1 l1 l2 l3 1 0 x0_0 x0_2 x0_3 x0_12 x0_22 x0_23 f1 f2 f3 f4 hF _ _ _ hP hD hS (lv_sub hl [2, 3, 4, 5, 1, 0] rfl)
    · intro l1 l2 l3 l4 l5 x0_0 x0_2 x0_3 x0_12 x0_22 x0_23 f1 f2 f3 f4 hF H locs ls hP hD hS hl
      have hF : B_Model_rule_3 (F_Model_rule f5 n) f5 l1 l2 l3 l4 l5 x0_0 x0_2 x0_3 x0_12 x0_22 x0_23 f1 f2 f3 f4 = some (r, ox0_0, ox0_2, ox0_3, ox0_12, ox0_22, ox0_23, of1, of2, of3, of4) := hF
      unfold B_Model_rule_3 at hF
      refine lv_iload hx hb d_Model_rule_219 (lv_at hl 5 rfl) ?_
      refine lv_iload_n hx hb d_Model_rule_221 rfl (lv_at hl 1 rfl) ?_
      refine lv_iconst (v := 2) hx hb d_Model_rule_222 (by decide) ?_
      refine lv_isub hx hb d_Model_rule_223 ?_
      refine lv_icmp_ge (tgt := 266) hx hb d_Model_rule_224 (by decide) (fun c_32 => ?_) (fun c_32 => ?_)
      · rw [if_pos c_32] at hF
        refine lv_iload hx hb d_Model_rule_266 (lv_at hl 4 rfl) ?_
        refine lv_if_eq (tgt := 277) hx hb d_Model_rule_268 (by decide) (fun c_33 => ?_) (fun c_33 => ?_)
        · rw [if_pos c_33] at hF
          refine lv_iinc (v := (l3 + 1)) (lv' := [(3, .int (l3 + 1)), (0, .ref a0), (1, .int l1), (2, .int l2), (4, .int l4), (5, .int l5)]) hx hb d_Model_rule_277 hl (k := 3) rfl (by rfl) (by decide) rfl (fun ls hl => ?_)
          refine lv_goto (tgt := 171) hx hb d_Model_rule_280 (by decide) ?_
          exact ih.2.2.1 l1 l2 (l3 + 1) 0 0 x0_0 x0_2 x0_3 x0_12 x0_22 x0_23 f1 f2 f3 f4 hF _ _ _ hP hD hS (lv_sub hl [1, 2, 3, 0] rfl)
        · rw [if_neg c_33] at hF
          refine lv_aload_n hx hb d_Model_rule_271 rfl (lv_at hl 0 rfl) ?_
          refine lv_iconst (v := 1) hx hb d_Model_rule_272 (by decide) ?_
          obtain ⟨u_34, hS_34, hF⟩ := rd_bind hF
          have hPc := hP.sub (ws' := (wd_Model_fails kA a0 (.ref a5) (.int x0_2) (.int x0_3) (.ref a2) (.ref a3) (.ref a4) v0_7 v0_8 v0_9 v0_10 v0_11 (.int x0_12) v0_13 v0_14 v0_15 v0_16 v0_17 (.ref a1) v0_19 v0_20 v0_21 (.int x0_22) (.int x0_23) v0_24 v0_25 v0_26 v0_27 v0_28 x0_0)) [0] rfl
          have hDc := hD.sub (ws' := (wd_Model_fails kA a0 (.ref a5) (.int x0_2) (.int x0_3) (.ref a2) (.ref a3) (.ref a4) v0_7 v0_8 v0_9 v0_10 v0_11 (.int x0_12) v0_13 v0_14 v0_15 v0_16 v0_17 (.ref a1) v0_19 v0_20 v0_21 (.int x0_22) (.int x0_23) v0_24 v0_25 v0_26 v0_27 v0_28 x0_0)) [0] (by decide) rfl
          have hFc := va_free (wc := (wd_Model_fails kA a0 (.ref a5) (.int x0_2) (.int x0_3) (.ref a2) (.ref a3) (.ref a4) v0_7 v0_8 v0_9 v0_10 v0_11 (.int x0_12) v0_13 v0_14 v0_15 v0_16 v0_17 (.ref a1) v0_19 v0_20 v0_21 (.int x0_22) (.int x0_23) v0_24 v0_25 v0_26 v0_27 v0_28 x0_0)) hD hS hA [0] rfl
          refine va_calli (va_runV (As := [.int 1]) (rest := []) ⟨hx, hb, hml, hown, hts⟩ (c_Model_fails l dC dI kA H.size a0 (.ref a5) (.int x0_2) (.int x0_3) (.ref a2) (.ref a3) (.ref a4) v0_7 v0_8 v0_9 v0_10 v0_11 (.int x0_12) v0_13 v0_14 v0_15 v0_16 v0_17 (.ref a1) v0_19 v0_20 v0_21 (.int x0_22) (.int x0_23) v0_24 v0_25 v0_26 v0_27 v0_28 1 x0_0 u_34.1 u_34.2 hS_34) (cwV 1 hts (gw_V gw_264 gw_265 gw_266 gw_267 gw_268) rfl rfl rfl (by decide +kernel) ⟨Nat.le_of_ble_eq_true rfl, Nat.le_of_ble_eq_true rfl⟩) ⟨fun a U g mk q => by obtain ⟨q0, q1, qP, qK, qD⟩ := q; exact ⟨q0, q1, qP, va_K.moved (u := U) (U := U.calling g mk a) (Vm.Alike.refl U.vm) qK, qD⟩, va_recv hK hP (ci := 9) (q0 := 0) rfl rfl, fun U hU hW => ⟨rfl, by rw [hU], by rw [hU]; exact hPc, va_K.moved hW.alike hK, hDc.weaken (fun _ _ _ _ => trivial)⟩⟩ rfl rfl hl.1 rfl (lv_room (Nat.le_of_ble_eq_true rfl)) d_Model_rule_273 ⟨Nat.zero_le _, Nat.zero_le _⟩) hS (fun q _ h => hFc q h) hFc (fun r1 u t H1 locs ht hvm hw hB hz1 hk1 hS => ?_)
          rw [show r1 = _ from hw]
          obtain ⟨hP1, hK1, hD1⟩ := hB
          rw [ht] at hP1
          obtain ⟨hP, hD⟩ := va_join (wr := [(a1, .inl (kA 0, 24, .inl f1)), (a2, .inl (kA 0, 11, .inl f2)), (a3, .inl (kA 0, 11, .inl f3)), (a4, .inl (kA 0, 44, .inl f4)), (a5, .inl (kA 2, 10, .inl f5))]) (w1 := (wd_Model_fails kA a0 (.ref a5) (.int x0_2) (.int x0_3) (.ref a2) (.ref a3) (.ref a4) v0_7 v0_8 v0_9 v0_10 v0_11 (.int x0_12) v0_13 v0_14 v0_15 v0_16 v0_17 (.ref a1) v0_19 v0_20 v0_21 (.int x0_22) (.int x0_23) v0_24 v0_25 v0_26 v0_27 v0_28 u_34.2)) hP hD [0] [1, 2, 3, 4, 5] rfl rfl (by decide) (by decide) hk1 hFc hP1 hD1
          have hP := hP.sub (ws' := (wd_Model_rule kA a0 a1 a2 a3 a4 a5 v0_7 v0_8 v0_9 v0_10 v0_11 v0_13 v0_14 v0_15 v0_16 v0_17 v0_19 v0_20 v0_21 v0_24 v0_25 v0_26 v0_27 v0_28 u_34.2 x0_2 x0_3 x0_12 x0_22 x0_23 f1 f2 f3 f4 f5)) [5, 0, 1, 2, 3, 4] rfl
          have hD := hD.sub (ws' := (wd_Model_rule kA a0 a1 a2 a3 a4 a5 v0_7 v0_8 v0_9 v0_10 v0_11 v0_13 v0_14 v0_15 v0_16 v0_17 v0_19 v0_20 v0_21 v0_24 v0_25 v0_26 v0_27 v0_28 u_34.2 x0_2 x0_3 x0_12 x0_22 x0_23 f1 f2 f3 f4 f5)) [5, 0, 1, 2, 3, 4] (by decide) rfl
          clear hPc hDc hFc hP1 hK1 hD1
          generalize H1 = H at hP hS ⊢
          have e0 := Option.some.inj hF
          have q0 := Prod.mk.inj e0
          have q1 := Prod.mk.inj q0.2
          have q2 := Prod.mk.inj q1.2
          have q3 := Prod.mk.inj q2.2
          have q4 := Prod.mk.inj q3.2
          have q5 := Prod.mk.inj q4.2
          have q6 := Prod.mk.inj q5.2
          have q7 := Prod.mk.inj q6.2
          have q8 := Prod.mk.inj q7.2
          have q9 := Prod.mk.inj q8.2
          exact W.iret (v := u_34.1) hx hb hr (fun t ht hW => ⟨⟨u_34.1, (), rfl, q0.1, by rw [ht, ← q1.1, ← q2.1, ← q3.1, ← q4.1, ← q5.1, ← q6.1, ← q7.1, ← q8.1, ← q9.1, ← q9.2]; exact hP, va_K.moved hW.alike hK, (by rw [← q1.1, ← q2.1, ← q3.1, ← q4.1, ← q5.1, ← q6.1, ← q7.1, ← q8.1, ← q9.1, ← q9.2]; exact hD)⟩, hS.F ht⟩) hS.2.2 d_Model_rule_276 hlocks
      · rw [if_neg c_32] at hF
        refine lv_iload hx hb d_Model_rule_227 (lv_at hl 4 rfl) ?_
        refine lv_if_eq (tgt := 266) hx hb d_Model_rule_229 (by decide) (fun c_35 => ?_) (fun c_35 => ?_)
        · rw [if_pos c_35] at hF
          refine lv_iload hx hb d_Model_rule_266 (lv_at hl 4 rfl) ?_
          refine lv_if_eq (tgt := 277) hx hb d_Model_rule_268 (by decide) (fun c_36 => ?_) (fun c_36 => ?_)
          · rw [if_pos c_36] at hF
            refine lv_iinc (v := (l3 + 1)) (lv' := [(3, .int (l3 + 1)), (0, .ref a0), (1, .int l1), (2, .int l2), (4, .int l4), (5, .int l5)]) hx hb d_Model_rule_277 hl (k := 3) rfl (by rfl) (by decide) rfl (fun ls hl => ?_)
            refine lv_goto (tgt := 171) hx hb d_Model_rule_280 (by decide) ?_
            exact ih.2.2.1 l1 l2 (l3 + 1) 0 0 x0_0 x0_2 x0_3 x0_12 x0_22 x0_23 f1 f2 f3 f4 hF _ _ _ hP hD hS (lv_sub hl [1, 2, 3, 0] rfl)
          · rw [if_neg c_36] at hF
            refine lv_aload_n hx hb d_Model_rule_271 rfl (lv_at hl 0 rfl) ?_
            refine lv_iconst (v := 1) hx hb d_Model_rule_272 (by decide) ?_
            obtain ⟨u_37, hS_37, hF⟩ := rd_bind hF
            have hPc := hP.sub (ws' := (wd_Model_fails kA a0 (.ref a5) (.int x0_2) (.int x0_3) (.ref a2) (.ref a3) (.ref a4) v0_7 v0_8 v0_9 v0_10 v0_11 (.int x0_12) v0_13 v0_14 v0_15 v0_16 v0_17 (.ref a1) v0_19 v0_20 v0_21 (.int x0_22) (.int x0_23) v0_24 v0_25 v0_26 v0_27 v0_28 x0_0)) [0] rfl
            have hDc := hD.sub (ws' := (wd_Model_fails kA a0 (.ref a5) (.int x0_2) (.int x0_3) (.ref a2) (.ref a3) (.ref a4) v0_7 v0_8 v0_9 v0_10 v0_11 (.int x0_12) v0_13 v0_14 v0_15 v0_16 v0_17 (.ref a1) v0_19 v0_20 v0_21 (.int x0_22) (.int x0_23) v0_24 v0_25 v0_26 v0_27 v0_28 x0_0)) [0] (by decide) rfl
            have hFc := va_free (wc := (wd_Model_fails kA a0 (.ref a5) (.int x0_2) (.int x0_3) (.ref a2) (.ref a3) (.ref a4) v0_7 v0_8 v0_9 v0_10 v0_11 (.int x0_12) v0_13 v0_14 v0_15 v0_16 v0_17 (.ref a1) v0_19 v0_20 v0_21 (.int x0_22) (.int x0_23) v0_24 v0_25 v0_26 v0_27 v0_28 x0_0)) hD hS hA [0] rfl
            refine va_calli (va_runV (As := [.int 1]) (rest := []) ⟨hx, hb, hml, hown, hts⟩ (c_Model_fails l dC dI kA H.size a0 (.ref a5) (.int x0_2) (.int x0_3) (.ref a2) (.ref a3) (.ref a4) v0_7 v0_8 v0_9 v0_10 v0_11 (.int x0_12) v0_13 v0_14 v0_15 v0_16 v0_17 (.ref a1) v0_19 v0_20 v0_21 (.int x0_22) (.int x0_23) v0_24 v0_25 v0_26 v0_27 v0_28 1 x0_0 u_37.1 u_37.2 hS_37) (cwV 1 hts (gw_V gw_264 gw_265 gw_266 gw_267 gw_268) rfl rfl rfl (by decide +kernel) ⟨Nat.le_of_ble_eq_true rfl, Nat.le_of_ble_eq_true rfl⟩) ⟨fun a U g mk q => by obtain ⟨q0, q1, qP, qK, qD⟩ := q; exact ⟨q0, q1, qP, va_K.moved (u := U) (U := U.calling g mk a) (Vm.Alike.refl U.vm) qK, qD⟩, va_recv hK hP (ci := 9) (q0 := 0) rfl rfl, fun U hU hW => ⟨rfl, by rw [hU], by rw [hU]; exact hPc, va_K.moved hW.alike hK, hDc.weaken (fun _ _ _ _ => trivial)⟩⟩ rfl rfl hl.1 rfl (lv_room (Nat.le_of_ble_eq_true rfl)) d_Model_rule_273 ⟨Nat.zero_le _, Nat.zero_le _⟩) hS (fun q _ h => hFc q h) hFc (fun r1 u t H1 locs ht hvm hw hB hz1 hk1 hS => ?_)
            rw [show r1 = _ from hw]
            obtain ⟨hP1, hK1, hD1⟩ := hB
            rw [ht] at hP1
            obtain ⟨hP, hD⟩ := va_join (wr := [(a1, .inl (kA 0, 24, .inl f1)), (a2, .inl (kA 0, 11, .inl f2)), (a3, .inl (kA 0, 11, .inl f3)), (a4, .inl (kA 0, 44, .inl f4)), (a5, .inl (kA 2, 10, .inl f5))]) (w1 := (wd_Model_fails kA a0 (.ref a5) (.int x0_2) (.int x0_3) (.ref a2) (.ref a3) (.ref a4) v0_7 v0_8 v0_9 v0_10 v0_11 (.int x0_12) v0_13 v0_14 v0_15 v0_16 v0_17 (.ref a1) v0_19 v0_20 v0_21 (.int x0_22) (.int x0_23) v0_24 v0_25 v0_26 v0_27 v0_28 u_37.2)) hP hD [0] [1, 2, 3, 4, 5] rfl rfl (by decide) (by decide) hk1 hFc hP1 hD1
            have hP := hP.sub (ws' := (wd_Model_rule kA a0 a1 a2 a3 a4 a5 v0_7 v0_8 v0_9 v0_10 v0_11 v0_13 v0_14 v0_15 v0_16 v0_17 v0_19 v0_20 v0_21 v0_24 v0_25 v0_26 v0_27 v0_28 u_37.2 x0_2 x0_3 x0_12 x0_22 x0_23 f1 f2 f3 f4 f5)) [5, 0, 1, 2, 3, 4] rfl
            have hD := hD.sub (ws' := (wd_Model_rule kA a0 a1 a2 a3 a4 a5 v0_7 v0_8 v0_9 v0_10 v0_11 v0_13 v0_14 v0_15 v0_16 v0_17 v0_19 v0_20 v0_21 v0_24 v0_25 v0_26 v0_27 v0_28 u_37.2 x0_2 x0_3 x0_12 x0_22 x0_23 f1 f2 f3 f4 f5)) [5, 0, 1, 2, 3, 4] (by decide) rfl
            clear hPc hDc hFc hP1 hK1 hD1
            generalize H1 = H at hP hS ⊢
            have e0 := Option.some.inj hF
            have q0 := Prod.mk.inj e0
            have q1 := Prod.mk.inj q0.2
            have q2 := Prod.mk.inj q1.2
            have q3 := Prod.mk.inj q2.2
            have q4 := Prod.mk.inj q3.2
            have q5 := Prod.mk.inj q4.2
            have q6 := Prod.mk.inj q5.2
            have q7 := Prod.mk.inj q6.2
            have q8 := Prod.mk.inj q7.2
            have q9 := Prod.mk.inj q8.2
            exact W.iret (v := u_37.1) hx hb hr (fun t ht hW => ⟨⟨u_37.1, (), rfl, q0.1, by rw [ht, ← q1.1, ← q2.1, ← q3.1, ← q4.1, ← q5.1, ← q6.1, ← q7.1, ← q8.1, ← q9.1, ← q9.2]; exact hP, va_K.moved hW.alike hK, (by rw [← q1.1, ← q2.1, ← q3.1, ← q4.1, ← q5.1, ← q6.1, ← q7.1, ← q8.1, ← q9.1, ← q9.2]; exact hD)⟩, hS.F ht⟩) hS.2.2 d_Model_rule_276 hlocks
        · rw [if_neg c_35] at hF
          refine lv_aload_n hx hb d_Model_rule_232 rfl (lv_at hl 0 rfl) ?_
          refine va_get (D := (dC, dI)) (ci := 9) (v := .ref a4) (C := R_Model) (T := F_Model) (N := 29) hx hb hg iw_Model hown hK hP 0 rfl rfl 6 (by decide) (hg _ gw_279) (fun _ h9 => h9) rfl d_Model_rule_233 ?_
          refine lv_iconst (v := 4) hx hb d_Model_rule_236 (by decide) ?_
          refine lv_iload_n hx hb d_Model_rule_237 rfl (lv_at hl 3 rfl) ?_
          refine lv_imul hx hb d_Model_rule_238 ?_
          refine lv_iload hx hb d_Model_rule_239 (lv_at hl 5 rfl) ?_
          refine lv_iadd hx hb d_Model_rule_241 ?_
          obtain ⟨h_38, hF⟩ := rd_chk hF
          refine va_iald hx hb hK hP 4 0 rfl rfl h_38 d_Model_rule_242 ?_
          refine lv_aload_n hx hb d_Model_rule_243 rfl (lv_at hl 0 rfl) ?_
          refine va_get (D := (dC, dI)) (ci := 9) (v := .ref a1) (C := R_Model) (T := F_Model) (N := 29) hx hb hg iw_Model hown hK hP 0 rfl rfl 18 (by decide) (hg _ gw_275) (fun _ h9 => h9) rfl d_Model_rule_244 ?_
          refine lv_iload hx hb d_Model_rule_247 (lv_at hl 5 rfl) ?_
          obtain ⟨h_39, hF⟩ := rd_chk hF
          refine va_iald hx hb hK hP 1 0 rfl rfl h_39 d_Model_rule_249 ?_
          refine lv_icmp_ne (tgt := 257) hx hb d_Model_rule_250 (by decide) (fun c_40 => ?_) (fun c_40 => ?_)
          · rw [if_pos c_40] at hF
            refine lv_iconst (v := 0) hx hb d_Model_rule_257 (by decide) ?_
            refine lv_istore (lv' := [(4, .int 0), (0, .ref a0), (1, .int l1), (2, .int l2), (3, .int l3), (5, .int l5)]) hx hb d_Model_rule_258 hl (by decide) rfl (fun ls hl => ?_)
            refine lv_iinc (v := (l5 + 1)) (lv' := [(5, .int (l5 + 1)), (4, .int 0), (0, .ref a0), (1, .int l1), (2, .int l2), (3, .int l3)]) hx hb d_Model_rule_260 hl (k := 5) rfl (by rfl) (by decide) rfl (fun ls hl => ?_)
            refine lv_goto (tgt := 219) hx hb d_Model_rule_263 (by decide) ?_
            exact ih.2.2.2.1 l1 l2 l3 0 (l5 + 1) x0_0 x0_2 x0_3 x0_12 x0_22 x0_23 f1 f2 f3 f4 hF _ _ _ hP hD hS (lv_sub hl [2, 3, 4, 5, 1, 0] rfl)
          · rw [if_neg (fun z => z c_40)] at hF
            refine lv_iconst (v := 1) hx hb d_Model_rule_253 (by decide) ?_
            refine lv_goto (tgt := 258) hx hb d_Model_rule_254 (by decide) ?_
            refine lv_istore (lv' := [(4, .int 1), (0, .ref a0), (1, .int l1), (2, .int l2), (3, .int l3), (5, .int l5)]) hx hb d_Model_rule_258 hl (by decide) rfl (fun ls hl => ?_)
            refine lv_iinc (v := (l5 + 1)) (lv' := [(5, .int (l5 + 1)), (4, .int 1), (0, .ref a0), (1, .int l1), (2, .int l2), (3, .int l3)]) hx hb d_Model_rule_260 hl (k := 5) rfl (by rfl) (by decide) rfl (fun ls hl => ?_)
            refine lv_goto (tgt := 219) hx hb d_Model_rule_263 (by decide) ?_
            exact ih.2.2.2.1 l1 l2 l3 1 (l5 + 1) x0_0 x0_2 x0_3 x0_12 x0_22 x0_23 f1 f2 f3 f4 hF _ _ _ hP hD hS (lv_sub hl [2, 3, 4, 5, 1, 0] rfl)
    · intro l1 l2 l3 l4 l5 x0_0 x0_2 x0_3 x0_12 x0_22 x0_23 f1 f2 f3 f4 hF H locs ls hP hD hS hl
      have hF : B_Model_rule_4 (F_Model_rule f5 n) f5 l1 l2 l3 l4 l5 x0_0 x0_2 x0_3 x0_12 x0_22 x0_23 f1 f2 f3 f4 = some (r, ox0_0, ox0_2, ox0_3, ox0_12, ox0_22, ox0_23, of1, of2, of3, of4) := hF
      unfold B_Model_rule_4 at hF
      refine lv_iload_n hx hb d_Model_rule_330 rfl (lv_at hl 3 rfl) ?_
      refine lv_iload_n hx hb d_Model_rule_331 rfl (lv_at hl 1 rfl) ?_
      refine lv_iconst (v := 2) hx hb d_Model_rule_332 (by decide) ?_
      refine lv_isub hx hb d_Model_rule_333 ?_
      refine lv_icmp_ge (tgt := 362) hx hb d_Model_rule_334 (by decide) (fun c_41 => ?_) (fun c_41 => ?_)
      · rw [if_pos c_41] at hF
        refine lv_aload_n hx hb d_Model_rule_362 rfl (lv_at hl 0 rfl) ?_
        refine lv_dup hx hb d_Model_rule_363 rfl ?_
        refine va_get (D := (dC, dI)) (ci := 9) (v := .int x0_3) (C := R_Model) (T := F_Model) (N := 29) hx hb hg iw_Model hown hK hP 0 rfl rfl 3 (by decide) (hg _ gw_276) (fun _ h9 => h9) rfl d_Model_rule_364 ?_
        refine lv_iconst (v := 1) hx hb d_Model_rule_367 (by decide) ?_
        refine lv_iadd hx hb d_Model_rule_368 ?_
        refine va_put (D := (dC, dI)) (ci := 9) (v := .int (x0_3 + 1)) (ty := .int) (C := R_Model) (T := F_Model) (N := 29) hx hb hg iw_Model t_Model t_Model_ok n_Model hown hK hP hD hS 0 rfl rfl 3 (by decide) (hg _ gw_276) (fun _ h9 => h9) rfl (by decide +kernel) rfl rfl (Nat.le_of_ble_eq_true rfl) d_Model_rule_369 (fun H locs hP hD hS => ?_)
        have hP : va_P (dC, dI) classes (wd_Model_rule kA a0 a1 a2 a3 a4 a5 v0_7 v0_8 v0_9 v0_10 v0_11 v0_13 v0_14 v0_15 v0_16 v0_17 v0_19 v0_20 v0_21 v0_24 v0_25 v0_26 v0_27 v0_28 x0_0 x0_2 (x0_3 + 1) x0_12 x0_22 x0_23 f1 f2 f3 f4 f5) H := hP
        have hD : va_D A (wd_Model_rule kA a0 a1 a2 a3 a4 a5 v0_7 v0_8 v0_9 v0_10 v0_11 v0_13 v0_14 v0_15 v0_16 v0_17 v0_19 v0_20 v0_21 v0_24 v0_25 v0_26 v0_27 v0_28 x0_0 x0_2 (x0_3 + 1) x0_12 x0_22 x0_23 f1 f2 f3 f4 f5) := hD
        refine lv_aload_n hx hb d_Model_rule_372 rfl (lv_at hl 0 rfl) ?_
        refine lv_iconst (v := 0) hx hb d_Model_rule_373 (by decide) ?_
        refine va_put (D := (dC, dI)) (ci := 9) (v := .int 0) (ty := .int) (C := R_Model) (T := F_Model) (N := 29) hx hb hg iw_Model t_Model t_Model_ok n_Model hown hK hP hD hS 0 rfl rfl 12 (by decide) (hg _ gw_280) (fun _ h9 => h9) rfl (by decide +kernel) rfl rfl (Nat.le_of_ble_eq_true rfl) d_Model_rule_374 (fun H locs hP hD hS => ?_)
        have hP : va_P (dC, dI) classes (wd_Model_rule kA a0 a1 a2 a3 a4 a5 v0_7 v0_8 v0_9 v0_10 v0_11 v0_13 v0_14 v0_15 v0_16 v0_17 v0_19 v0_20 v0_21 v0_24 v0_25 v0_26 v0_27 v0_28 x0_0 x0_2 (x0_3 + 1) 0 x0_22 x0_23 f1 f2 f3 f4 f5) H := hP
        have hD : va_D A (wd_Model_rule kA a0 a1 a2 a3 a4 a5 v0_7 v0_8 v0_9 v0_10 v0_11 v0_13 v0_14 v0_15 v0_16 v0_17 v0_19 v0_20 v0_21 v0_24 v0_25 v0_26 v0_27 v0_28 x0_0 x0_2 (x0_3 + 1) 0 x0_22 x0_23 f1 f2 f3 f4 f5) := hD
        refine lv_aload_n hx hb d_Model_rule_377 rfl (lv_at hl 0 rfl) ?_
        obtain ⟨u_42, hS_42, hF⟩ := rd_bind hF
        have hPc := hP.sub (ws' := (wd_Model_forget kA a0 (.int x0_0) (.ref a5) (.int x0_2) (.int (x0_3 + 1)) (.ref a2) (.ref a3) (.ref a4) v0_7 v0_8 v0_9 v0_10 v0_11 (.int 0) v0_13 v0_14 v0_15 v0_16 v0_17 (.ref a1) v0_19 v0_20 v0_21 v0_24 v0_25 v0_26 v0_27 v0_28 x0_22 x0_23)) [0] rfl
        have hDc := hD.sub (ws' := (wd_Model_forget kA a0 (.int x0_0) (.ref a5) (.int x0_2) (.int (x0_3 + 1)) (.ref a2) (.ref a3) (.ref a4) v0_7 v0_8 v0_9 v0_10 v0_11 (.int 0) v0_13 v0_14 v0_15 v0_16 v0_17 (.ref a1) v0_19 v0_20 v0_21 v0_24 v0_25 v0_26 v0_27 v0_28 x0_22 x0_23)) [0] (by decide) rfl
        have hFc := va_free (wc := (wd_Model_forget kA a0 (.int x0_0) (.ref a5) (.int x0_2) (.int (x0_3 + 1)) (.ref a2) (.ref a3) (.ref a4) v0_7 v0_8 v0_9 v0_10 v0_11 (.int 0) v0_13 v0_14 v0_15 v0_16 v0_17 (.ref a1) v0_19 v0_20 v0_21 v0_24 v0_25 v0_26 v0_27 v0_28 x0_22 x0_23)) hD hS hA [0] rfl
        refine va_callv (va_runV (As := []) (rest := []) ⟨hx, hb, hml, hown, hts⟩ (c_Model_forget l dC dI kA H.size a0 (.int x0_0) (.ref a5) (.int x0_2) (.int (x0_3 + 1)) (.ref a2) (.ref a3) (.ref a4) v0_7 v0_8 v0_9 v0_10 v0_11 (.int 0) v0_13 v0_14 v0_15 v0_16 v0_17 (.ref a1) v0_19 v0_20 v0_21 v0_24 v0_25 v0_26 v0_27 v0_28 x0_22 x0_23 u_42.1 u_42.2 hS_42) (cwV 0 hts (gw_V gw_281 gw_282 gw_283 gw_267 gw_284) rfl rfl rfl (by decide +kernel) ⟨Nat.le_of_ble_eq_true rfl, Nat.le_of_ble_eq_true rfl⟩) ⟨fun a U g mk q => by obtain ⟨q0, q1, qP, qK, qD⟩ := q; exact ⟨q0, q1, qP, va_K.moved (u := U) (U := U.calling g mk a) (Vm.Alike.refl U.vm) qK, qD⟩, va_recv hK hP (ci := 9) (q0 := 0) rfl rfl, fun U hU hW => ⟨rfl, by rw [hU], by rw [hU]; exact hPc, va_K.moved hW.alike hK, hDc.weaken (fun _ _ _ _ => trivial)⟩⟩ rfl rfl hl.1 rfl (lv_room (Nat.le_of_ble_eq_true rfl)) d_Model_rule_378 ⟨Nat.zero_le _, Nat.zero_le _⟩) hS (fun q _ h => hFc q h) hFc (fun u t H1 locs ht hvm hw hB hz1 hk1 hS => ?_)
        obtain ⟨hP1, hK1, hD1⟩ := hB
        rw [ht] at hP1
        obtain ⟨hP, hD⟩ := va_join (wr := [(a1, .inl (kA 0, 24, .inl f1)), (a2, .inl (kA 0, 11, .inl f2)), (a3, .inl (kA 0, 11, .inl f3)), (a4, .inl (kA 0, 44, .inl f4)), (a5, .inl (kA 2, 10, .inl f5))]) (w1 := (wd_Model_forget kA a0 (.int x0_0) (.ref a5) (.int x0_2) (.int (x0_3 + 1)) (.ref a2) (.ref a3) (.ref a4) v0_7 v0_8 v0_9 v0_10 v0_11 (.int 0) v0_13 v0_14 v0_15 v0_16 v0_17 (.ref a1) v0_19 v0_20 v0_21 v0_24 v0_25 v0_26 v0_27 v0_28 u_42.1 u_42.2)) hP hD [0] [1, 2, 3, 4, 5] rfl rfl (by decide) (by decide) hk1 hFc hP1 hD1
        have hP := hP.sub (ws' := (wd_Model_rule kA a0 a1 a2 a3 a4 a5 v0_7 v0_8 v0_9 v0_10 v0_11 v0_13 v0_14 v0_15 v0_16 v0_17 v0_19 v0_20 v0_21 v0_24 v0_25 v0_26 v0_27 v0_28 x0_0 x0_2 (x0_3 + 1) 0 u_42.1 u_42.2 f1 f2 f3 f4 f5)) [5, 0, 1, 2, 3, 4] rfl
        have hD := hD.sub (ws' := (wd_Model_rule kA a0 a1 a2 a3 a4 a5 v0_7 v0_8 v0_9 v0_10 v0_11 v0_13 v0_14 v0_15 v0_16 v0_17 v0_19 v0_20 v0_21 v0_24 v0_25 v0_26 v0_27 v0_28 x0_0 x0_2 (x0_3 + 1) 0 u_42.1 u_42.2 f1 f2 f3 f4 f5)) [5, 0, 1, 2, 3, 4] (by decide) rfl
        clear hPc hDc hFc hP1 hK1 hD1
        generalize H1 = H at hP hS ⊢
        refine lv_aload_n hx hb d_Model_rule_381 rfl (lv_at hl 0 rfl) ?_
        refine va_get (D := (dC, dI)) (ci := 9) (v := .int (x0_3 + 1)) (C := R_Model) (T := F_Model) (N := 29) hx hb hg iw_Model hown hK hP 0 rfl rfl 3 (by decide) (hg _ gw_276) (fun _ h9 => h9) rfl d_Model_rule_382 ?_
        refine lv_iconst (v := 1) hx hb d_Model_rule_385 (by decide) ?_
        refine lv_isub hx hb d_Model_rule_386 ?_
        have e0 := Option.some.inj hF
        have q0 := Prod.mk.inj e0
        have q1 := Prod.mk.inj q0.2
        have q2 := Prod.mk.inj q1.2
        have q3 := Prod.mk.inj q2.2
        have q4 := Prod.mk.inj q3.2
        have q5 := Prod.mk.inj q4.2
        have q6 := Prod.mk.inj q5.2
        have q7 := Prod.mk.inj q6.2
        have q8 := Prod.mk.inj q7.2
        have q9 := Prod.mk.inj q8.2
        exact W.iret (v := ((x0_3 + 1) - 1)) hx hb hr (fun t ht hW => ⟨⟨((x0_3 + 1) - 1), (), rfl, q0.1, by rw [ht, ← q1.1, ← q2.1, ← q3.1, ← q4.1, ← q5.1, ← q6.1, ← q7.1, ← q8.1, ← q9.1, ← q9.2]; exact hP, va_K.moved hW.alike hK, (by rw [← q1.1, ← q2.1, ← q3.1, ← q4.1, ← q5.1, ← q6.1, ← q7.1, ← q8.1, ← q9.1, ← q9.2]; exact hD)⟩, hS.F ht⟩) hS.2.2 d_Model_rule_387 hlocks
      · rw [if_neg c_41] at hF
        refine lv_aload_n hx hb d_Model_rule_337 rfl (lv_at hl 0 rfl) ?_
        refine va_get (D := (dC, dI)) (ci := 9) (v := .ref a4) (C := R_Model) (T := F_Model) (N := 29) hx hb hg iw_Model hown hK hP 0 rfl rfl 6 (by decide) (hg _ gw_279) (fun _ h9 => h9) rfl d_Model_rule_338 ?_
        refine lv_iconst (v := 4) hx hb d_Model_rule_341 (by decide) ?_
        refine lv_aload_n hx hb d_Model_rule_342 rfl (lv_at hl 0 rfl) ?_
        refine va_get (D := (dC, dI)) (ci := 9) (v := .int x0_3) (C := R_Model) (T := F_Model) (N := 29) hx hb hg iw_Model hown hK hP 0 rfl rfl 3 (by decide) (hg _ gw_276) (fun _ h9 => h9) rfl d_Model_rule_343 ?_
        refine lv_imul hx hb d_Model_rule_346 ?_
        refine lv_iload_n hx hb d_Model_rule_347 rfl (lv_at hl 3 rfl) ?_
        refine lv_iadd hx hb d_Model_rule_348 ?_
        refine lv_aload_n hx hb d_Model_rule_349 rfl (lv_at hl 0 rfl) ?_
        refine va_get (D := (dC, dI)) (ci := 9) (v := .ref a1) (C := R_Model) (T := F_Model) (N := 29) hx hb hg iw_Model hown hK hP 0 rfl rfl 18 (by decide) (hg _ gw_275) (fun _ h9 => h9) rfl d_Model_rule_350 ?_
        refine lv_iload_n hx hb d_Model_rule_353 rfl (lv_at hl 3 rfl) ?_
        obtain ⟨h_43, hF⟩ := rd_chk hF
        refine va_iald hx hb hK hP 1 0 rfl rfl h_43 d_Model_rule_354 ?_
        obtain ⟨h_44, hF⟩ := rd_chk hF
        refine va_iast hx hb hK hP hD hS 4 0 rfl rfl h_44 d_Model_rule_355 (fun H locs hP hD hS => ?_)
        have hP : va_P (dC, dI) classes (wd_Model_rule kA a0 a1 a2 a3 a4 a5 v0_7 v0_8 v0_9 v0_10 v0_11 v0_13 v0_14 v0_15 v0_16 v0_17 v0_19 v0_20 v0_21 v0_24 v0_25 v0_26 v0_27 v0_28 x0_0 x0_2 x0_3 x0_12 x0_22 x0_23 f1 f2 f3 (upd f4 (Int32.toNatClampNeg ((4 * x0_3) + l3)) (f1 (Int32.toNatClampNeg l3))) f5) H := hP
        have hD : va_D A (wd_Model_rule kA a0 a1 a2 a3 a4 a5 v0_7 v0_8 v0_9 v0_10 v0_11 v0_13 v0_14 v0_15 v0_16 v0_17 v0_19 v0_20 v0_21 v0_24 v0_25 v0_26 v0_27 v0_28 x0_0 x0_2 x0_3 x0_12 x0_22 x0_23 f1 f2 f3 (upd f4 (Int32.toNatClampNeg ((4 * x0_3) + l3)) (f1 (Int32.toNatClampNeg l3))) f5) := hD
        refine lv_iinc (v := (l3 + 1)) (lv' := [(3, .int (l3 + 1)), (0, .ref a0), (1, .int l1), (2, .int l2)]) hx hb d_Model_rule_356 hl (k := 3) rfl (by rfl) (by decide) rfl (fun ls hl => ?_)
        refine lv_goto (tgt := 330) hx hb d_Model_rule_359 (by decide) ?_
        exact ih.2.2.2.2 l1 l2 (l3 + 1) 0 0 x0_0 x0_2 x0_3 x0_12 x0_22 x0_23 f1 f2 f3 (upd f4 (Int32.toNatClampNeg ((4 * x0_3) + l3)) (f1 (Int32.toNatClampNeg l3))) hF _ _ _ hP hD hS (lv_sub hl [1, 2, 3, 0] rfl)
def S_Model_rule (x0_0 : Int32) (x0_2 : Int32) (x0_3 : Int32) (x0_12 : Int32) (x0_22 : Int32) (x0_23 : Int32) (f1 : (Nat → Int32)) (f2 : (Nat → Int32)) (f3 : (Nat → Int32)) (f4 : (Nat → Int32)) (f5 : (Nat → Int32)) : Option (Int32 × Int32 × Int32 × Int32 × Int32 × Int32 × Int32 × (Nat → Int32) × (Nat → Int32) × (Nat → Int32) × (Nat → Int32)) := (if x0_2 < 2 then (F_Model_rule f5 fuel_ 0 x0_2 0 2 0 0 0 0 x0_3 x0_12 x0_22 x0_23 f1 f2 f3 f4) else (if 6 < x0_2 then (F_Model_rule f5 fuel_ 0 x0_2 0 2 0 0 0 0 x0_3 x0_12 x0_22 x0_23 f1 f2 f3 f4) else (if (0 : Int32) < 0 ∨ 10 ≤ (Int32.toNatClampNeg 0) then none else ((S_Model_isName (f5 (Int32.toNatClampNeg 0))).bind fun u_48 => (if u_48 = 0 then (F_Model_rule f5 fuel_ 0 x0_2 0 2 0 0 0 0 x0_3 x0_12 x0_22 x0_23 f1 f2 f3 f4) else (if (1 : Int32) < 0 ∨ 10 ≤ (Int32.toNatClampNeg 1) then none else (if ¬ (f5 (Int32.toNatClampNeg 1)) = 61 then (F_Model_rule f5 fuel_ 0 x0_2 0 2 0 0 0 0 x0_3 x0_12 x0_22 x0_23 f1 f2 f3 f4) else (F_Model_rule f5 fuel_ 0 x0_2 1 2 0 0 0 0 x0_3 x0_12 x0_22 x0_23 f1 f2 f3 f4))))))))
set_option maxHeartbeats 4000000 in
set_option maxRecDepth 100000 in
theorem c_Model_rule (l : Launch) (dC : Nat → ClassId) (dI : Nat → Nat → Nat) (kA : Nat → ClassId) (sz : Nat) (a0 a1 a2 a3 a4 a5 : Nat) (v0_7 v0_8 v0_9 v0_10 v0_11 v0_13 v0_14 v0_15 v0_16 v0_17 v0_19 v0_20 v0_21 v0_24 v0_25 v0_26 v0_27 v0_28 : Value) (x0_0 : Int32) (x0_2 : Int32) (x0_3 : Int32) (x0_12 : Int32) (x0_22 : Int32) (x0_23 : Int32) (f1 : (Nat → Int32)) (f2 : (Nat → Int32)) (f3 : (Nat → Int32)) (f4 : (Nat → Int32)) (f5 : (Nat → Int32)) (r : Int32) (ox0_0 : Int32) (ox0_2 : Int32) (ox0_3 : Int32) (ox0_12 : Int32) (ox0_22 : Int32) (ox0_23 : Int32) (of1 : (Nat → Int32)) (of2 : (Nat → Int32)) (of3 : (Nat → Int32)) (of4 : (Nat → Int32)) (hF : S_Model_rule x0_0 x0_2 x0_3 x0_12 x0_22 x0_23 f1 f2 f3 f4 f5 = some (r, ox0_0, ox0_2, ox0_3, ox0_12, ox0_22, ox0_23, of1, of2, of3, of4)) : Met l y_Model_rule w_Model_rule rm_Model_rule (va_Pc [.ref a0] (fun U => U.heap.size = sz ∧ va_P (dC, dI) classes (wd_Model_rule kA a0 a1 a2 a3 a4 a5 v0_7 v0_8 v0_9 v0_10 v0_11 v0_13 v0_14 v0_15 v0_16 v0_17 v0_19 v0_20 v0_21 v0_24 v0_25 v0_26 v0_27 v0_28 x0_0 x0_2 x0_3 x0_12 x0_22 x0_23 f1 f2 f3 f4 f5) U.heap ∧ va_K (dC, dI) classes (tys_ kA) U ∧ va_D (fun _ => True) (wd_Model_rule kA a0 a1 a2 a3 a4 a5 v0_7 v0_8 v0_9 v0_10 v0_11 v0_13 v0_14 v0_15 v0_16 v0_17 v0_19 v0_20 v0_21 v0_24 v0_25 v0_26 v0_27 v0_28 x0_0 x0_2 x0_3 x0_12 x0_22 x0_23 f1 f2 f3 f4 f5))) (va_Qi (fun (r1 : Int32) (_ : Unit) => r1 = r) (fun _ t => va_P (dC, dI) classes (wd_Model_rule kA a0 a1 a2 a3 a4 a5 v0_7 v0_8 v0_9 v0_10 v0_11 v0_13 v0_14 v0_15 v0_16 v0_17 v0_19 v0_20 v0_21 v0_24 v0_25 v0_26 v0_27 v0_28 ox0_0 ox0_2 ox0_3 ox0_12 ox0_22 ox0_23 of1 of2 of3 of4 f5) t.heap ∧ va_K (dC, dI) classes (tys_ kA) t ∧ va_D (va_A (wd_Model_rule kA a0 a1 a2 a3 a4 a5 v0_7 v0_8 v0_9 v0_10 v0_11 v0_13 v0_14 v0_15 v0_16 v0_17 v0_19 v0_20 v0_21 v0_24 v0_25 v0_26 v0_27 v0_28 x0_0 x0_2 x0_3 x0_12 x0_22 x0_23 f1 f2 f3 f4 f5) sz) (wd_Model_rule kA a0 a1 a2 a3 a4 a5 v0_7 v0_8 v0_9 v0_10 v0_11 v0_13 v0_14 v0_15 v0_16 v0_17 v0_19 v0_20 v0_21 v0_24 v0_25 v0_26 v0_27 v0_28 ox0_0 ox0_2 ox0_3 ox0_12 ox0_22 ox0_23 of1 of2 of3 of4 f5)) (va_A (wd_Model_rule kA a0 a1 a2 a3 a4 a5 v0_7 v0_8 v0_9 v0_10 v0_11 v0_13 v0_14 v0_15 v0_16 v0_17 v0_19 v0_20 v0_21 v0_24 v0_25 v0_26 v0_27 v0_28 x0_0 x0_2 x0_3 x0_12 x0_22 x0_23 f1 f2 f3 f4 f5) sz)) 0 0 (va_A (wd_Model_rule kA a0 a1 a2 a3 a4 a5 v0_7 v0_8 v0_9 v0_10 v0_11 v0_13 v0_14 v0_15 v0_16 v0_17 v0_19 v0_20 v0_21 v0_24 v0_25 v0_26 v0_27 v0_28 x0_0 x0_2 x0_3 x0_12 x0_22 x0_23 f1 f2 f3 f4 f5) sz) := by
  refine Met.ofW (cc := b_Model_rule) (maxL := 6) (ret := some .int) (by decide) rfl ?_
  intro p e s m args below meth c s₁ B hml hv
  obtain ⟨rfl, hsz, hP, hK, hD0⟩ := hv
  have hx := B.exec
  have hb := B.bytes
  have hr := B.returns
  have hts := atoms_spec (ws := w_Model_rule) B.pre
  have hown : s.vm.findClass R_Model = some m.cls := findClass_of_methodNamed B.named
  have hg := fun (w : Cond) (h : w ∈ gw) => hts w (List.mem_cons_of_mem _ h)
  have hlocks := B.notSynchronized
  subst hsz
  have hD := hD0.self (sz := s.heap.size)
  generalize hAe : va_A (wd_Model_rule kA a0 a1 a2 a3 a4 a5 v0_7 v0_8 v0_9 v0_10 v0_11 v0_13 v0_14 v0_15 v0_16 v0_17 v0_19 v0_20 v0_21 v0_24 v0_25 v0_26 v0_27 v0_28 x0_0 x0_2 x0_3 x0_12 x0_22 x0_23 f1 f2 f3 f4 f5) s.heap.size = A at hD ⊢
  have hA : ∀ q : Nat, s.heap.size ≤ q → A q := fun q h => by rw [← hAe]; exact Or.inr h
  have hS : va_S A s.heap s.heap [] := va_S.rf
  have hl := lv_entry ([.ref a0]) (n := 6) (Nat.le_of_ble_eq_true rfl)
  rw [lg_entry_eq]
  generalize (lg_sl ([.ref a0]) ++ List.replicate (6 - (lg_sl ([.ref a0])).length) Slot.unset).toArray = ls at hl ⊢
  have hl : lv_has ls 6 [(0, .ref a0)] := hl
  unfold S_Model_rule at hF
  have ih := L_Model_rule (l := l) (e := e) (below := below) hx hb hr hlocks hml hown hts hA hK a0 a1 a2 a3 a4 a5 v0_7 v0_8 v0_9 v0_10 v0_11 v0_13 v0_14 v0_15 v0_16 v0_17 v0_19 v0_20 v0_21 v0_24 v0_25 v0_26 v0_27 v0_28 f5 r ox0_0 ox0_2 ox0_3 ox0_12 ox0_22 ox0_23 of1 of2 of3 of4 fuel_
  refine lv_aload_n hx hb d_Model_rule_0 rfl (lv_at hl 0 rfl) ?_
  refine lv_iconst (v := 0) hx hb d_Model_rule_1 (by decide) ?_
  refine va_put (D := (dC, dI)) (ci := 9) (v := .int 0) (ty := .int) (C := R_Model) (T := F_Model) (N := 29) hx hb hg iw_Model t_Model t_Model_ok n_Model hown hK hP hD hS 0 rfl rfl 0 (by decide) (hg _ gw_259) (fun _ h9 => h9) rfl (by decide +kernel) rfl rfl (Nat.le_of_ble_eq_true rfl) d_Model_rule_2 (fun H locs hP hD hS => ?_)
  have hP : va_P (dC, dI) classes (wd_Model_rule kA a0 a1 a2 a3 a4 a5 v0_7 v0_8 v0_9 v0_10 v0_11 v0_13 v0_14 v0_15 v0_16 v0_17 v0_19 v0_20 v0_21 v0_24 v0_25 v0_26 v0_27 v0_28 0 x0_2 x0_3 x0_12 x0_22 x0_23 f1 f2 f3 f4 f5) H := hP
  have hD : va_D A (wd_Model_rule kA a0 a1 a2 a3 a4 a5 v0_7 v0_8 v0_9 v0_10 v0_11 v0_13 v0_14 v0_15 v0_16 v0_17 v0_19 v0_20 v0_21 v0_24 v0_25 v0_26 v0_27 v0_28 0 x0_2 x0_3 x0_12 x0_22 x0_23 f1 f2 f3 f4 f5) := hD
  refine lv_aload_n hx hb d_Model_rule_5 rfl (lv_at hl 0 rfl) ?_
  refine va_get (D := (dC, dI)) (ci := 9) (v := .int x0_2) (C := R_Model) (T := F_Model) (N := 29) hx hb hg iw_Model hown hK hP 0 rfl rfl 2 (by decide) (hg _ gw_260) (fun _ h9 => h9) rfl d_Model_rule_6 ?_
  refine lv_istore_n (lv' := [(1, .int x0_2), (0, .ref a0)]) hx hb d_Model_rule_9 rfl hl (by decide) rfl (fun ls hl => ?_)
  refine lv_aload_n hx hb d_Model_rule_10 rfl (lv_at hl 1 rfl) ?_
  refine lv_iconst (v := 0) hx hb d_Model_rule_11 (by decide) ?_
  refine va_put (D := (dC, dI)) (ci := 9) (v := .int 0) (ty := .int) (C := R_Model) (T := F_Model) (N := 29) hx hb hg iw_Model t_Model t_Model_ok n_Model hown hK hP hD hS 0 rfl rfl 2 (by decide) (hg _ gw_260) (fun _ h9 => h9) rfl (by decide +kernel) rfl rfl (Nat.le_of_ble_eq_true rfl) d_Model_rule_12 (fun H locs hP hD hS => ?_)
  have hP : va_P (dC, dI) classes (wd_Model_rule kA a0 a1 a2 a3 a4 a5 v0_7 v0_8 v0_9 v0_10 v0_11 v0_13 v0_14 v0_15 v0_16 v0_17 v0_19 v0_20 v0_21 v0_24 v0_25 v0_26 v0_27 v0_28 0 0 x0_3 x0_12 x0_22 x0_23 f1 f2 f3 f4 f5) H := hP
  have hD : va_D A (wd_Model_rule kA a0 a1 a2 a3 a4 a5 v0_7 v0_8 v0_9 v0_10 v0_11 v0_13 v0_14 v0_15 v0_16 v0_17 v0_19 v0_20 v0_21 v0_24 v0_25 v0_26 v0_27 v0_28 0 0 x0_3 x0_12 x0_22 x0_23 f1 f2 f3 f4 f5) := hD
  refine lv_iload_n hx hb d_Model_rule_15 rfl (lv_at hl 0 rfl) ?_
  refine lv_iconst (v := 2) hx hb d_Model_rule_16 (by decide) ?_
  refine lv_icmp_lt (tgt := 53) hx hb d_Model_rule_17 (by decide) (fun c_45 => ?_) (fun c_45 => ?_)
  · rw [if_pos c_45] at hF
    refine lv_iconst (v := 0) hx hb d_Model_rule_53 (by decide) ?_
    refine lv_istore_n (lv' := [(2, .int 0), (1, .int x0_2), (0, .ref a0)]) hx hb d_Model_rule_54 rfl hl (by decide) rfl (fun ls hl => ?_)
    refine lv_iconst (v := 2) hx hb d_Model_rule_55 (by decide) ?_
    refine lv_istore_n (lv' := [(3, .int 2), (2, .int 0), (1, .int x0_2), (0, .ref a0)]) hx hb d_Model_rule_56 rfl hl (by decide) rfl (fun ls hl => ?_)
    exact ih.1 x0_2 0 2 0 0 0 0 x0_3 x0_12 x0_22 x0_23 f1 f2 f3 f4 hF _ _ _ hP hD hS (lv_sub hl [3, 2, 1, 0] rfl)
  · rw [if_neg c_45] at hF
    refine lv_iload_n hx hb d_Model_rule_20 rfl (lv_at hl 0 rfl) ?_
    refine lv_bipush (v := 6) hx hb d_Model_rule_21 (by decide) ?_
    refine lv_icmp_gt (tgt := 53) hx hb d_Model_rule_23 (by decide) (fun c_46 => ?_) (fun c_46 => ?_)
    · rw [if_pos c_46] at hF
      refine lv_iconst (v := 0) hx hb d_Model_rule_53 (by decide) ?_
      refine lv_istore_n (lv' := [(2, .int 0), (1, .int x0_2), (0, .ref a0)]) hx hb d_Model_rule_54 rfl hl (by decide) rfl (fun ls hl => ?_)
      refine lv_iconst (v := 2) hx hb d_Model_rule_55 (by decide) ?_
      refine lv_istore_n (lv' := [(3, .int 2), (2, .int 0), (1, .int x0_2), (0, .ref a0)]) hx hb d_Model_rule_56 rfl hl (by decide) rfl (fun ls hl => ?_)
      exact ih.1 x0_2 0 2 0 0 0 0 x0_3 x0_12 x0_22 x0_23 f1 f2 f3 f4 hF _ _ _ hP hD hS (lv_sub hl [3, 2, 1, 0] rfl)
    · rw [if_neg c_46] at hF
      refine lv_aload_n hx hb d_Model_rule_26 rfl (lv_at hl 1 rfl) ?_
      refine va_get (D := (dC, dI)) (ci := 9) (v := .ref a5) (C := R_Model) (T := F_Model) (N := 29) hx hb hg iw_Model hown hK hP 0 rfl rfl 1 (by decide) (hg _ gw_261) (fun _ h9 => h9) rfl d_Model_rule_27 ?_
      refine lv_iconst (v := 0) hx hb d_Model_rule_30 (by decide) ?_
      obtain ⟨h_47, hF⟩ := rd_chk hF
      refine va_cald hx hb hK hP 5 2 rfl rfl h_47 d_Model_rule_31 ?_
      obtain ⟨u_48, hS_48, hF⟩ := rd_bind hF
      have hPc := hP.sub (ws' := (wd_Model_isName kA )) [] rfl
      have hDc := hD.sub (ws' := (wd_Model_isName kA )) [] (by decide) rfl
      have hFc := va_free (wc := (wd_Model_isName kA )) hD hS hA [] rfl
      refine va_calli (va_runS (As := [.int (f5 (Int32.toNatClampNeg 0))]) (rest := []) ⟨hx, hb, hml, hown, hts⟩ (c_Model_isName l dC dI kA H.size (f5 (Int32.toNatClampNeg 0)) u_48 hS_48) (cwS 1 hts (gw_S gw_272 gw_273 gw_267 gw_274) rfl rfl rfl (by decide +kernel) ⟨Nat.le_of_ble_eq_true rfl, Nat.le_of_ble_eq_true rfl⟩) ⟨fun a U g mk q => by obtain ⟨q0, q1, qP, qK, qD⟩ := q; exact ⟨q0, q1, qP, va_K.moved (u := U) (U := U.calling g mk a) (Vm.Alike.refl U.vm) qK, qD⟩, fun U hU hW => ⟨rfl, by rw [hU], by rw [hU]; exact hPc, va_K.moved hW.alike hK, hDc.weaken (fun _ _ _ _ => trivial)⟩⟩ rfl rfl hl.1 rfl (lv_room (Nat.le_of_ble_eq_true rfl)) d_Model_rule_32 ⟨Nat.zero_le _, Nat.zero_le _⟩) hS (fun q _ h => hFc q h) hFc (fun r1 u t H1 locs ht hvm hw hB hz1 hk1 hS => ?_)
      rw [show r1 = _ from hw]
      obtain ⟨hP1, hK1, hD1⟩ := hB
      rw [ht] at hP1
      obtain ⟨hP, hD⟩ := va_join (wr := [(a0, .inr (9, [.int 0, .ref a5, .int 0, .int x0_3, .ref a2, .ref a3, .ref a4, v0_7, v0_8, v0_9, v0_10, v0_11, .int x0_12, v0_13, v0_14, v0_15, v0_16, v0_17, .ref a1, v0_19, v0_20, v0_21, .int x0_22, .int x0_23, v0_24, v0_25, v0_26, v0_27, v0_28])), (a1, .inl (kA 0, 24, .inl f1)), (a2, .inl (kA 0, 11, .inl f2)), (a3, .inl (kA 0, 11, .inl f3)), (a4, .inl (kA 0, 44, .inl f4)), (a5, .inl (kA 2, 10, .inl f5))]) (w1 := (wd_Model_isName kA )) hP hD [] [0, 1, 2, 3, 4, 5] rfl rfl (by decide) (by decide) hk1 hFc hP1 hD1
      have hP := hP.sub (ws' := (wd_Model_rule kA a0 a1 a2 a3 a4 a5 v0_7 v0_8 v0_9 v0_10 v0_11 v0_13 v0_14 v0_15 v0_16 v0_17 v0_19 v0_20 v0_21 v0_24 v0_25 v0_26 v0_27 v0_28 0 0 x0_3 x0_12 x0_22 x0_23 f1 f2 f3 f4 f5)) [0, 1, 2, 3, 4, 5] rfl
      have hD := hD.sub (ws' := (wd_Model_rule kA a0 a1 a2 a3 a4 a5 v0_7 v0_8 v0_9 v0_10 v0_11 v0_13 v0_14 v0_15 v0_16 v0_17 v0_19 v0_20 v0_21 v0_24 v0_25 v0_26 v0_27 v0_28 0 0 x0_3 x0_12 x0_22 x0_23 f1 f2 f3 f4 f5)) [0, 1, 2, 3, 4, 5] (by decide) rfl
      clear hPc hDc hFc hP1 hK1 hD1
      generalize H1 = H at hP hS ⊢
      refine lv_if_eq (tgt := 53) hx hb d_Model_rule_35 (by decide) (fun c_49 => ?_) (fun c_49 => ?_)
      · rw [if_pos c_49] at hF
        refine lv_iconst (v := 0) hx hb d_Model_rule_53 (by decide) ?_
        refine lv_istore_n (lv' := [(2, .int 0), (1, .int x0_2), (0, .ref a0)]) hx hb d_Model_rule_54 rfl hl (by decide) rfl (fun ls hl => ?_)
        refine lv_iconst (v := 2) hx hb d_Model_rule_55 (by decide) ?_
        refine lv_istore_n (lv' := [(3, .int 2), (2, .int 0), (1, .int x0_2), (0, .ref a0)]) hx hb d_Model_rule_56 rfl hl (by decide) rfl (fun ls hl => ?_)
        exact ih.1 x0_2 0 2 0 0 0 0 x0_3 x0_12 x0_22 x0_23 f1 f2 f3 f4 hF _ _ _ hP hD hS (lv_sub hl [3, 2, 1, 0] rfl)
      · rw [if_neg c_49] at hF
        refine lv_aload_n hx hb d_Model_rule_38 rfl (lv_at hl 1 rfl) ?_
        refine va_get (D := (dC, dI)) (ci := 9) (v := .ref a5) (C := R_Model) (T := F_Model) (N := 29) hx hb hg iw_Model hown hK hP 0 rfl rfl 1 (by decide) (hg _ gw_261) (fun _ h9 => h9) rfl d_Model_rule_39 ?_
        refine lv_iconst (v := 1) hx hb d_Model_rule_42 (by decide) ?_
        obtain ⟨h_50, hF⟩ := rd_chk hF
        refine va_cald hx hb hK hP 5 2 rfl rfl h_50 d_Model_rule_43 ?_
        refine lv_bipush (v := 61) hx hb d_Model_rule_44 (by decide) ?_
        refine lv_icmp_ne (tgt := 53) hx hb d_Model_rule_46 (by decide) (fun c_51 => ?_) (fun c_51 => ?_)
        · rw [if_pos c_51] at hF
          refine lv_iconst (v := 0) hx hb d_Model_rule_53 (by decide) ?_
          refine lv_istore_n (lv' := [(2, .int 0), (1, .int x0_2), (0, .ref a0)]) hx hb d_Model_rule_54 rfl hl (by decide) rfl (fun ls hl => ?_)
          refine lv_iconst (v := 2) hx hb d_Model_rule_55 (by decide) ?_
          refine lv_istore_n (lv' := [(3, .int 2), (2, .int 0), (1, .int x0_2), (0, .ref a0)]) hx hb d_Model_rule_56 rfl hl (by decide) rfl (fun ls hl => ?_)
          exact ih.1 x0_2 0 2 0 0 0 0 x0_3 x0_12 x0_22 x0_23 f1 f2 f3 f4 hF _ _ _ hP hD hS (lv_sub hl [3, 2, 1, 0] rfl)
        · rw [if_neg (fun z => z c_51)] at hF
          refine lv_iconst (v := 1) hx hb d_Model_rule_49 (by decide) ?_
          refine lv_goto (tgt := 54) hx hb d_Model_rule_50 (by decide) ?_
          refine lv_istore_n (lv' := [(2, .int 1), (1, .int x0_2), (0, .ref a0)]) hx hb d_Model_rule_54 rfl hl (by decide) rfl (fun ls hl => ?_)
          refine lv_iconst (v := 2) hx hb d_Model_rule_55 (by decide) ?_
          refine lv_istore_n (lv' := [(3, .int 2), (2, .int 1), (1, .int x0_2), (0, .ref a0)]) hx hb d_Model_rule_56 rfl hl (by decide) rfl (fun ls hl => ?_)
          exact ih.1 x0_2 1 2 0 0 0 0 x0_3 x0_12 x0_22 x0_23 f1 f2 f3 f4 hF _ _ _ hP hD hS (lv_sub hl [3, 2, 1, 0] rfl)
