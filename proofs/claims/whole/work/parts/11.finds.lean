-- ===== RepairDesk$Finds.forget()V
abbrev wd_Finds_forget (kA : Nat → ClassId) (a0 : Nat) (v0_0 v0_1 v0_2 : Value) (x0_3 : Int32) (x0_4 : Int32) (x0_5 : Int32) : va_W := [(a0, .inr (1, [v0_0, v0_1, v0_2, .int x0_3, .int x0_4, .int x0_5]))]
abbrev rm_Finds_forget : Room := { frames := 0, cells := 0, slots := 0, locals := 0 }
def S_Finds_forget (x0_3 : Int32) (x0_4 : Int32) (x0_5 : Int32) : Option (Int32 × Int32 × Int32) := (some (0, 0, 0))
set_option maxHeartbeats 4000000 in
set_option maxRecDepth 100000 in
theorem c_Finds_forget (l : Launch) (dC : Nat → ClassId) (dI : Nat → Nat → Nat) (kA : Nat → ClassId) (sz : Nat) (a0 : Nat) (v0_0 v0_1 v0_2 : Value) (x0_3 : Int32) (x0_4 : Int32) (x0_5 : Int32) (ox0_3 : Int32) (ox0_4 : Int32) (ox0_5 : Int32) (hF : S_Finds_forget x0_3 x0_4 x0_5 = some (ox0_3, ox0_4, ox0_5)) : Met l y_Finds_forget w_Finds_forget rm_Finds_forget (va_Pc [.ref a0] (fun U => U.heap.size = sz ∧ va_P (dC, dI) classes (wd_Finds_forget kA a0 v0_0 v0_1 v0_2 x0_3 x0_4 x0_5) U.heap ∧ va_K (dC, dI) classes (tys_ kA) U ∧ va_D (fun _ => True) (wd_Finds_forget kA a0 v0_0 v0_1 v0_2 x0_3 x0_4 x0_5))) (va_Qv (fun (_ : Unit) => True) (fun _ t => va_P (dC, dI) classes (wd_Finds_forget kA a0 v0_0 v0_1 v0_2 ox0_3 ox0_4 ox0_5) t.heap ∧ va_K (dC, dI) classes (tys_ kA) t ∧ va_D (va_A (wd_Finds_forget kA a0 v0_0 v0_1 v0_2 x0_3 x0_4 x0_5) sz) (wd_Finds_forget kA a0 v0_0 v0_1 v0_2 ox0_3 ox0_4 ox0_5)) (va_A (wd_Finds_forget kA a0 v0_0 v0_1 v0_2 x0_3 x0_4 x0_5) sz)) 0 0 (va_A (wd_Finds_forget kA a0 v0_0 v0_1 v0_2 x0_3 x0_4 x0_5) sz) := by
  refine Met.ofW (cc := b_Finds_forget) (maxL := 1) (ret := none) (by decide) rfl ?_
  intro p e s m args below meth c s₁ B hml hv
  obtain ⟨rfl, hsz, hP, hK, hD0⟩ := hv
  have hx := B.exec
  have hb := B.bytes
  have hr := B.returns
  have hts := atoms_spec (ws := w_Finds_forget) B.pre
  have hown : s.vm.findClass R_Finds = some m.cls := findClass_of_methodNamed B.named
  have hg := fun (w : Cond) (h : w ∈ gw) => hts w (List.mem_cons_of_mem _ h)
  have hlocks := B.notSynchronized
  subst hsz
  have hD := hD0.self (sz := s.heap.size)
  generalize hAe : va_A (wd_Finds_forget kA a0 v0_0 v0_1 v0_2 x0_3 x0_4 x0_5) s.heap.size = A at hD ⊢
  have hA : ∀ q : Nat, s.heap.size ≤ q → A q := fun q h => by rw [← hAe]; exact Or.inr h
  have hS : va_S A s.heap s.heap [] := va_S.rf
  have hl := lv_entry ([.ref a0]) (n := 1) (Nat.le_of_ble_eq_true rfl)
  rw [lg_entry_eq]
  generalize (lg_sl ([.ref a0]) ++ List.replicate (1 - (lg_sl ([.ref a0])).length) Slot.unset).toArray = ls at hl ⊢
  have hl : lv_has ls 1 [(0, .ref a0)] := hl
  unfold S_Finds_forget at hF
  refine lv_aload_n hx hb d_Finds_forget_0 rfl (lv_at hl 0 rfl) ?_
  refine lv_iconst (v := 0) hx hb d_Finds_forget_1 (by decide) ?_
  refine va_put (D := (dC, dI)) (ci := 1) (v := .int 0) (ty := .int) (C := R_Finds) (T := F_Finds) (N := 6) hx hb hg iw_Finds t_Finds t_Finds_ok n_Finds hown hK hP hD hS 0 rfl rfl 3 (by decide) (hg _ gw_5) (fun _ h9 => h9) rfl (by decide +kernel) rfl rfl (Nat.le_of_ble_eq_true rfl) d_Finds_forget_2 (fun H locs hP hD hS => ?_)
  have hP : va_P (dC, dI) classes (wd_Finds_forget kA a0 v0_0 v0_1 v0_2 0 x0_4 x0_5) H := hP
  have hD : va_D A (wd_Finds_forget kA a0 v0_0 v0_1 v0_2 0 x0_4 x0_5) := hD
  refine lv_aload_n hx hb d_Finds_forget_5 rfl (lv_at hl 0 rfl) ?_
  refine lv_iconst (v := 0) hx hb d_Finds_forget_6 (by decide) ?_
  refine va_put (D := (dC, dI)) (ci := 1) (v := .int 0) (ty := .int) (C := R_Finds) (T := F_Finds) (N := 6) hx hb hg iw_Finds t_Finds t_Finds_ok n_Finds hown hK hP hD hS 0 rfl rfl 4 (by decide) (hg _ gw_6) (fun _ h9 => h9) rfl (by decide +kernel) rfl rfl (Nat.le_of_ble_eq_true rfl) d_Finds_forget_7 (fun H locs hP hD hS => ?_)
  have hP : va_P (dC, dI) classes (wd_Finds_forget kA a0 v0_0 v0_1 v0_2 0 0 x0_5) H := hP
  have hD : va_D A (wd_Finds_forget kA a0 v0_0 v0_1 v0_2 0 0 x0_5) := hD
  refine lv_aload_n hx hb d_Finds_forget_10 rfl (lv_at hl 0 rfl) ?_
  refine lv_iconst (v := 0) hx hb d_Finds_forget_11 (by decide) ?_
  refine va_put (D := (dC, dI)) (ci := 1) (v := .int 0) (ty := .int) (C := R_Finds) (T := F_Finds) (N := 6) hx hb hg iw_Finds t_Finds t_Finds_ok n_Finds hown hK hP hD hS 0 rfl rfl 5 (by decide) (hg _ gw_7) (fun _ h9 => h9) rfl (by decide +kernel) rfl rfl (Nat.le_of_ble_eq_true rfl) d_Finds_forget_12 (fun H locs hP hD hS => ?_)
  have hP : va_P (dC, dI) classes (wd_Finds_forget kA a0 v0_0 v0_1 v0_2 0 0 0) H := hP
  have hD : va_D A (wd_Finds_forget kA a0 v0_0 v0_1 v0_2 0 0 0) := hD
  have e0 := Option.some.inj hF
  have q0 := Prod.mk.inj e0
  have q1 := Prod.mk.inj q0.2
  exact W.vret hx hb hr (fun t ht hW => ⟨⟨(), rfl, trivial, by rw [ht, ← q0.1, ← q1.1, ← q1.2]; exact hP, va_K.moved hW.alike hK, (by rw [← q0.1, ← q1.1, ← q1.2]; exact hD)⟩, hS.F ht⟩) hS.2.2 d_Finds_forget_15 hlocks
-- ===== RepairDesk$Finds.setPlace(I)V
abbrev wd_Finds_setPlace (kA : Nat → ClassId) (a0 : Nat) (v0_0 v0_1 v0_2 v0_3 v0_4 : Value) (x0_5 : Int32) : va_W := [(a0, .inr (1, [v0_0, v0_1, v0_2, v0_3, v0_4, .int x0_5]))]
abbrev rm_Finds_setPlace : Room := { frames := 0, cells := 0, slots := 0, locals := 0 }
def S_Finds_setPlace (p1 : Int32) (x0_5 : Int32) : Option (Int32) := (some p1)
set_option maxHeartbeats 4000000 in
set_option maxRecDepth 100000 in
theorem c_Finds_setPlace (l : Launch) (dC : Nat → ClassId) (dI : Nat → Nat → Nat) (kA : Nat → ClassId) (sz : Nat) (a0 : Nat) (v0_0 v0_1 v0_2 v0_3 v0_4 : Value) (p1 : Int32) (x0_5 : Int32) (ox0_5 : Int32) (hF : S_Finds_setPlace p1 x0_5 = some ox0_5) : Met l y_Finds_setPlace w_Finds_setPlace rm_Finds_setPlace (va_Pc [.ref a0, .int p1] (fun U => U.heap.size = sz ∧ va_P (dC, dI) classes (wd_Finds_setPlace kA a0 v0_0 v0_1 v0_2 v0_3 v0_4 x0_5) U.heap ∧ va_K (dC, dI) classes (tys_ kA) U ∧ va_D (fun _ => True) (wd_Finds_setPlace kA a0 v0_0 v0_1 v0_2 v0_3 v0_4 x0_5))) (va_Qv (fun (_ : Unit) => True) (fun _ t => va_P (dC, dI) classes (wd_Finds_setPlace kA a0 v0_0 v0_1 v0_2 v0_3 v0_4 ox0_5) t.heap ∧ va_K (dC, dI) classes (tys_ kA) t ∧ va_D (va_A (wd_Finds_setPlace kA a0 v0_0 v0_1 v0_2 v0_3 v0_4 x0_5) sz) (wd_Finds_setPlace kA a0 v0_0 v0_1 v0_2 v0_3 v0_4 ox0_5)) (va_A (wd_Finds_setPlace kA a0 v0_0 v0_1 v0_2 v0_3 v0_4 x0_5) sz)) 0 0 (va_A (wd_Finds_setPlace kA a0 v0_0 v0_1 v0_2 v0_3 v0_4 x0_5) sz) := by
  refine Met.ofW (cc := b_Finds_setPlace) (maxL := 2) (ret := none) (by decide) rfl ?_
  intro p e s m args below meth c s₁ B hml hv
  obtain ⟨rfl, hsz, hP, hK, hD0⟩ := hv
  have hx := B.exec
  have hb := B.bytes
  have hr := B.returns
  have hts := atoms_spec (ws := w_Finds_setPlace) B.pre
  have hown : s.vm.findClass R_Finds = some m.cls := findClass_of_methodNamed B.named
  have hg := fun (w : Cond) (h : w ∈ gw) => hts w (List.mem_cons_of_mem _ h)
  have hlocks := B.notSynchronized
  subst hsz
  have hD := hD0.self (sz := s.heap.size)
  generalize hAe : va_A (wd_Finds_setPlace kA a0 v0_0 v0_1 v0_2 v0_3 v0_4 x0_5) s.heap.size = A at hD ⊢
  have hA : ∀ q : Nat, s.heap.size ≤ q → A q := fun q h => by rw [← hAe]; exact Or.inr h
  have hS : va_S A s.heap s.heap [] := va_S.rf
  have hl := lv_entry ([.ref a0, .int p1]) (n := 2) (Nat.le_of_ble_eq_true rfl)
  rw [lg_entry_eq]
  generalize (lg_sl ([.ref a0, .int p1]) ++ List.replicate (2 - (lg_sl ([.ref a0, .int p1])).length) Slot.unset).toArray = ls at hl ⊢
  have hl : lv_has ls 2 [(0, .ref a0), (1, .int p1)] := hl
  unfold S_Finds_setPlace at hF
  refine lv_aload_n hx hb d_Finds_setPlace_0 rfl (lv_at hl 0 rfl) ?_
  refine lv_iload_n hx hb d_Finds_setPlace_1 rfl (lv_at hl 1 rfl) ?_
  refine va_put (D := (dC, dI)) (ci := 1) (v := .int p1) (ty := .int) (C := R_Finds) (T := F_Finds) (N := 6) hx hb hg iw_Finds t_Finds t_Finds_ok n_Finds hown hK hP hD hS 0 rfl rfl 5 (by decide) (hg _ gw_7) (fun _ h9 => h9) rfl (by decide +kernel) rfl rfl (Nat.le_of_ble_eq_true rfl) d_Finds_setPlace_2 (fun H locs hP hD hS => ?_)
  have hP : va_P (dC, dI) classes (wd_Finds_setPlace kA a0 v0_0 v0_1 v0_2 v0_3 v0_4 p1) H := hP
  have hD : va_D A (wd_Finds_setPlace kA a0 v0_0 v0_1 v0_2 v0_3 v0_4 p1) := hD
  have e0 := Option.some.inj hF
  exact W.vret hx hb hr (fun t ht hW => ⟨⟨(), rfl, trivial, by rw [ht, ← e0]; exact hP, va_K.moved hW.alike hK, (by rw [← e0]; exact hD)⟩, hS.F ht⟩) hS.2.2 d_Finds_setPlace_5 hlocks
-- ===== RepairDesk$Finds.wrongPlace()I
abbrev wd_Finds_wrongPlace (kA : Nat → ClassId) (a0 : Nat) (v0_0 v0_1 v0_2 v0_3 v0_4 : Value) (x0_5 : Int32) : va_W := [(a0, .inr (1, [v0_0, v0_1, v0_2, v0_3, v0_4, .int x0_5]))]
abbrev rm_Finds_wrongPlace : Room := { frames := 0, cells := 0, slots := 0, locals := 0 }
def S_Finds_wrongPlace (x0_5 : Int32) : Option (Int32) := (some x0_5)
set_option maxHeartbeats 4000000 in
set_option maxRecDepth 100000 in
theorem c_Finds_wrongPlace (l : Launch) (dC : Nat → ClassId) (dI : Nat → Nat → Nat) (kA : Nat → ClassId) (sz : Nat) (a0 : Nat) (v0_0 v0_1 v0_2 v0_3 v0_4 : Value) (x0_5 : Int32) (r : Int32) (hF : S_Finds_wrongPlace x0_5 = some r) : Met l y_Finds_wrongPlace w_Finds_wrongPlace rm_Finds_wrongPlace (va_Pc [.ref a0] (fun U => U.heap.size = sz ∧ va_P (dC, dI) classes (wd_Finds_wrongPlace kA a0 v0_0 v0_1 v0_2 v0_3 v0_4 x0_5) U.heap ∧ va_K (dC, dI) classes (tys_ kA) U ∧ va_D (fun _ => True) (wd_Finds_wrongPlace kA a0 v0_0 v0_1 v0_2 v0_3 v0_4 x0_5))) (va_Qi (fun (r1 : Int32) (_ : Unit) => r1 = r) (fun _ t => va_P (dC, dI) classes (wd_Finds_wrongPlace kA a0 v0_0 v0_1 v0_2 v0_3 v0_4 x0_5) t.heap ∧ va_K (dC, dI) classes (tys_ kA) t ∧ va_D (va_A (wd_Finds_wrongPlace kA a0 v0_0 v0_1 v0_2 v0_3 v0_4 x0_5) sz) (wd_Finds_wrongPlace kA a0 v0_0 v0_1 v0_2 v0_3 v0_4 x0_5)) (va_A (wd_Finds_wrongPlace kA a0 v0_0 v0_1 v0_2 v0_3 v0_4 x0_5) sz)) 0 0 (va_A (wd_Finds_wrongPlace kA a0 v0_0 v0_1 v0_2 v0_3 v0_4 x0_5) sz) := by
  refine Met.ofW (cc := b_Finds_wrongPlace) (maxL := 1) (ret := some .int) (by decide) rfl ?_
  intro p e s m args below meth c s₁ B hml hv
  obtain ⟨rfl, hsz, hP, hK, hD0⟩ := hv
  have hx := B.exec
  have hb := B.bytes
  have hr := B.returns
  have hts := atoms_spec (ws := w_Finds_wrongPlace) B.pre
  have hown : s.vm.findClass R_Finds = some m.cls := findClass_of_methodNamed B.named
  have hg := fun (w : Cond) (h : w ∈ gw) => hts w (List.mem_cons_of_mem _ h)
  have hlocks := B.notSynchronized
  subst hsz
  have hD := hD0.self (sz := s.heap.size)
  generalize hAe : va_A (wd_Finds_wrongPlace kA a0 v0_0 v0_1 v0_2 v0_3 v0_4 x0_5) s.heap.size = A at hD ⊢
  have hA : ∀ q : Nat, s.heap.size ≤ q → A q := fun q h => by rw [← hAe]; exact Or.inr h
  have hS : va_S A s.heap s.heap [] := va_S.rf
  have hl := lv_entry ([.ref a0]) (n := 1) (Nat.le_of_ble_eq_true rfl)
  rw [lg_entry_eq]
  generalize (lg_sl ([.ref a0]) ++ List.replicate (1 - (lg_sl ([.ref a0])).length) Slot.unset).toArray = ls at hl ⊢
  have hl : lv_has ls 1 [(0, .ref a0)] := hl
  unfold S_Finds_wrongPlace at hF
  refine lv_aload_n hx hb d_Finds_wrongPlace_0 rfl (lv_at hl 0 rfl) ?_
  refine va_get (D := (dC, dI)) (ci := 1) (v := .int x0_5) (C := R_Finds) (T := F_Finds) (N := 6) hx hb hg iw_Finds hown hK hP 0 rfl rfl 5 (by decide) (hg _ gw_7) (fun _ h9 => h9) rfl d_Finds_wrongPlace_1 ?_
  have e0 := Option.some.inj hF
  exact W.iret (v := x0_5) hx hb hr (fun t ht hW => ⟨⟨x0_5, (), rfl, e0, by rw [ht]; exact hP, va_K.moved hW.alike hK, (by exact hD)⟩, hS.F ht⟩) hS.2.2 d_Finds_wrongPlace_4 hlocks
-- ===== RepairDesk$Finds.size()I
abbrev wd_Finds_size (kA : Nat → ClassId) (a0 : Nat) (v0_0 v0_1 v0_2 v0_4 v0_5 : Value) (x0_3 : Int32) : va_W := [(a0, .inr (1, [v0_0, v0_1, v0_2, .int x0_3, v0_4, v0_5]))]
abbrev rm_Finds_size : Room := { frames := 0, cells := 0, slots := 0, locals := 0 }
def S_Finds_size (x0_3 : Int32) : Option (Int32) := (some x0_3)
set_option maxHeartbeats 4000000 in
set_option maxRecDepth 100000 in
theorem c_Finds_size (l : Launch) (dC : Nat → ClassId) (dI : Nat → Nat → Nat) (kA : Nat → ClassId) (sz : Nat) (a0 : Nat) (v0_0 v0_1 v0_2 v0_4 v0_5 : Value) (x0_3 : Int32) (r : Int32) (hF : S_Finds_size x0_3 = some r) : Met l y_Finds_size w_Finds_size rm_Finds_size (va_Pc [.ref a0] (fun U => U.heap.size = sz ∧ va_P (dC, dI) classes (wd_Finds_size kA a0 v0_0 v0_1 v0_2 v0_4 v0_5 x0_3) U.heap ∧ va_K (dC, dI) classes (tys_ kA) U ∧ va_D (fun _ => True) (wd_Finds_size kA a0 v0_0 v0_1 v0_2 v0_4 v0_5 x0_3))) (va_Qi (fun (r1 : Int32) (_ : Unit) => r1 = r) (fun _ t => va_P (dC, dI) classes (wd_Finds_size kA a0 v0_0 v0_1 v0_2 v0_4 v0_5 x0_3) t.heap ∧ va_K (dC, dI) classes (tys_ kA) t ∧ va_D (va_A (wd_Finds_size kA a0 v0_0 v0_1 v0_2 v0_4 v0_5 x0_3) sz) (wd_Finds_size kA a0 v0_0 v0_1 v0_2 v0_4 v0_5 x0_3)) (va_A (wd_Finds_size kA a0 v0_0 v0_1 v0_2 v0_4 v0_5 x0_3) sz)) 0 0 (va_A (wd_Finds_size kA a0 v0_0 v0_1 v0_2 v0_4 v0_5 x0_3) sz) := by
  refine Met.ofW (cc := b_Finds_size) (maxL := 1) (ret := some .int) (by decide) rfl ?_
  intro p e s m args below meth c s₁ B hml hv
  obtain ⟨rfl, hsz, hP, hK, hD0⟩ := hv
  have hx := B.exec
  have hb := B.bytes
  have hr := B.returns
  have hts := atoms_spec (ws := w_Finds_size) B.pre
  have hown : s.vm.findClass R_Finds = some m.cls := findClass_of_methodNamed B.named
  have hg := fun (w : Cond) (h : w ∈ gw) => hts w (List.mem_cons_of_mem _ h)
  have hlocks := B.notSynchronized
  subst hsz
  have hD := hD0.self (sz := s.heap.size)
  generalize hAe : va_A (wd_Finds_size kA a0 v0_0 v0_1 v0_2 v0_4 v0_5 x0_3) s.heap.size = A at hD ⊢
  have hA : ∀ q : Nat, s.heap.size ≤ q → A q := fun q h => by rw [← hAe]; exact Or.inr h
  have hS : va_S A s.heap s.heap [] := va_S.rf
  have hl := lv_entry ([.ref a0]) (n := 1) (Nat.le_of_ble_eq_true rfl)
  rw [lg_entry_eq]
  generalize (lg_sl ([.ref a0]) ++ List.replicate (1 - (lg_sl ([.ref a0])).length) Slot.unset).toArray = ls at hl ⊢
  have hl : lv_has ls 1 [(0, .ref a0)] := hl
  unfold S_Finds_size at hF
  refine lv_aload_n hx hb d_Finds_size_0 rfl (lv_at hl 0 rfl) ?_
  refine va_get (D := (dC, dI)) (ci := 1) (v := .int x0_3) (C := R_Finds) (T := F_Finds) (N := 6) hx hb hg iw_Finds hown hK hP 0 rfl rfl 3 (by decide) (hg _ gw_5) (fun _ h9 => h9) rfl d_Finds_size_1 ?_
  have e0 := Option.some.inj hF
  exact W.iret (v := x0_3) hx hb hr (fun t ht hW => ⟨⟨x0_3, (), rfl, e0, by rw [ht]; exact hP, va_K.moved hW.alike hK, (by exact hD)⟩, hS.F ht⟩) hS.2.2 d_Finds_size_4 hlocks
-- ===== RepairDesk$Finds.has(I)Z
abbrev wd_Finds_has (kA : Nat → ClassId) (a0 : Nat) (v0_0 v0_1 v0_2 v0_4 v0_5 : Value) (x0_3 : Int32) : va_W := [(a0, .inr (1, [v0_0, v0_1, v0_2, .int x0_3, v0_4, v0_5]))]
abbrev rm_Finds_has : Room := { frames := 0, cells := 0, slots := 0, locals := 0 }
def S_Finds_has (p1 : Int32) (x0_3 : Int32) : Option (Int32) := (if p1 < 0 then (some 0) else (if x0_3 ≤ p1 then (some 0) else (some 1)))
set_option maxHeartbeats 4000000 in
set_option maxRecDepth 100000 in
theorem c_Finds_has (l : Launch) (dC : Nat → ClassId) (dI : Nat → Nat → Nat) (kA : Nat → ClassId) (sz : Nat) (a0 : Nat) (v0_0 v0_1 v0_2 v0_4 v0_5 : Value) (p1 : Int32) (x0_3 : Int32) (r : Int32) (hF : S_Finds_has p1 x0_3 = some r) : Met l y_Finds_has w_Finds_has rm_Finds_has (va_Pc [.ref a0, .int p1] (fun U => U.heap.size = sz ∧ va_P (dC, dI) classes (wd_Finds_has kA a0 v0_0 v0_1 v0_2 v0_4 v0_5 x0_3) U.heap ∧ va_K (dC, dI) classes (tys_ kA) U ∧ va_D (fun _ => True) (wd_Finds_has kA a0 v0_0 v0_1 v0_2 v0_4 v0_5 x0_3))) (va_Qi (fun (r1 : Int32) (_ : Unit) => r1 = r) (fun _ t => va_P (dC, dI) classes (wd_Finds_has kA a0 v0_0 v0_1 v0_2 v0_4 v0_5 x0_3) t.heap ∧ va_K (dC, dI) classes (tys_ kA) t ∧ va_D (va_A (wd_Finds_has kA a0 v0_0 v0_1 v0_2 v0_4 v0_5 x0_3) sz) (wd_Finds_has kA a0 v0_0 v0_1 v0_2 v0_4 v0_5 x0_3)) (va_A (wd_Finds_has kA a0 v0_0 v0_1 v0_2 v0_4 v0_5 x0_3) sz)) 0 0 (va_A (wd_Finds_has kA a0 v0_0 v0_1 v0_2 v0_4 v0_5 x0_3) sz) := by
  refine Met.ofW (cc := b_Finds_has) (maxL := 2) (ret := some .boolean) (by decide) rfl ?_
  intro p e s m args below meth c s₁ B hml hv
  obtain ⟨rfl, hsz, hP, hK, hD0⟩ := hv
  have hx := B.exec
  have hb := B.bytes
  have hr := B.returns
  have hts := atoms_spec (ws := w_Finds_has) B.pre
  have hown : s.vm.findClass R_Finds = some m.cls := findClass_of_methodNamed B.named
  have hg := fun (w : Cond) (h : w ∈ gw) => hts w (List.mem_cons_of_mem _ h)
  have hlocks := B.notSynchronized
  subst hsz
  have hD := hD0.self (sz := s.heap.size)
  generalize hAe : va_A (wd_Finds_has kA a0 v0_0 v0_1 v0_2 v0_4 v0_5 x0_3) s.heap.size = A at hD ⊢
  have hA : ∀ q : Nat, s.heap.size ≤ q → A q := fun q h => by rw [← hAe]; exact Or.inr h
  have hS : va_S A s.heap s.heap [] := va_S.rf
  have hl := lv_entry ([.ref a0, .int p1]) (n := 2) (Nat.le_of_ble_eq_true rfl)
  rw [lg_entry_eq]
  generalize (lg_sl ([.ref a0, .int p1]) ++ List.replicate (2 - (lg_sl ([.ref a0, .int p1])).length) Slot.unset).toArray = ls at hl ⊢
  have hl : lv_has ls 2 [(0, .ref a0), (1, .int p1)] := hl
  unfold S_Finds_has at hF
  refine lv_iload_n hx hb d_Finds_has_0 rfl (lv_at hl 1 rfl) ?_
  refine lv_if_lt (tgt := 16) hx hb d_Finds_has_1 (by decide) (fun c_1 => ?_) (fun c_1 => ?_)
  · rw [if_pos c_1] at hF
    refine lv_iconst (v := 0) hx hb d_Finds_has_16 (by decide) ?_
    have e0 := Option.some.inj hF
    exact W.zret (v := 0) hx hb hr rfl (fun t ht hW => ⟨⟨0, (), rfl, e0, by rw [ht]; exact hP, va_K.moved hW.alike hK, (by exact hD)⟩, hS.F ht⟩) hS.2.2 d_Finds_has_17 hlocks
  · rw [if_neg c_1] at hF
    refine lv_iload_n hx hb d_Finds_has_4 rfl (lv_at hl 1 rfl) ?_
    refine lv_aload_n hx hb d_Finds_has_5 rfl (lv_at hl 0 rfl) ?_
    refine va_get (D := (dC, dI)) (ci := 1) (v := .int x0_3) (C := R_Finds) (T := F_Finds) (N := 6) hx hb hg iw_Finds hown hK hP 0 rfl rfl 3 (by decide) (hg _ gw_5) (fun _ h9 => h9) rfl d_Finds_has_6 ?_
    refine lv_icmp_ge (tgt := 16) hx hb d_Finds_has_9 (by decide) (fun c_2 => ?_) (fun c_2 => ?_)
    · rw [if_pos c_2] at hF
      refine lv_iconst (v := 0) hx hb d_Finds_has_16 (by decide) ?_
      have e0 := Option.some.inj hF
      exact W.zret (v := 0) hx hb hr rfl (fun t ht hW => ⟨⟨0, (), rfl, e0, by rw [ht]; exact hP, va_K.moved hW.alike hK, (by exact hD)⟩, hS.F ht⟩) hS.2.2 d_Finds_has_17 hlocks
    · rw [if_neg c_2] at hF
      refine lv_iconst (v := 1) hx hb d_Finds_has_12 (by decide) ?_
      refine lv_goto (tgt := 17) hx hb d_Finds_has_13 (by decide) ?_
      have e0 := Option.some.inj hF
      exact W.zret (v := 1) hx hb hr rfl (fun t ht hW => ⟨⟨1, (), rfl, e0, by rw [ht]; exact hP, va_K.moved hW.alike hK, (by exact hD)⟩, hS.F ht⟩) hS.2.2 d_Finds_has_17 hlocks
-- ===== RepairDesk$Finds.priceOfAll()I
abbrev wd_Finds_priceOfAll (kA : Nat → ClassId) (a0 : Nat) (v0_0 v0_1 v0_2 v0_3 v0_5 : Value) (x0_4 : Int32) : va_W := [(a0, .inr (1, [v0_0, v0_1, v0_2, v0_3, .int x0_4, v0_5]))]
abbrev rm_Finds_priceOfAll : Room := { frames := 0, cells := 0, slots := 0, locals := 0 }
def S_Finds_priceOfAll (x0_4 : Int32) : Option (Int32) := (some x0_4)
set_option maxHeartbeats 4000000 in
set_option maxRecDepth 100000 in
theorem c_Finds_priceOfAll (l : Launch) (dC : Nat → ClassId) (dI : Nat → Nat → Nat) (kA : Nat → ClassId) (sz : Nat) (a0 : Nat) (v0_0 v0_1 v0_2 v0_3 v0_5 : Value) (x0_4 : Int32) (r : Int32) (hF : S_Finds_priceOfAll x0_4 = some r) : Met l y_Finds_priceOfAll w_Finds_priceOfAll rm_Finds_priceOfAll (va_Pc [.ref a0] (fun U => U.heap.size = sz ∧ va_P (dC, dI) classes (wd_Finds_priceOfAll kA a0 v0_0 v0_1 v0_2 v0_3 v0_5 x0_4) U.heap ∧ va_K (dC, dI) classes (tys_ kA) U ∧ va_D (fun _ => True) (wd_Finds_priceOfAll kA a0 v0_0 v0_1 v0_2 v0_3 v0_5 x0_4))) (va_Qi (fun (r1 : Int32) (_ : Unit) => r1 = r) (fun _ t => va_P (dC, dI) classes (wd_Finds_priceOfAll kA a0 v0_0 v0_1 v0_2 v0_3 v0_5 x0_4) t.heap ∧ va_K (dC, dI) classes (tys_ kA) t ∧ va_D (va_A (wd_Finds_priceOfAll kA a0 v0_0 v0_1 v0_2 v0_3 v0_5 x0_4) sz) (wd_Finds_priceOfAll kA a0 v0_0 v0_1 v0_2 v0_3 v0_5 x0_4)) (va_A (wd_Finds_priceOfAll kA a0 v0_0 v0_1 v0_2 v0_3 v0_5 x0_4) sz)) 0 0 (va_A (wd_Finds_priceOfAll kA a0 v0_0 v0_1 v0_2 v0_3 v0_5 x0_4) sz) := by
  refine Met.ofW (cc := b_Finds_priceOfAll) (maxL := 1) (ret := some .int) (by decide) rfl ?_
  intro p e s m args below meth c s₁ B hml hv
  obtain ⟨rfl, hsz, hP, hK, hD0⟩ := hv
  have hx := B.exec
  have hb := B.bytes
  have hr := B.returns
  have hts := atoms_spec (ws := w_Finds_priceOfAll) B.pre
  have hown : s.vm.findClass R_Finds = some m.cls := findClass_of_methodNamed B.named
  have hg := fun (w : Cond) (h : w ∈ gw) => hts w (List.mem_cons_of_mem _ h)
  have hlocks := B.notSynchronized
  subst hsz
  have hD := hD0.self (sz := s.heap.size)
  generalize hAe : va_A (wd_Finds_priceOfAll kA a0 v0_0 v0_1 v0_2 v0_3 v0_5 x0_4) s.heap.size = A at hD ⊢
  have hA : ∀ q : Nat, s.heap.size ≤ q → A q := fun q h => by rw [← hAe]; exact Or.inr h
  have hS : va_S A s.heap s.heap [] := va_S.rf
  have hl := lv_entry ([.ref a0]) (n := 1) (Nat.le_of_ble_eq_true rfl)
  rw [lg_entry_eq]
  generalize (lg_sl ([.ref a0]) ++ List.replicate (1 - (lg_sl ([.ref a0])).length) Slot.unset).toArray = ls at hl ⊢
  have hl : lv_has ls 1 [(0, .ref a0)] := hl
  unfold S_Finds_priceOfAll at hF
  refine lv_aload_n hx hb d_Finds_priceOfAll_0 rfl (lv_at hl 0 rfl) ?_
  refine va_get (D := (dC, dI)) (ci := 1) (v := .int x0_4) (C := R_Finds) (T := F_Finds) (N := 6) hx hb hg iw_Finds hown hK hP 0 rfl rfl 4 (by decide) (hg _ gw_6) (fun _ h9 => h9) rfl d_Finds_priceOfAll_1 ?_
  have e0 := Option.some.inj hF
  exact W.iret (v := x0_4) hx hb hr (fun t ht hW => ⟨⟨x0_4, (), rfl, e0, by rw [ht]; exact hP, va_K.moved hW.alike hK, (by exact hD)⟩, hS.F ht⟩) hS.2.2 d_Finds_priceOfAll_4 hlocks
-- ===== RepairDesk$Finds.lengthOf(I)I
abbrev wd_Finds_lengthOf (kA : Nat → ClassId) (a0 a1 : Nat) (v0_0 v0_2 v0_4 v0_5 : Value) (x0_3 : Int32) (f1 : (Nat → Int32)) : va_W := [(a0, .inr (1, [v0_0, .ref a1, v0_2, .int x0_3, v0_4, v0_5])), (a1, .inl (kA 0, 40, .inl f1))]
abbrev rm_Finds_lengthOf : Room := { frames := 1, cells := 0, slots := 0, locals := 21 }
def S_Finds_lengthOf (p1 : Int32) (x0_3 : Int32) (f1 : (Nat → Int32)) : Option (Int32) := ((S_Finds_has p1 x0_3).bind fun u_1 => (if u_1 = 0 then (some 0) else (if (p1 : Int32) < 0 ∨ 40 ≤ (Int32.toNatClampNeg p1) then none else (some (f1 (Int32.toNatClampNeg p1))))))
set_option maxHeartbeats 4000000 in
set_option maxRecDepth 100000 in
theorem c_Finds_lengthOf (l : Launch) (dC : Nat → ClassId) (dI : Nat → Nat → Nat) (kA : Nat → ClassId) (sz : Nat) (a0 a1 : Nat) (v0_0 v0_2 v0_4 v0_5 : Value) (p1 : Int32) (x0_3 : Int32) (f1 : (Nat → Int32)) (r : Int32) (hF : S_Finds_lengthOf p1 x0_3 f1 = some r) : Met l y_Finds_lengthOf w_Finds_lengthOf rm_Finds_lengthOf (va_Pc [.ref a0, .int p1] (fun U => U.heap.size = sz ∧ va_P (dC, dI) classes (wd_Finds_lengthOf kA a0 a1 v0_0 v0_2 v0_4 v0_5 x0_3 f1) U.heap ∧ va_K (dC, dI) classes (tys_ kA) U ∧ va_D (fun _ => True) (wd_Finds_lengthOf kA a0 a1 v0_0 v0_2 v0_4 v0_5 x0_3 f1))) (va_Qi (fun (r1 : Int32) (_ : Unit) => r1 = r) (fun _ t => va_P (dC, dI) classes (wd_Finds_lengthOf kA a0 a1 v0_0 v0_2 v0_4 v0_5 x0_3 f1) t.heap ∧ va_K (dC, dI) classes (tys_ kA) t ∧ va_D (va_A (wd_Finds_lengthOf kA a0 a1 v0_0 v0_2 v0_4 v0_5 x0_3 f1) sz) (wd_Finds_lengthOf kA a0 a1 v0_0 v0_2 v0_4 v0_5 x0_3 f1)) (va_A (wd_Finds_lengthOf kA a0 a1 v0_0 v0_2 v0_4 v0_5 x0_3 f1) sz)) 0 0 (va_A (wd_Finds_lengthOf kA a0 a1 v0_0 v0_2 v0_4 v0_5 x0_3 f1) sz) := by
  refine Met.ofW (cc := b_Finds_lengthOf) (maxL := 2) (ret := some .int) (by decide) rfl ?_
  intro p e s m args below meth c s₁ B hml hv
  obtain ⟨rfl, hsz, hP, hK, hD0⟩ := hv
  have hx := B.exec
  have hb := B.bytes
  have hr := B.returns
  have hts := atoms_spec (ws := w_Finds_lengthOf) B.pre
  have hown : s.vm.findClass R_Finds = some m.cls := findClass_of_methodNamed B.named
  have hg := fun (w : Cond) (h : w ∈ gw) => hts w (List.mem_cons_of_mem _ h)
  have hlocks := B.notSynchronized
  subst hsz
  have hD := hD0.self (sz := s.heap.size)
  generalize hAe : va_A (wd_Finds_lengthOf kA a0 a1 v0_0 v0_2 v0_4 v0_5 x0_3 f1) s.heap.size = A at hD ⊢
  have hA : ∀ q : Nat, s.heap.size ≤ q → A q := fun q h => by rw [← hAe]; exact Or.inr h
  have hS : va_S A s.heap s.heap [] := va_S.rf
  have hl := lv_entry ([.ref a0, .int p1]) (n := 2) (Nat.le_of_ble_eq_true rfl)
  rw [lg_entry_eq]
  generalize (lg_sl ([.ref a0, .int p1]) ++ List.replicate (2 - (lg_sl ([.ref a0, .int p1])).length) Slot.unset).toArray = ls at hl ⊢
  have hl : lv_has ls 2 [(0, .ref a0), (1, .int p1)] := hl
  unfold S_Finds_lengthOf at hF
  refine lv_aload_n hx hb d_Finds_lengthOf_0 rfl (lv_at hl 0 rfl) ?_
  refine lv_iload_n hx hb d_Finds_lengthOf_1 rfl (lv_at hl 1 rfl) ?_
  obtain ⟨u_1, hS_1, hF⟩ := rd_bind hF
  have hPc := hP.sub (ws' := (wd_Finds_has kA a0 v0_0 (.ref a1) v0_2 v0_4 v0_5 x0_3)) [0] rfl
  have hDc := hD.sub (ws' := (wd_Finds_has kA a0 v0_0 (.ref a1) v0_2 v0_4 v0_5 x0_3)) [0] (by decide) rfl
  have hFc := va_free (wc := (wd_Finds_has kA a0 v0_0 (.ref a1) v0_2 v0_4 v0_5 x0_3)) hD hS hA [0] rfl
  refine va_calli (va_runV (As := [.int p1]) (rest := []) ⟨hx, hb, hml, hown, hts⟩ (c_Finds_has l dC dI kA s.heap.size a0 v0_0 (.ref a1) v0_2 v0_4 v0_5 p1 x0_3 u_1 hS_1) (cwV 1 hts (gw_V gw_8 gw_9 gw_10 gw_11 gw_12) rfl rfl rfl (by decide +kernel) ⟨Nat.le_of_ble_eq_true rfl, Nat.le_of_ble_eq_true rfl⟩) ⟨fun a U g mk q => by obtain ⟨q0, q1, qP, qK, qD⟩ := q; exact ⟨q0, q1, qP, va_K.moved (u := U) (U := U.calling g mk a) (Vm.Alike.refl U.vm) qK, qD⟩, va_recv hK hP (ci := 1) (q0 := 0) rfl rfl, fun U hU hW => ⟨rfl, by rw [hU], by rw [hU]; exact hPc, va_K.moved hW.alike hK, hDc.weaken (fun _ _ _ _ => trivial)⟩⟩ rfl rfl hl.1 rfl (lv_room (Nat.le_of_ble_eq_true rfl)) d_Finds_lengthOf_2 ⟨Nat.zero_le _, Nat.zero_le _⟩) hS (fun q _ h => hFc q h) hFc (fun r1 u t H1 locs ht hvm hw hB hz1 hk1 hS => ?_)
  rw [show r1 = _ from hw]
  obtain ⟨hP1, hK1, hD1⟩ := hB
  rw [ht] at hP1
  obtain ⟨hP, hD⟩ := va_join (wr := [(a1, .inl (kA 0, 40, .inl f1))]) (w1 := (wd_Finds_has kA a0 v0_0 (.ref a1) v0_2 v0_4 v0_5 x0_3)) hP hD [0] [1] rfl rfl (by decide) (by decide) hk1 hFc hP1 hD1
  have hP := hP.sub (ws' := (wd_Finds_lengthOf kA a0 a1 v0_0 v0_2 v0_4 v0_5 x0_3 f1)) [1, 0] rfl
  have hD := hD.sub (ws' := (wd_Finds_lengthOf kA a0 a1 v0_0 v0_2 v0_4 v0_5 x0_3 f1)) [1, 0] (by decide) rfl
  clear hPc hDc hFc hP1 hK1 hD1
  generalize H1 = H at hP hS ⊢
  refine lv_if_eq (tgt := 17) hx hb d_Finds_lengthOf_5 (by decide) (fun c_2 => ?_) (fun c_2 => ?_)
  · rw [if_pos c_2] at hF
    refine lv_iconst (v := 0) hx hb d_Finds_lengthOf_17 (by decide) ?_
    have e0 := Option.some.inj hF
    exact W.iret (v := 0) hx hb hr (fun t ht hW => ⟨⟨0, (), rfl, e0, by rw [ht]; exact hP, va_K.moved hW.alike hK, (by exact hD)⟩, hS.F ht⟩) hS.2.2 d_Finds_lengthOf_18 hlocks
  · rw [if_neg c_2] at hF
    refine lv_aload_n hx hb d_Finds_lengthOf_8 rfl (lv_at hl 0 rfl) ?_
    refine va_get (D := (dC, dI)) (ci := 1) (v := .ref a1) (C := R_Finds) (T := F_Finds) (N := 6) hx hb hg iw_Finds hown hK hP 0 rfl rfl 1 (by decide) (hg _ gw_13) (fun _ h9 => h9) rfl d_Finds_lengthOf_9 ?_
    refine lv_iload_n hx hb d_Finds_lengthOf_12 rfl (lv_at hl 1 rfl) ?_
    obtain ⟨h_3, hF⟩ := rd_chk hF
    refine va_iald hx hb hK hP 1 0 rfl rfl h_3 d_Finds_lengthOf_13 ?_
    refine lv_goto (tgt := 18) hx hb d_Finds_lengthOf_14 (by decide) ?_
    have e0 := Option.some.inj hF
    exact W.iret (v := (f1 (Int32.toNatClampNeg p1))) hx hb hr (fun t ht hW => ⟨⟨(f1 (Int32.toNatClampNeg p1)), (), rfl, e0, by rw [ht]; exact hP, va_K.moved hW.alike hK, (by exact hD)⟩, hS.F ht⟩) hS.2.2 d_Finds_lengthOf_18 hlocks
-- ===== RepairDesk$Finds.stepAt(II)I
abbrev wd_Finds_stepAt (kA : Nat → ClassId) (a0 a1 a2 : Nat) (v0_2 v0_4 v0_5 : Value) (x0_3 : Int32) (f1 : (Nat → Int32)) (f2 : (Nat → Int32)) : va_W := [(a0, .inr (1, [.ref a2, .ref a1, v0_2, .int x0_3, v0_4, v0_5])), (a1, .inl (kA 0, 40, .inl f1)), (a2, .inl (kA 0, 240, .inl f2))]
abbrev rm_Finds_stepAt : Room := { frames := 2, cells := 0, slots := 0, locals := 42 }
def S_Finds_stepAt (p1 : Int32) (p2 : Int32) (x0_3 : Int32) (f1 : (Nat → Int32)) (f2 : (Nat → Int32)) : Option (Int32) := (if p2 < 0 then (some (-1)) else ((S_Finds_lengthOf p1 x0_3 f1).bind fun u_2 => (if u_2 ≤ p2 then (some (-1)) else (if (((p1 * 6) + p2) : Int32) < 0 ∨ 240 ≤ (Int32.toNatClampNeg ((p1 * 6) + p2)) then none else (some (f2 (Int32.toNatClampNeg ((p1 * 6) + p2))))))))
set_option maxHeartbeats 4000000 in
set_option maxRecDepth 100000 in
theorem c_Finds_stepAt (l : Launch) (dC : Nat → ClassId) (dI : Nat → Nat → Nat) (kA : Nat → ClassId) (sz : Nat) (a0 a1 a2 : Nat) (v0_2 v0_4 v0_5 : Value) (p1 : Int32) (p2 : Int32) (x0_3 : Int32) (f1 : (Nat → Int32)) (f2 : (Nat → Int32)) (r : Int32) (hF : S_Finds_stepAt p1 p2 x0_3 f1 f2 = some r) : Met l y_Finds_stepAt w_Finds_stepAt rm_Finds_stepAt (va_Pc [.ref a0, .int p1, .int p2] (fun U => U.heap.size = sz ∧ va_P (dC, dI) classes (wd_Finds_stepAt kA a0 a1 a2 v0_2 v0_4 v0_5 x0_3 f1 f2) U.heap ∧ va_K (dC, dI) classes (tys_ kA) U ∧ va_D (fun _ => True) (wd_Finds_stepAt kA a0 a1 a2 v0_2 v0_4 v0_5 x0_3 f1 f2))) (va_Qi (fun (r1 : Int32) (_ : Unit) => r1 = r) (fun _ t => va_P (dC, dI) classes (wd_Finds_stepAt kA a0 a1 a2 v0_2 v0_4 v0_5 x0_3 f1 f2) t.heap ∧ va_K (dC, dI) classes (tys_ kA) t ∧ va_D (va_A (wd_Finds_stepAt kA a0 a1 a2 v0_2 v0_4 v0_5 x0_3 f1 f2) sz) (wd_Finds_stepAt kA a0 a1 a2 v0_2 v0_4 v0_5 x0_3 f1 f2)) (va_A (wd_Finds_stepAt kA a0 a1 a2 v0_2 v0_4 v0_5 x0_3 f1 f2) sz)) 0 0 (va_A (wd_Finds_stepAt kA a0 a1 a2 v0_2 v0_4 v0_5 x0_3 f1 f2) sz) := by
  refine Met.ofW (cc := b_Finds_stepAt) (maxL := 3) (ret := some .int) (by decide) rfl ?_
  intro p e s m args below meth c s₁ B hml hv
  obtain ⟨rfl, hsz, hP, hK, hD0⟩ := hv
  have hx := B.exec
  have hb := B.bytes
  have hr := B.returns
  have hts := atoms_spec (ws := w_Finds_stepAt) B.pre
  have hown : s.vm.findClass R_Finds = some m.cls := findClass_of_methodNamed B.named
  have hg := fun (w : Cond) (h : w ∈ gw) => hts w (List.mem_cons_of_mem _ h)
  have hlocks := B.notSynchronized
  subst hsz
  have hD := hD0.self (sz := s.heap.size)
  generalize hAe : va_A (wd_Finds_stepAt kA a0 a1 a2 v0_2 v0_4 v0_5 x0_3 f1 f2) s.heap.size = A at hD ⊢
  have hA : ∀ q : Nat, s.heap.size ≤ q → A q := fun q h => by rw [← hAe]; exact Or.inr h
  have hS : va_S A s.heap s.heap [] := va_S.rf
  have hl := lv_entry ([.ref a0, .int p1, .int p2]) (n := 3) (Nat.le_of_ble_eq_true rfl)
  rw [lg_entry_eq]
  generalize (lg_sl ([.ref a0, .int p1, .int p2]) ++ List.replicate (3 - (lg_sl ([.ref a0, .int p1, .int p2])).length) Slot.unset).toArray = ls at hl ⊢
  have hl : lv_has ls 3 [(0, .ref a0), (1, .int p1), (2, .int p2)] := hl
  unfold S_Finds_stepAt at hF
  refine lv_iload_n hx hb d_Finds_stepAt_0 rfl (lv_at hl 2 rfl) ?_
  refine lv_if_lt (tgt := 27) hx hb d_Finds_stepAt_1 (by decide) (fun c_1 => ?_) (fun c_1 => ?_)
  · rw [if_pos c_1] at hF
    refine lv_iconst (v := (-1)) hx hb d_Finds_stepAt_27 (by decide) ?_
    have e0 := Option.some.inj hF
    exact W.iret (v := (-1)) hx hb hr (fun t ht hW => ⟨⟨(-1), (), rfl, e0, by rw [ht]; exact hP, va_K.moved hW.alike hK, (by exact hD)⟩, hS.F ht⟩) hS.2.2 d_Finds_stepAt_28 hlocks
  · rw [if_neg c_1] at hF
    refine lv_iload_n hx hb d_Finds_stepAt_4 rfl (lv_at hl 2 rfl) ?_
    refine lv_aload_n hx hb d_Finds_stepAt_5 rfl (lv_at hl 0 rfl) ?_
    refine lv_iload_n hx hb d_Finds_stepAt_6 rfl (lv_at hl 1 rfl) ?_
    obtain ⟨u_2, hS_2, hF⟩ := rd_bind hF
    have hPc := hP.sub (ws' := (wd_Finds_lengthOf kA a0 a1 (.ref a2) v0_2 v0_4 v0_5 x0_3 f1)) [0, 1] rfl
    have hDc := hD.sub (ws' := (wd_Finds_lengthOf kA a0 a1 (.ref a2) v0_2 v0_4 v0_5 x0_3 f1)) [0, 1] (by decide) rfl
    have hFc := va_free (wc := (wd_Finds_lengthOf kA a0 a1 (.ref a2) v0_2 v0_4 v0_5 x0_3 f1)) hD hS hA [0, 1] rfl
    refine va_calli (va_runV (As := [.int p1]) (rest := [.int p2]) ⟨hx, hb, hml, hown, hts⟩ (c_Finds_lengthOf l dC dI kA s.heap.size a0 a1 (.ref a2) v0_2 v0_4 v0_5 p1 x0_3 f1 u_2 hS_2) (cwV 1 hts (gw_V gw_14 gw_15 gw_16 gw_11 gw_17) rfl rfl rfl (by decide +kernel) ⟨Nat.le_of_ble_eq_true rfl, Nat.le_of_ble_eq_true rfl⟩) ⟨fun a U g mk q => by obtain ⟨q0, q1, qP, qK, qD⟩ := q; exact ⟨q0, q1, qP, va_K.moved (u := U) (U := U.calling g mk a) (Vm.Alike.refl U.vm) qK, qD⟩, va_recv hK hP (ci := 1) (q0 := 0) rfl rfl, fun U hU hW => ⟨rfl, by rw [hU], by rw [hU]; exact hPc, va_K.moved hW.alike hK, hDc.weaken (fun _ _ _ _ => trivial)⟩⟩ rfl rfl hl.1 rfl (lv_room (Nat.le_of_ble_eq_true rfl)) d_Finds_stepAt_7 ⟨Nat.zero_le _, Nat.zero_le _⟩) hS (fun q _ h => hFc q h) hFc (fun r1 u t H1 locs ht hvm hw hB hz1 hk1 hS => ?_)
    rw [show r1 = _ from hw]
    obtain ⟨hP1, hK1, hD1⟩ := hB
    rw [ht] at hP1
    obtain ⟨hP, hD⟩ := va_join (wr := [(a2, .inl (kA 0, 240, .inl f2))]) (w1 := (wd_Finds_lengthOf kA a0 a1 (.ref a2) v0_2 v0_4 v0_5 x0_3 f1)) hP hD [0, 1] [2] rfl rfl (by decide) (by decide) hk1 hFc hP1 hD1
    have hP := hP.sub (ws' := (wd_Finds_stepAt kA a0 a1 a2 v0_2 v0_4 v0_5 x0_3 f1 f2)) [1, 2, 0] rfl
    have hD := hD.sub (ws' := (wd_Finds_stepAt kA a0 a1 a2 v0_2 v0_4 v0_5 x0_3 f1 f2)) [1, 2, 0] (by decide) rfl
    clear hPc hDc hFc hP1 hK1 hD1
    generalize H1 = H at hP hS ⊢
    refine lv_icmp_ge (tgt := 27) hx hb d_Finds_stepAt_10 (by decide) (fun c_3 => ?_) (fun c_3 => ?_)
    · rw [if_pos c_3] at hF
      refine lv_iconst (v := (-1)) hx hb d_Finds_stepAt_27 (by decide) ?_
      have e0 := Option.some.inj hF
      exact W.iret (v := (-1)) hx hb hr (fun t ht hW => ⟨⟨(-1), (), rfl, e0, by rw [ht]; exact hP, va_K.moved hW.alike hK, (by exact hD)⟩, hS.F ht⟩) hS.2.2 d_Finds_stepAt_28 hlocks
    · rw [if_neg c_3] at hF
      refine lv_aload_n hx hb d_Finds_stepAt_13 rfl (lv_at hl 0 rfl) ?_
      refine va_get (D := (dC, dI)) (ci := 1) (v := .ref a2) (C := R_Finds) (T := F_Finds) (N := 6) hx hb hg iw_Finds hown hK hP 0 rfl rfl 0 (by decide) (hg _ gw_18) (fun _ h9 => h9) rfl d_Finds_stepAt_14 ?_
      refine lv_iload_n hx hb d_Finds_stepAt_17 rfl (lv_at hl 1 rfl) ?_
      refine lv_bipush (v := 6) hx hb d_Finds_stepAt_18 (by decide) ?_
      refine lv_imul hx hb d_Finds_stepAt_20 ?_
      refine lv_iload_n hx hb d_Finds_stepAt_21 rfl (lv_at hl 2 rfl) ?_
      refine lv_iadd hx hb d_Finds_stepAt_22 ?_
      obtain ⟨h_4, hF⟩ := rd_chk hF
      refine va_iald hx hb hK hP 2 0 rfl rfl h_4 d_Finds_stepAt_23 ?_
      refine lv_goto (tgt := 28) hx hb d_Finds_stepAt_24 (by decide) ?_
      have e0 := Option.some.inj hF
      exact W.iret (v := (f2 (Int32.toNatClampNeg ((p1 * 6) + p2)))) hx hb hr (fun t ht hW => ⟨⟨(f2 (Int32.toNatClampNeg ((p1 * 6) + p2))), (), rfl, e0, by rw [ht]; exact hP, va_K.moved hW.alike hK, (by exact hD)⟩, hS.F ht⟩) hS.2.2 d_Finds_stepAt_28 hlocks
-- ===== RepairDesk$Finds.reachOf(I)I
abbrev wd_Finds_reachOf (kA : Nat → ClassId) (a0 a1 : Nat) (v0_0 v0_1 v0_4 v0_5 : Value) (x0_3 : Int32) (f1 : (Nat → Int32)) : va_W := [(a0, .inr (1, [v0_0, v0_1, .ref a1, .int x0_3, v0_4, v0_5])), (a1, .inl (kA 0, 40, .inl f1))]
abbrev rm_Finds_reachOf : Room := { frames := 1, cells := 0, slots := 0, locals := 21 }
def S_Finds_reachOf (p1 : Int32) (x0_3 : Int32) (f1 : (Nat → Int32)) : Option (Int32) := ((S_Finds_has p1 x0_3).bind fun u_1 => (if u_1 = 0 then (some 0) else (if (p1 : Int32) < 0 ∨ 40 ≤ (Int32.toNatClampNeg p1) then none else (some (f1 (Int32.toNatClampNeg p1))))))
set_option maxHeartbeats 4000000 in
set_option maxRecDepth 100000 in
theorem c_Finds_reachOf (l : Launch) (dC : Nat → ClassId) (dI : Nat → Nat → Nat) (kA : Nat → ClassId) (sz : Nat) (a0 a1 : Nat) (v0_0 v0_1 v0_4 v0_5 : Value) (p1 : Int32) (x0_3 : Int32) (f1 : (Nat → Int32)) (r : Int32) (hF : S_Finds_reachOf p1 x0_3 f1 = some r) : Met l y_Finds_reachOf w_Finds_reachOf rm_Finds_reachOf (va_Pc [.ref a0, .int p1] (fun U => U.heap.size = sz ∧ va_P (dC, dI) classes (wd_Finds_reachOf kA a0 a1 v0_0 v0_1 v0_4 v0_5 x0_3 f1) U.heap ∧ va_K (dC, dI) classes (tys_ kA) U ∧ va_D (fun _ => True) (wd_Finds_reachOf kA a0 a1 v0_0 v0_1 v0_4 v0_5 x0_3 f1))) (va_Qi (fun (r1 : Int32) (_ : Unit) => r1 = r) (fun _ t => va_P (dC, dI) classes (wd_Finds_reachOf kA a0 a1 v0_0 v0_1 v0_4 v0_5 x0_3 f1) t.heap ∧ va_K (dC, dI) classes (tys_ kA) t ∧ va_D (va_A (wd_Finds_reachOf kA a0 a1 v0_0 v0_1 v0_4 v0_5 x0_3 f1) sz) (wd_Finds_reachOf kA a0 a1 v0_0 v0_1 v0_4 v0_5 x0_3 f1)) (va_A (wd_Finds_reachOf kA a0 a1 v0_0 v0_1 v0_4 v0_5 x0_3 f1) sz)) 0 0 (va_A (wd_Finds_reachOf kA a0 a1 v0_0 v0_1 v0_4 v0_5 x0_3 f1) sz) := by
  refine Met.ofW (cc := b_Finds_reachOf) (maxL := 2) (ret := some .int) (by decide) rfl ?_
  intro p e s m args below meth c s₁ B hml hv
  obtain ⟨rfl, hsz, hP, hK, hD0⟩ := hv
  have hx := B.exec
  have hb := B.bytes
  have hr := B.returns
  have hts := atoms_spec (ws := w_Finds_reachOf) B.pre
  have hown : s.vm.findClass R_Finds = some m.cls := findClass_of_methodNamed B.named
  have hg := fun (w : Cond) (h : w ∈ gw) => hts w (List.mem_cons_of_mem _ h)
  have hlocks := B.notSynchronized
  subst hsz
  have hD := hD0.self (sz := s.heap.size)
  generalize hAe : va_A (wd_Finds_reachOf kA a0 a1 v0_0 v0_1 v0_4 v0_5 x0_3 f1) s.heap.size = A at hD ⊢
  have hA : ∀ q : Nat, s.heap.size ≤ q → A q := fun q h => by rw [← hAe]; exact Or.inr h
  have hS : va_S A s.heap s.heap [] := va_S.rf
  have hl := lv_entry ([.ref a0, .int p1]) (n := 2) (Nat.le_of_ble_eq_true rfl)
  rw [lg_entry_eq]
  generalize (lg_sl ([.ref a0, .int p1]) ++ List.replicate (2 - (lg_sl ([.ref a0, .int p1])).length) Slot.unset).toArray = ls at hl ⊢
  have hl : lv_has ls 2 [(0, .ref a0), (1, .int p1)] := hl
  unfold S_Finds_reachOf at hF
  refine lv_aload_n hx hb d_Finds_reachOf_0 rfl (lv_at hl 0 rfl) ?_
  refine lv_iload_n hx hb d_Finds_reachOf_1 rfl (lv_at hl 1 rfl) ?_
  obtain ⟨u_1, hS_1, hF⟩ := rd_bind hF
  have hPc := hP.sub (ws' := (wd_Finds_has kA a0 v0_0 v0_1 (.ref a1) v0_4 v0_5 x0_3)) [0] rfl
  have hDc := hD.sub (ws' := (wd_Finds_has kA a0 v0_0 v0_1 (.ref a1) v0_4 v0_5 x0_3)) [0] (by decide) rfl
  have hFc := va_free (wc := (wd_Finds_has kA a0 v0_0 v0_1 (.ref a1) v0_4 v0_5 x0_3)) hD hS hA [0] rfl
  refine va_calli (va_runV (As := [.int p1]) (rest := []) ⟨hx, hb, hml, hown, hts⟩ (c_Finds_has l dC dI kA s.heap.size a0 v0_0 v0_1 (.ref a1) v0_4 v0_5 p1 x0_3 u_1 hS_1) (cwV 1 hts (gw_V gw_8 gw_9 gw_10 gw_11 gw_12) rfl rfl rfl (by decide +kernel) ⟨Nat.le_of_ble_eq_true rfl, Nat.le_of_ble_eq_true rfl⟩) ⟨fun a U g mk q => by obtain ⟨q0, q1, qP, qK, qD⟩ := q; exact ⟨q0, q1, qP, va_K.moved (u := U) (U := U.calling g mk a) (Vm.Alike.refl U.vm) qK, qD⟩, va_recv hK hP (ci := 1) (q0 := 0) rfl rfl, fun U hU hW => ⟨rfl, by rw [hU], by rw [hU]; exact hPc, va_K.moved hW.alike hK, hDc.weaken (fun _ _ _ _ => trivial)⟩⟩ rfl rfl hl.1 rfl (lv_room (Nat.le_of_ble_eq_true rfl)) d_Finds_reachOf_2 ⟨Nat.zero_le _, Nat.zero_le _⟩) hS (fun q _ h => hFc q h) hFc (fun r1 u t H1 locs ht hvm hw hB hz1 hk1 hS => ?_)
  rw [show r1 = _ from hw]
  obtain ⟨hP1, hK1, hD1⟩ := hB
  rw [ht] at hP1
  obtain ⟨hP, hD⟩ := va_join (wr := [(a1, .inl (kA 0, 40, .inl f1))]) (w1 := (wd_Finds_has kA a0 v0_0 v0_1 (.ref a1) v0_4 v0_5 x0_3)) hP hD [0] [1] rfl rfl (by decide) (by decide) hk1 hFc hP1 hD1
  have hP := hP.sub (ws' := (wd_Finds_reachOf kA a0 a1 v0_0 v0_1 v0_4 v0_5 x0_3 f1)) [1, 0] rfl
  have hD := hD.sub (ws' := (wd_Finds_reachOf kA a0 a1 v0_0 v0_1 v0_4 v0_5 x0_3 f1)) [1, 0] (by decide) rfl
  clear hPc hDc hFc hP1 hK1 hD1
  generalize H1 = H at hP hS ⊢
  refine lv_if_eq (tgt := 17) hx hb d_Finds_reachOf_5 (by decide) (fun c_2 => ?_) (fun c_2 => ?_)
  · rw [if_pos c_2] at hF
    refine lv_iconst (v := 0) hx hb d_Finds_reachOf_17 (by decide) ?_
    have e0 := Option.some.inj hF
    exact W.iret (v := 0) hx hb hr (fun t ht hW => ⟨⟨0, (), rfl, e0, by rw [ht]; exact hP, va_K.moved hW.alike hK, (by exact hD)⟩, hS.F ht⟩) hS.2.2 d_Finds_reachOf_18 hlocks
  · rw [if_neg c_2] at hF
    refine lv_aload_n hx hb d_Finds_reachOf_8 rfl (lv_at hl 0 rfl) ?_
    refine va_get (D := (dC, dI)) (ci := 1) (v := .ref a1) (C := R_Finds) (T := F_Finds) (N := 6) hx hb hg iw_Finds hown hK hP 0 rfl rfl 2 (by decide) (hg _ gw_19) (fun _ h9 => h9) rfl d_Finds_reachOf_9 ?_
    refine lv_iload_n hx hb d_Finds_reachOf_12 rfl (lv_at hl 1 rfl) ?_
    obtain ⟨h_3, hF⟩ := rd_chk hF
    refine va_iald hx hb hK hP 1 0 rfl rfl h_3 d_Finds_reachOf_13 ?_
    refine lv_goto (tgt := 18) hx hb d_Finds_reachOf_14 (by decide) ?_
    have e0 := Option.some.inj hF
    exact W.iret (v := (f1 (Int32.toNatClampNeg p1))) hx hb hr (fun t ht hW => ⟨⟨(f1 (Int32.toNatClampNeg p1)), (), rfl, e0, by rw [ht]; exact hP, va_K.moved hW.alike hK, (by exact hD)⟩, hS.F ht⟩) hS.2.2 d_Finds_reachOf_18 hlocks
-- ===== RepairDesk$Finds.growthBy(I)I
abbrev wd_Finds_growthBy (kA : Nat → ClassId) (a0 a1 a2 : Nat) (v0_2 v0_4 v0_5 : Value) (x0_3 : Int32) (f1 : (Nat → Int32)) (f2 : (Nat → Int32)) : va_W := [(a0, .inr (1, [.ref a2, .ref a1, v0_2, .int x0_3, v0_4, v0_5])), (a1, .inl (kA 0, 40, .inl f1)), (a2, .inl (kA 0, 240, .inl f2))]
abbrev rm_Finds_growthBy : Room := { frames := 2, cells := 0, slots := 0, locals := 42 }
def B_Finds_growthBy_0 (K : Nat → Int32 → Int32 → Int32 → Option (Int32)) (x0_3 : Int32) (f1 : (Nat → Int32)) (f2 : (Nat → Int32)) (l1 : Int32) (l2 : Int32) (l3 : Int32)  : Option (Int32) := ((S_Finds_lengthOf l1 x0_3 f1).bind fun u_1 => (if u_1 ≤ l3 then (some l2) else (if (((l1 * 6) + l3) : Int32) < 0 ∨ 240 ≤ (Int32.toNatClampNeg ((l1 * 6) + l3)) then none else (if ¬ (f2 (Int32.toNatClampNeg ((l1 * 6) + l3))) = 6 then (if (f2 (Int32.toNatClampNeg ((l1 * 6) + l3))) = 7 then (K 0 l1 l2 (l3 + 1)) else (K 0 l1 (l2 + 1) (l3 + 1))) else (K 0 l1 (l2 + (-1)) (l3 + 1))))))
def F_Finds_growthBy (x0_3 : Int32) (f1 : (Nat → Int32)) (f2 : (Nat → Int32)) : Nat → Nat → Int32 → Int32 → Int32 → Option (Int32)
  | 0 => fun _ _ _ _ => none
  | n + 1 => fun hd l1 l2 l3 => match hd with
    | 0 => B_Finds_growthBy_0 (F_Finds_growthBy x0_3 f1 f2 n) x0_3 f1 f2 l1 l2 l3
    | _ => none
set_option maxHeartbeats 4000000 in
set_option maxRecDepth 100000 in
theorem L_Finds_growthBy {p : Program} {l : Launch} {e : Env} {s : State} {m : MethodId} {args : Array Value} {below : List Frame} {meth : Method} {c : Code} {A : Nat → Prop} {dC : Nat → ClassId} {dI : Nat → Nat → Nat} {kA : Nat → ClassId} (hx : p.tables.exec = Jvm.exec) (hb : c.code = b_Finds_growthBy) (hr : meth.sig.returnType = some .int) (hlocks : meth.locks = false) (hml : c.maxLocals = 5) (hown : s.vm.findClass R_Finds = some m.cls) (hts : ∀ w ∈ w_Finds_growthBy, w.before args s = true) (hA : ∀ q : Nat, s.heap.size ≤ q → A q) (hK : va_K (dC, dI) classes (tys_ kA) s) (a0 a1 a2 : Nat) (v0_2 v0_4 v0_5 : Value) (x0_3 : Int32) (f1 : (Nat → Int32)) (f2 : (Nat → Int32)) (r : Int32) : ∀ n : Nat, (∀ (l1 l2 l3 : Int32), F_Finds_growthBy x0_3 f1 f2 n 0 l1 l2 l3 = some r → ∀ (H : Heap) (locs : List Loc) (ls : Array Slot), va_P (dC, dI) classes (wd_Finds_growthBy kA a0 a1 a2 v0_2 v0_4 v0_5 x0_3 f1 f2) H → va_D A (wd_Finds_growthBy kA a0 a1 a2 v0_2 v0_4 v0_5 x0_3 f1 f2) → va_S A s.heap H locs → lv_has ls 5 [(0, .ref a0), (1, .int l1), (2, .int l2), (3, .int l3)] → W p l e (headSpec w_Finds_growthBy rm_Finds_growthBy).room s m args below meth c H locs 0 0 (MQ below (va_Qi (fun (r1 : Int32) (_ : Unit) => r1 = r) (fun _ t => va_P (dC, dI) classes (wd_Finds_growthBy kA a0 a1 a2 v0_2 v0_4 v0_5 x0_3 f1 f2) t.heap ∧ va_K (dC, dI) classes (tys_ kA) t ∧ va_D A (wd_Finds_growthBy kA a0 a1 a2 v0_2 v0_4 v0_5 x0_3 f1 f2)) A) args s 0 0 A) (F0 m 4 ls [])) := by
  have hg := fun (w : Cond) (h : w ∈ gw) => hts w (List.mem_cons_of_mem _ h)
  intro n
  induction n with
  | zero =>
    exact fun _ _ _ hF => absurd (show (none : Option _) = some _ from hF) (fun z => by cases z)
  | succ n ih =>
    intro l1 l2 l3 hF H locs ls hP hD hS hl
    have hF : B_Finds_growthBy_0 (F_Finds_growthBy x0_3 f1 f2 n) x0_3 f1 f2 l1 l2 l3 = some r := hF
    unfold B_Finds_growthBy_0 at hF
    refine lv_iload_n hx hb d_Finds_growthBy_4 rfl (lv_at hl 3 rfl) ?_
    refine lv_aload_n hx hb d_Finds_growthBy_5 rfl (lv_at hl 0 rfl) ?_
    refine lv_iload_n hx hb d_Finds_growthBy_6 rfl (lv_at hl 1 rfl) ?_
    obtain ⟨u_1, hS_1, hF⟩ := rd_bind hF
    have hPc := hP.sub (ws' := (wd_Finds_lengthOf kA a0 a1 (.ref a2) v0_2 v0_4 v0_5 x0_3 f1)) [0, 1] rfl
    have hDc := hD.sub (ws' := (wd_Finds_lengthOf kA a0 a1 (.ref a2) v0_2 v0_4 v0_5 x0_3 f1)) [0, 1] (by decide) rfl
    have hFc := va_free (wc := (wd_Finds_lengthOf kA a0 a1 (.ref a2) v0_2 v0_4 v0_5 x0_3 f1)) hD hS hA [0, 1] rfl
    refine va_calli (va_runV (As := [.int l1]) (rest := [.int l3]) ⟨hx, hb, hml, hown, hts⟩ (c_Finds_lengthOf l dC dI kA H.size a0 a1 (.ref a2) v0_2 v0_4 v0_5 l1 x0_3 f1 u_1 hS_1) (cwV 1 hts (gw_V gw_14 gw_15 gw_16 gw_11 gw_17) rfl rfl rfl (by decide +kernel) ⟨Nat.le_of_ble_eq_true rfl, Nat.le_of_ble_eq_true rfl⟩) ⟨fun a U g mk q => by obtain ⟨q0, q1, qP, qK, qD⟩ := q; exact ⟨q0, q1, qP, va_K.moved (u := U) (U := U.calling g mk a) (Vm.Alike.refl U.vm) qK, qD⟩, va_recv hK hP (ci := 1) (q0 := 0) rfl rfl, fun U hU hW => ⟨rfl, by rw [hU], by rw [hU]; exact hPc, va_K.moved hW.alike hK, hDc.weaken (fun _ _ _ _ => trivial)⟩⟩ rfl rfl hl.1 rfl (lv_room (Nat.le_of_ble_eq_true rfl)) d_Finds_growthBy_7 ⟨Nat.zero_le _, Nat.zero_le _⟩) hS (fun q _ h => hFc q h) hFc (fun r1 u t H1 locs ht hvm hw hB hz1 hk1 hS => ?_)
    rw [show r1 = _ from hw]
    obtain ⟨hP1, hK1, hD1⟩ := hB
    rw [ht] at hP1
    obtain ⟨hP, hD⟩ := va_join (wr := [(a2, .inl (kA 0, 240, .inl f2))]) (w1 := (wd_Finds_lengthOf kA a0 a1 (.ref a2) v0_2 v0_4 v0_5 x0_3 f1)) hP hD [0, 1] [2] rfl rfl (by decide) (by decide) hk1 hFc hP1 hD1
    have hP := hP.sub (ws' := (wd_Finds_growthBy kA a0 a1 a2 v0_2 v0_4 v0_5 x0_3 f1 f2)) [1, 2, 0] rfl
    have hD := hD.sub (ws' := (wd_Finds_growthBy kA a0 a1 a2 v0_2 v0_4 v0_5 x0_3 f1 f2)) [1, 2, 0] (by decide) rfl
    clear hPc hDc hFc hP1 hK1 hD1
    generalize H1 = H at hP hS ⊢
    refine lv_icmp_ge (tgt := 55) hx hb d_Finds_growthBy_10 (by decide) (fun c_2 => ?_) (fun c_2 => ?_)
    · rw [if_pos c_2] at hF
      refine lv_iload_n hx hb d_Finds_growthBy_55 rfl (lv_at hl 2 rfl) ?_
      have e0 := Option.some.inj hF
      exact W.iret (v := l2) hx hb hr (fun t ht hW => ⟨⟨l2, (), rfl, e0, by rw [ht]; exact hP, va_K.moved hW.alike hK, (by exact hD)⟩, hS.F ht⟩) hS.2.2 d_Finds_growthBy_56 hlocks
    · rw [if_neg c_2] at hF
      refine lv_aload_n hx hb d_Finds_growthBy_13 rfl (lv_at hl 0 rfl) ?_
      refine va_get (D := (dC, dI)) (ci := 1) (v := .ref a2) (C := R_Finds) (T := F_Finds) (N := 6) hx hb hg iw_Finds hown hK hP 0 rfl rfl 0 (by decide) (hg _ gw_18) (fun _ h9 => h9) rfl d_Finds_growthBy_14 ?_
      refine lv_iload_n hx hb d_Finds_growthBy_17 rfl (lv_at hl 1 rfl) ?_
      refine lv_bipush (v := 6) hx hb d_Finds_growthBy_18 (by decide) ?_
      refine lv_imul hx hb d_Finds_growthBy_20 ?_
      refine lv_iload_n hx hb d_Finds_growthBy_21 rfl (lv_at hl 3 rfl) ?_
      refine lv_iadd hx hb d_Finds_growthBy_22 ?_
      obtain ⟨h_3, hF⟩ := rd_chk hF
      refine va_iald hx hb hK hP 2 0 rfl rfl h_3 d_Finds_growthBy_23 ?_
      refine lv_istore (lv' := [(4, .int (f2 (Int32.toNatClampNeg ((l1 * 6) + l3)))), (0, .ref a0), (1, .int l1), (2, .int l2), (3, .int l3)]) hx hb d_Finds_growthBy_24 hl (by decide) rfl (fun ls hl => ?_)
      refine lv_iload hx hb d_Finds_growthBy_26 (lv_at hl 0 rfl) ?_
      refine lv_bipush (v := 6) hx hb d_Finds_growthBy_28 (by decide) ?_
      refine lv_icmp_ne (tgt := 39) hx hb d_Finds_growthBy_30 (by decide) (fun c_4 => ?_) (fun c_4 => ?_)
      · rw [if_pos c_4] at hF
        refine lv_iload hx hb d_Finds_growthBy_39 (lv_at hl 0 rfl) ?_
        refine lv_bipush (v := 7) hx hb d_Finds_growthBy_41 (by decide) ?_
        refine lv_icmp_eq (tgt := 49) hx hb d_Finds_growthBy_43 (by decide) (fun c_5 => ?_) (fun c_5 => ?_)
        · rw [if_pos c_5] at hF
          refine lv_iinc (v := (l3 + 1)) (lv' := [(3, .int (l3 + 1)), (4, .int (f2 (Int32.toNatClampNeg ((l1 * 6) + l3)))), (0, .ref a0), (1, .int l1), (2, .int l2)]) hx hb d_Finds_growthBy_49 hl (k := 4) rfl (by rfl) (by decide) rfl (fun ls hl => ?_)
          refine lv_goto (tgt := 4) hx hb d_Finds_growthBy_52 (by decide) ?_
          exact ih l1 l2 (l3 + 1) hF _ _ _ hP hD hS (lv_sub hl [2, 3, 4, 0] rfl)
        · rw [if_neg c_5] at hF
          refine lv_iinc (v := (l2 + 1)) (lv' := [(2, .int (l2 + 1)), (4, .int (f2 (Int32.toNatClampNeg ((l1 * 6) + l3)))), (0, .ref a0), (1, .int l1), (3, .int l3)]) hx hb d_Finds_growthBy_46 hl (k := 3) rfl (by rfl) (by decide) rfl (fun ls hl => ?_)
          refine lv_iinc (v := (l3 + 1)) (lv' := [(3, .int (l3 + 1)), (2, .int (l2 + 1)), (4, .int (f2 (Int32.toNatClampNeg ((l1 * 6) + l3)))), (0, .ref a0), (1, .int l1)]) hx hb d_Finds_growthBy_49 hl (k := 4) rfl (by rfl) (by decide) rfl (fun ls hl => ?_)
          refine lv_goto (tgt := 4) hx hb d_Finds_growthBy_52 (by decide) ?_
          exact ih l1 (l2 + 1) (l3 + 1) hF _ _ _ hP hD hS (lv_sub hl [3, 4, 1, 0] rfl)
      · rw [if_neg (fun z => z c_4)] at hF
        refine lv_iinc (v := (l2 + (-1))) (lv' := [(2, .int (l2 + (-1))), (4, .int (f2 (Int32.toNatClampNeg ((l1 * 6) + l3)))), (0, .ref a0), (1, .int l1), (3, .int l3)]) hx hb d_Finds_growthBy_33 hl (k := 3) rfl (by rfl) (by decide) rfl (fun ls hl => ?_)
        refine lv_goto (tgt := 49) hx hb d_Finds_growthBy_36 (by decide) ?_
        refine lv_iinc (v := (l3 + 1)) (lv' := [(3, .int (l3 + 1)), (2, .int (l2 + (-1))), (4, .int (f2 (Int32.toNatClampNeg ((l1 * 6) + l3)))), (0, .ref a0), (1, .int l1)]) hx hb d_Finds_growthBy_49 hl (k := 4) rfl (by rfl) (by decide) rfl (fun ls hl => ?_)
        refine lv_goto (tgt := 4) hx hb d_Finds_growthBy_52 (by decide) ?_
        exact ih l1 (l2 + (-1)) (l3 + 1) hF _ _ _ hP hD hS (lv_sub hl [3, 4, 1, 0] rfl)
def S_Finds_growthBy (p1 : Int32) (x0_3 : Int32) (f1 : (Nat → Int32)) (f2 : (Nat → Int32)) : Option (Int32) := (F_Finds_growthBy x0_3 f1 f2 fuel_ 0 p1 0 0)
set_option maxHeartbeats 4000000 in
set_option maxRecDepth 100000 in
theorem c_Finds_growthBy (l : Launch) (dC : Nat → ClassId) (dI : Nat → Nat → Nat) (kA : Nat → ClassId) (sz : Nat) (a0 a1 a2 : Nat) (v0_2 v0_4 v0_5 : Value) (p1 : Int32) (x0_3 : Int32) (f1 : (Nat → Int32)) (f2 : (Nat → Int32)) (r : Int32) (hF : S_Finds_growthBy p1 x0_3 f1 f2 = some r) : Met l y_Finds_growthBy w_Finds_growthBy rm_Finds_growthBy (va_Pc [.ref a0, .int p1] (fun U => U.heap.size = sz ∧ va_P (dC, dI) classes (wd_Finds_growthBy kA a0 a1 a2 v0_2 v0_4 v0_5 x0_3 f1 f2) U.heap ∧ va_K (dC, dI) classes (tys_ kA) U ∧ va_D (fun _ => True) (wd_Finds_growthBy kA a0 a1 a2 v0_2 v0_4 v0_5 x0_3 f1 f2))) (va_Qi (fun (r1 : Int32) (_ : Unit) => r1 = r) (fun _ t => va_P (dC, dI) classes (wd_Finds_growthBy kA a0 a1 a2 v0_2 v0_4 v0_5 x0_3 f1 f2) t.heap ∧ va_K (dC, dI) classes (tys_ kA) t ∧ va_D (va_A (wd_Finds_growthBy kA a0 a1 a2 v0_2 v0_4 v0_5 x0_3 f1 f2) sz) (wd_Finds_growthBy kA a0 a1 a2 v0_2 v0_4 v0_5 x0_3 f1 f2)) (va_A (wd_Finds_growthBy kA a0 a1 a2 v0_2 v0_4 v0_5 x0_3 f1 f2) sz)) 0 0 (va_A (wd_Finds_growthBy kA a0 a1 a2 v0_2 v0_4 v0_5 x0_3 f1 f2) sz) := by
  refine Met.ofW (cc := b_Finds_growthBy) (maxL := 5) (ret := some .int) (by decide) rfl ?_
  intro p e s m args below meth c s₁ B hml hv
  obtain ⟨rfl, hsz, hP, hK, hD0⟩ := hv
  have hx := B.exec
  have hb := B.bytes
  have hr := B.returns
  have hts := atoms_spec (ws := w_Finds_growthBy) B.pre
  have hown : s.vm.findClass R_Finds = some m.cls := findClass_of_methodNamed B.named
  have hg := fun (w : Cond) (h : w ∈ gw) => hts w (List.mem_cons_of_mem _ h)
  have hlocks := B.notSynchronized
  subst hsz
  have hD := hD0.self (sz := s.heap.size)
  generalize hAe : va_A (wd_Finds_growthBy kA a0 a1 a2 v0_2 v0_4 v0_5 x0_3 f1 f2) s.heap.size = A at hD ⊢
  have hA : ∀ q : Nat, s.heap.size ≤ q → A q := fun q h => by rw [← hAe]; exact Or.inr h
  have hS : va_S A s.heap s.heap [] := va_S.rf
  have hl := lv_entry ([.ref a0, .int p1]) (n := 5) (Nat.le_of_ble_eq_true rfl)
  rw [lg_entry_eq]
  generalize (lg_sl ([.ref a0, .int p1]) ++ List.replicate (5 - (lg_sl ([.ref a0, .int p1])).length) Slot.unset).toArray = ls at hl ⊢
  have hl : lv_has ls 5 [(0, .ref a0), (1, .int p1)] := hl
  unfold S_Finds_growthBy at hF
  have ih := L_Finds_growthBy (l := l) (e := e) (below := below) hx hb hr hlocks hml hown hts hA hK a0 a1 a2 v0_2 v0_4 v0_5 x0_3 f1 f2 r fuel_
  refine lv_iconst (v := 0) hx hb d_Finds_growthBy_0 (by decide) ?_
  refine lv_istore_n (lv' := [(2, .int 0), (0, .ref a0), (1, .int p1)]) hx hb d_Finds_growthBy_1 rfl hl (by decide) rfl (fun ls hl => ?_)
  refine lv_iconst (v := 0) hx hb d_Finds_growthBy_2 (by decide) ?_
  refine lv_istore_n (lv' := [(3, .int 0), (2, .int 0), (0, .ref a0), (1, .int p1)]) hx hb d_Finds_growthBy_3 rfl hl (by decide) rfl (fun ls hl => ?_)
  exact ih p1 0 0 hF _ _ _ hP hD hS (lv_sub hl [2, 3, 1, 0] rfl)
-- ===== RepairDesk$Finds.add([IIII)Z
abbrev wd_Finds_add (kA : Nat → ClassId) (a0 a1 a2 a3 a4 : Nat) (v0_5 : Value) (x0_3 : Int32) (x0_4 : Int32) (f1 : (Nat → Int32)) (f2 : (Nat → Int32)) (f3 : (Nat → Int32)) (f4 : (Nat → Int32)) : va_W := [(a0, .inr (1, [.ref a3, .ref a1, .ref a2, .int x0_3, .int x0_4, v0_5])), (a1, .inl (kA 0, 40, .inl f1)), (a2, .inl (kA 0, 40, .inl f2)), (a3, .inl (kA 0, 240, .inl f3)), (a4, .inl (kA 0, 6, .inl f4))]
abbrev rm_Finds_add : Room := { frames := 0, cells := 0, slots := 0, locals := 0 }
def B_Finds_add_0 (K : Nat → Int32 → Int32 → Int32 → Int32 → Int32 → Int32 → (Nat → Int32) → (Nat → Int32) → (Nat → Int32) → Option (Int32 × Int32 × Int32 × (Nat → Int32) × (Nat → Int32) × (Nat → Int32))) (f4 : (Nat → Int32)) (l2 : Int32) (l3 : Int32) (l4 : Int32) (l5 : Int32) (x0_3 : Int32) (x0_4 : Int32) (f1 : (Nat → Int32)) (f2 : (Nat → Int32)) (f3 : (Nat → Int32)) : Option (Int32 × Int32 × Int32 × (Nat → Int32) × (Nat → Int32) × (Nat → Int32)) := (if l2 ≤ l5 then (if (x0_3 : Int32) < 0 ∨ 40 ≤ (Int32.toNatClampNeg x0_3) then none else (if (x0_3 : Int32) < 0 ∨ 40 ≤ (Int32.toNatClampNeg x0_3) then none else (some (1, (x0_3 + 1), l4, (upd f1 (Int32.toNatClampNeg x0_3) l2), (upd f2 (Int32.toNatClampNeg x0_3) l3), f3)))) else (if (l5 : Int32) < 0 ∨ 6 ≤ (Int32.toNatClampNeg l5) then none else (if (((x0_3 * 6) + l5) : Int32) < 0 ∨ 240 ≤ (Int32.toNatClampNeg ((x0_3 * 6) + l5)) then none else (K 0 l2 l3 l4 (l5 + 1) x0_3 x0_4 f1 f2 (upd f3 (Int32.toNatClampNeg ((x0_3 * 6) + l5)) (f4 (Int32.toNatClampNeg l5)))))))
def F_Finds_add (f4 : (Nat → Int32)) : Nat → Nat → Int32 → Int32 → Int32 → Int32 → Int32 → Int32 → (Nat → Int32) → (Nat → Int32) → (Nat → Int32) → Option (Int32 × Int32 × Int32 × (Nat → Int32) × (Nat → Int32) × (Nat → Int32))
  | 0 => fun _ _ _ _ _ _ _ _ _ _ => none
  | n + 1 => fun hd l2 l3 l4 l5 x0_3 x0_4 f1 f2 f3 => match hd with
    | 0 => B_Finds_add_0 (F_Finds_add f4 n) f4 l2 l3 l4 l5 x0_3 x0_4 f1 f2 f3
    | _ => none
set_option maxHeartbeats 4000000 in
set_option maxRecDepth 100000 in
theorem L_Finds_add {p : Program} {l : Launch} {e : Env} {s : State} {m : MethodId} {args : Array Value} {below : List Frame} {meth : Method} {c : Code} {A : Nat → Prop} {dC : Nat → ClassId} {dI : Nat → Nat → Nat} {kA : Nat → ClassId} (hx : p.tables.exec = Jvm.exec) (hb : c.code = b_Finds_add) (hr : meth.sig.returnType = some .boolean) (hlocks : meth.locks = false) (hml : c.maxLocals = 6) (hown : s.vm.findClass R_Finds = some m.cls) (hts : ∀ w ∈ w_Finds_add, w.before args s = true) (hA : ∀ q : Nat, s.heap.size ≤ q → A q) (hK : va_K (dC, dI) classes (tys_ kA) s) (a0 a1 a2 a3 a4 : Nat) (v0_5 : Value) (f4 : (Nat → Int32)) (r : Int32) (ox0_3 : Int32) (ox0_4 : Int32) (of1 : (Nat → Int32)) (of2 : (Nat → Int32)) (of3 : (Nat → Int32)) : ∀ n : Nat, (∀ (l2 l3 l4 l5 : Int32) (x0_3 : Int32) (x0_4 : Int32) (f1 : (Nat → Int32)) (f2 : (Nat → Int32)) (f3 : (Nat → Int32)), F_Finds_add f4 n 0 l2 l3 l4 l5 x0_3 x0_4 f1 f2 f3 = some (r, ox0_3, ox0_4, of1, of2, of3) → ∀ (H : Heap) (locs : List Loc) (ls : Array Slot), va_P (dC, dI) classes (wd_Finds_add kA a0 a1 a2 a3 a4 v0_5 x0_3 x0_4 f1 f2 f3 f4) H → va_D A (wd_Finds_add kA a0 a1 a2 a3 a4 v0_5 x0_3 x0_4 f1 f2 f3 f4) → va_S A s.heap H locs → lv_has ls 6 [(0, .ref a0), (1, .ref a4), (2, .int l2), (3, .int l3), (4, .int l4), (5, .int l5)] → W p l e (headSpec w_Finds_add rm_Finds_add).room s m args below meth c H locs 0 0 (MQ below (va_Qi (fun (r1 : Int32) (_ : Unit) => r1 = r) (fun _ t => va_P (dC, dI) classes (wd_Finds_add kA a0 a1 a2 a3 a4 v0_5 ox0_3 ox0_4 of1 of2 of3 f4) t.heap ∧ va_K (dC, dI) classes (tys_ kA) t ∧ va_D A (wd_Finds_add kA a0 a1 a2 a3 a4 v0_5 ox0_3 ox0_4 of1 of2 of3 f4)) A) args s 0 0 A) (F0 m 26 ls [])) := by
  have hg := fun (w : Cond) (h : w ∈ gw) => hts w (List.mem_cons_of_mem _ h)
  intro n
  induction n with
  | zero =>
    exact fun _ _ _ _ _ _ _ _ _ hF => absurd (show (none : Option _) = some _ from hF) (fun z => by cases z)
  | succ n ih =>
    intro l2 l3 l4 l5 x0_3 x0_4 f1 f2 f3 hF H locs ls hP hD hS hl
    have hF : B_Finds_add_0 (F_Finds_add f4 n) f4 l2 l3 l4 l5 x0_3 x0_4 f1 f2 f3 = some (r, ox0_3, ox0_4, of1, of2, of3) := hF
    unfold B_Finds_add_0 at hF
    refine lv_iload hx hb d_Finds_add_26 (lv_at hl 5 rfl) ?_
    refine lv_iload_n hx hb d_Finds_add_28 rfl (lv_at hl 2 rfl) ?_
    refine lv_icmp_ge (tgt := 57) hx hb d_Finds_add_29 (by decide) (fun c_1 => ?_) (fun c_1 => ?_)
    · rw [if_pos c_1] at hF
      refine lv_aload_n hx hb d_Finds_add_57 rfl (lv_at hl 0 rfl) ?_
      refine va_get (D := (dC, dI)) (ci := 1) (v := .ref a1) (C := R_Finds) (T := F_Finds) (N := 6) hx hb hg iw_Finds hown hK hP 0 rfl rfl 1 (by decide) (hg _ gw_13) (fun _ h9 => h9) rfl d_Finds_add_58 ?_
      refine lv_aload_n hx hb d_Finds_add_61 rfl (lv_at hl 0 rfl) ?_
      refine va_get (D := (dC, dI)) (ci := 1) (v := .int x0_3) (C := R_Finds) (T := F_Finds) (N := 6) hx hb hg iw_Finds hown hK hP 0 rfl rfl 3 (by decide) (hg _ gw_5) (fun _ h9 => h9) rfl d_Finds_add_62 ?_
      refine lv_iload_n hx hb d_Finds_add_65 rfl (lv_at hl 2 rfl) ?_
      obtain ⟨h_2, hF⟩ := rd_chk hF
      refine va_iast hx hb hK hP hD hS 1 0 rfl rfl h_2 d_Finds_add_66 (fun H locs hP hD hS => ?_)
      have hP : va_P (dC, dI) classes (wd_Finds_add kA a0 a1 a2 a3 a4 v0_5 x0_3 x0_4 (upd f1 (Int32.toNatClampNeg x0_3) l2) f2 f3 f4) H := hP
      have hD : va_D A (wd_Finds_add kA a0 a1 a2 a3 a4 v0_5 x0_3 x0_4 (upd f1 (Int32.toNatClampNeg x0_3) l2) f2 f3 f4) := hD
      refine lv_aload_n hx hb d_Finds_add_67 rfl (lv_at hl 0 rfl) ?_
      refine va_get (D := (dC, dI)) (ci := 1) (v := .ref a2) (C := R_Finds) (T := F_Finds) (N := 6) hx hb hg iw_Finds hown hK hP 0 rfl rfl 2 (by decide) (hg _ gw_19) (fun _ h9 => h9) rfl d_Finds_add_68 ?_
      refine lv_aload_n hx hb d_Finds_add_71 rfl (lv_at hl 0 rfl) ?_
      refine va_get (D := (dC, dI)) (ci := 1) (v := .int x0_3) (C := R_Finds) (T := F_Finds) (N := 6) hx hb hg iw_Finds hown hK hP 0 rfl rfl 3 (by decide) (hg _ gw_5) (fun _ h9 => h9) rfl d_Finds_add_72 ?_
      refine lv_iload_n hx hb d_Finds_add_75 rfl (lv_at hl 3 rfl) ?_
      obtain ⟨h_3, hF⟩ := rd_chk hF
      refine va_iast hx hb hK hP hD hS 2 0 rfl rfl h_3 d_Finds_add_76 (fun H locs hP hD hS => ?_)
      have hP : va_P (dC, dI) classes (wd_Finds_add kA a0 a1 a2 a3 a4 v0_5 x0_3 x0_4 (upd f1 (Int32.toNatClampNeg x0_3) l2) (upd f2 (Int32.toNatClampNeg x0_3) l3) f3 f4) H := hP
      have hD : va_D A (wd_Finds_add kA a0 a1 a2 a3 a4 v0_5 x0_3 x0_4 (upd f1 (Int32.toNatClampNeg x0_3) l2) (upd f2 (Int32.toNatClampNeg x0_3) l3) f3 f4) := hD
      refine lv_aload_n hx hb d_Finds_add_77 rfl (lv_at hl 0 rfl) ?_
      refine lv_iload hx hb d_Finds_add_78 (lv_at hl 4 rfl) ?_
      refine va_put (D := (dC, dI)) (ci := 1) (v := .int l4) (ty := .int) (C := R_Finds) (T := F_Finds) (N := 6) hx hb hg iw_Finds t_Finds t_Finds_ok n_Finds hown hK hP hD hS 0 rfl rfl 4 (by decide) (hg _ gw_6) (fun _ h9 => h9) rfl (by decide +kernel) rfl rfl (Nat.le_of_ble_eq_true rfl) d_Finds_add_80 (fun H locs hP hD hS => ?_)
      have hP : va_P (dC, dI) classes (wd_Finds_add kA a0 a1 a2 a3 a4 v0_5 x0_3 l4 (upd f1 (Int32.toNatClampNeg x0_3) l2) (upd f2 (Int32.toNatClampNeg x0_3) l3) f3 f4) H := hP
      have hD : va_D A (wd_Finds_add kA a0 a1 a2 a3 a4 v0_5 x0_3 l4 (upd f1 (Int32.toNatClampNeg x0_3) l2) (upd f2 (Int32.toNatClampNeg x0_3) l3) f3 f4) := hD
      refine lv_aload_n hx hb d_Finds_add_83 rfl (lv_at hl 0 rfl) ?_
      refine lv_dup hx hb d_Finds_add_84 rfl ?_
      refine va_get (D := (dC, dI)) (ci := 1) (v := .int x0_3) (C := R_Finds) (T := F_Finds) (N := 6) hx hb hg iw_Finds hown hK hP 0 rfl rfl 3 (by decide) (hg _ gw_5) (fun _ h9 => h9) rfl d_Finds_add_85 ?_
      refine lv_iconst (v := 1) hx hb d_Finds_add_88 (by decide) ?_
      refine lv_iadd hx hb d_Finds_add_89 ?_
      refine va_put (D := (dC, dI)) (ci := 1) (v := .int (x0_3 + 1)) (ty := .int) (C := R_Finds) (T := F_Finds) (N := 6) hx hb hg iw_Finds t_Finds t_Finds_ok n_Finds hown hK hP hD hS 0 rfl rfl 3 (by decide) (hg _ gw_5) (fun _ h9 => h9) rfl (by decide +kernel) rfl rfl (Nat.le_of_ble_eq_true rfl) d_Finds_add_90 (fun H locs hP hD hS => ?_)
      have hP : va_P (dC, dI) classes (wd_Finds_add kA a0 a1 a2 a3 a4 v0_5 (x0_3 + 1) l4 (upd f1 (Int32.toNatClampNeg x0_3) l2) (upd f2 (Int32.toNatClampNeg x0_3) l3) f3 f4) H := hP
      have hD : va_D A (wd_Finds_add kA a0 a1 a2 a3 a4 v0_5 (x0_3 + 1) l4 (upd f1 (Int32.toNatClampNeg x0_3) l2) (upd f2 (Int32.toNatClampNeg x0_3) l3) f3 f4) := hD
      refine lv_iconst (v := 1) hx hb d_Finds_add_93 (by decide) ?_
      have e0 := Option.some.inj hF
      have q0 := Prod.mk.inj e0
      have q1 := Prod.mk.inj q0.2
      have q2 := Prod.mk.inj q1.2
      have q3 := Prod.mk.inj q2.2
      have q4 := Prod.mk.inj q3.2
      exact W.zret (v := 1) hx hb hr rfl (fun t ht hW => ⟨⟨1, (), rfl, q0.1, by rw [ht, ← q1.1, ← q2.1, ← q3.1, ← q4.1, ← q4.2]; exact hP, va_K.moved hW.alike hK, (by rw [← q1.1, ← q2.1, ← q3.1, ← q4.1, ← q4.2]; exact hD)⟩, hS.F ht⟩) hS.2.2 d_Finds_add_94 hlocks
    · rw [if_neg c_1] at hF
      refine lv_aload_n hx hb d_Finds_add_32 rfl (lv_at hl 0 rfl) ?_
      refine va_get (D := (dC, dI)) (ci := 1) (v := .ref a3) (C := R_Finds) (T := F_Finds) (N := 6) hx hb hg iw_Finds hown hK hP 0 rfl rfl 0 (by decide) (hg _ gw_18) (fun _ h9 => h9) rfl d_Finds_add_33 ?_
      refine lv_aload_n hx hb d_Finds_add_36 rfl (lv_at hl 0 rfl) ?_
      refine va_get (D := (dC, dI)) (ci := 1) (v := .int x0_3) (C := R_Finds) (T := F_Finds) (N := 6) hx hb hg iw_Finds hown hK hP 0 rfl rfl 3 (by decide) (hg _ gw_5) (fun _ h9 => h9) rfl d_Finds_add_37 ?_
      refine lv_bipush (v := 6) hx hb d_Finds_add_40 (by decide) ?_
      refine lv_imul hx hb d_Finds_add_42 ?_
      refine lv_iload hx hb d_Finds_add_43 (lv_at hl 5 rfl) ?_
      refine lv_iadd hx hb d_Finds_add_45 ?_
      refine lv_aload_n hx hb d_Finds_add_46 rfl (lv_at hl 1 rfl) ?_
      refine lv_iload hx hb d_Finds_add_47 (lv_at hl 5 rfl) ?_
      obtain ⟨h_4, hF⟩ := rd_chk hF
      refine va_iald hx hb hK hP 4 0 rfl rfl h_4 d_Finds_add_49 ?_
      obtain ⟨h_5, hF⟩ := rd_chk hF
      refine va_iast hx hb hK hP hD hS 3 0 rfl rfl h_5 d_Finds_add_50 (fun H locs hP hD hS => ?_)
      have hP : va_P (dC, dI) classes (wd_Finds_add kA a0 a1 a2 a3 a4 v0_5 x0_3 x0_4 f1 f2 (upd f3 (Int32.toNatClampNeg ((x0_3 * 6) + l5)) (f4 (Int32.toNatClampNeg l5))) f4) H := hP
      have hD : va_D A (wd_Finds_add kA a0 a1 a2 a3 a4 v0_5 x0_3 x0_4 f1 f2 (upd f3 (Int32.toNatClampNeg ((x0_3 * 6) + l5)) (f4 (Int32.toNatClampNeg l5))) f4) := hD
      refine lv_iinc (v := (l5 + 1)) (lv' := [(5, .int (l5 + 1)), (0, .ref a0), (1, .ref a4), (2, .int l2), (3, .int l3), (4, .int l4)]) hx hb d_Finds_add_51 hl (k := 5) rfl (by rfl) (by decide) rfl (fun ls hl => ?_)
      refine lv_goto (tgt := 26) hx hb d_Finds_add_54 (by decide) ?_
      exact ih l2 l3 l4 (l5 + 1) x0_3 x0_4 f1 f2 (upd f3 (Int32.toNatClampNeg ((x0_3 * 6) + l5)) (f4 (Int32.toNatClampNeg l5))) hF _ _ _ hP hD hS (lv_sub hl [1, 2, 3, 4, 5, 0] rfl)
def S_Finds_add (p2 : Int32) (p3 : Int32) (p4 : Int32) (x0_3 : Int32) (x0_4 : Int32) (f1 : (Nat → Int32)) (f2 : (Nat → Int32)) (f3 : (Nat → Int32)) (f4 : (Nat → Int32)) : Option (Int32 × Int32 × Int32 × (Nat → Int32) × (Nat → Int32) × (Nat → Int32)) := (if 40 ≤ x0_3 then (some (0, x0_3, x0_4, f1, f2, f3)) else (if 6 < p2 then (some (0, x0_3, x0_4, f1, f2, f3)) else (if p2 ≤ 6 then (F_Finds_add f4 fuel_ 0 p2 p3 p4 0 x0_3 x0_4 f1 f2 f3) else (some (0, x0_3, x0_4, f1, f2, f3)))))
set_option maxHeartbeats 4000000 in
set_option maxRecDepth 100000 in
theorem c_Finds_add (l : Launch) (dC : Nat → ClassId) (dI : Nat → Nat → Nat) (kA : Nat → ClassId) (sz : Nat) (a0 a1 a2 a3 a4 : Nat) (v0_5 : Value) (p2 : Int32) (p3 : Int32) (p4 : Int32) (x0_3 : Int32) (x0_4 : Int32) (f1 : (Nat → Int32)) (f2 : (Nat → Int32)) (f3 : (Nat → Int32)) (f4 : (Nat → Int32)) (r : Int32) (ox0_3 : Int32) (ox0_4 : Int32) (of1 : (Nat → Int32)) (of2 : (Nat → Int32)) (of3 : (Nat → Int32)) (hF : S_Finds_add p2 p3 p4 x0_3 x0_4 f1 f2 f3 f4 = some (r, ox0_3, ox0_4, of1, of2, of3)) : Met l y_Finds_add w_Finds_add rm_Finds_add (va_Pc [.ref a0, .ref a4, .int p2, .int p3, .int p4] (fun U => U.heap.size = sz ∧ va_P (dC, dI) classes (wd_Finds_add kA a0 a1 a2 a3 a4 v0_5 x0_3 x0_4 f1 f2 f3 f4) U.heap ∧ va_K (dC, dI) classes (tys_ kA) U ∧ va_D (fun _ => True) (wd_Finds_add kA a0 a1 a2 a3 a4 v0_5 x0_3 x0_4 f1 f2 f3 f4))) (va_Qi (fun (r1 : Int32) (_ : Unit) => r1 = r) (fun _ t => va_P (dC, dI) classes (wd_Finds_add kA a0 a1 a2 a3 a4 v0_5 ox0_3 ox0_4 of1 of2 of3 f4) t.heap ∧ va_K (dC, dI) classes (tys_ kA) t ∧ va_D (va_A (wd_Finds_add kA a0 a1 a2 a3 a4 v0_5 x0_3 x0_4 f1 f2 f3 f4) sz) (wd_Finds_add kA a0 a1 a2 a3 a4 v0_5 ox0_3 ox0_4 of1 of2 of3 f4)) (va_A (wd_Finds_add kA a0 a1 a2 a3 a4 v0_5 x0_3 x0_4 f1 f2 f3 f4) sz)) 0 0 (va_A (wd_Finds_add kA a0 a1 a2 a3 a4 v0_5 x0_3 x0_4 f1 f2 f3 f4) sz) := by
  refine Met.ofW (cc := b_Finds_add) (maxL := 6) (ret := some .boolean) (by decide) rfl ?_
  intro p e s m args below meth c s₁ B hml hv
  obtain ⟨rfl, hsz, hP, hK, hD0⟩ := hv
  have hx := B.exec
  have hb := B.bytes
  have hr := B.returns
  have hts := atoms_spec (ws := w_Finds_add) B.pre
  have hown : s.vm.findClass R_Finds = some m.cls := findClass_of_methodNamed B.named
  have hg := fun (w : Cond) (h : w ∈ gw) => hts w (List.mem_cons_of_mem _ h)
  have hlocks := B.notSynchronized
  subst hsz
  have hD := hD0.self (sz := s.heap.size)
  generalize hAe : va_A (wd_Finds_add kA a0 a1 a2 a3 a4 v0_5 x0_3 x0_4 f1 f2 f3 f4) s.heap.size = A at hD ⊢
  have hA : ∀ q : Nat, s.heap.size ≤ q → A q := fun q h => by rw [← hAe]; exact Or.inr h
  have hS : va_S A s.heap s.heap [] := va_S.rf
  have hl := lv_entry ([.ref a0, .ref a4, .int p2, .int p3, .int p4]) (n := 6) (Nat.le_of_ble_eq_true rfl)
  rw [lg_entry_eq]
  generalize (lg_sl ([.ref a0, .ref a4, .int p2, .int p3, .int p4]) ++ List.replicate (6 - (lg_sl ([.ref a0, .ref a4, .int p2, .int p3, .int p4])).length) Slot.unset).toArray = ls at hl ⊢
  have hl : lv_has ls 6 [(0, .ref a0), (1, .ref a4), (2, .int p2), (3, .int p3), (4, .int p4)] := hl
  unfold S_Finds_add at hF
  have ih := L_Finds_add (l := l) (e := e) (below := below) hx hb hr hlocks hml hown hts hA hK a0 a1 a2 a3 a4 v0_5 f4 r ox0_3 ox0_4 of1 of2 of3 fuel_
  refine lv_aload_n hx hb d_Finds_add_0 rfl (lv_at hl 0 rfl) ?_
  refine va_get (D := (dC, dI)) (ci := 1) (v := .int x0_3) (C := R_Finds) (T := F_Finds) (N := 6) hx hb hg iw_Finds hown hK hP 0 rfl rfl 3 (by decide) (hg _ gw_5) (fun _ h9 => h9) rfl d_Finds_add_1 ?_
  refine lv_bipush (v := 40) hx hb d_Finds_add_4 (by decide) ?_
  refine lv_icmp_ge (tgt := 21) hx hb d_Finds_add_6 (by decide) (fun c_6 => ?_) (fun c_6 => ?_)
  · rw [if_pos c_6] at hF
    refine lv_iconst (v := 0) hx hb d_Finds_add_21 (by decide) ?_
    have e0 := Option.some.inj hF
    have q0 := Prod.mk.inj e0
    have q1 := Prod.mk.inj q0.2
    have q2 := Prod.mk.inj q1.2
    have q3 := Prod.mk.inj q2.2
    have q4 := Prod.mk.inj q3.2
    exact W.zret (v := 0) hx hb hr rfl (fun t ht hW => ⟨⟨0, (), rfl, q0.1, by rw [ht, ← q1.1, ← q2.1, ← q3.1, ← q4.1, ← q4.2]; exact hP, va_K.moved hW.alike hK, (by rw [← q1.1, ← q2.1, ← q3.1, ← q4.1, ← q4.2]; exact hD)⟩, hS.F ht⟩) hS.2.2 d_Finds_add_22 hlocks
  · rw [if_neg c_6] at hF
    refine lv_iload_n hx hb d_Finds_add_9 rfl (lv_at hl 2 rfl) ?_
    refine lv_bipush (v := 6) hx hb d_Finds_add_10 (by decide) ?_
    refine lv_icmp_gt (tgt := 21) hx hb d_Finds_add_12 (by decide) (fun c_7 => ?_) (fun c_7 => ?_)
    · rw [if_pos c_7] at hF
      refine lv_iconst (v := 0) hx hb d_Finds_add_21 (by decide) ?_
      have e0 := Option.some.inj hF
      have q0 := Prod.mk.inj e0
      have q1 := Prod.mk.inj q0.2
      have q2 := Prod.mk.inj q1.2
      have q3 := Prod.mk.inj q2.2
      have q4 := Prod.mk.inj q3.2
      exact W.zret (v := 0) hx hb hr rfl (fun t ht hW => ⟨⟨0, (), rfl, q0.1, by rw [ht, ← q1.1, ← q2.1, ← q3.1, ← q4.1, ← q4.2]; exact hP, va_K.moved hW.alike hK, (by rw [← q1.1, ← q2.1, ← q3.1, ← q4.1, ← q4.2]; exact hD)⟩, hS.F ht⟩) hS.2.2 d_Finds_add_22 hlocks
    · rw [if_neg c_7] at hF
      refine lv_iload_n hx hb d_Finds_add_15 rfl (lv_at hl 2 rfl) ?_
      refine lv_aload_n hx hb d_Finds_add_16 rfl (lv_at hl 1 rfl) ?_
      refine va_alen (v := 6) hx hb hK hP 4 0 rfl rfl rfl d_Finds_add_17 ?_
      refine lv_icmp_le (tgt := 23) hx hb d_Finds_add_18 (by decide) (fun c_8 => ?_) (fun c_8 => ?_)
      · rw [if_pos c_8] at hF
        refine lv_iconst (v := 0) hx hb d_Finds_add_23 (by decide) ?_
        refine lv_istore (lv' := [(5, .int 0), (0, .ref a0), (1, .ref a4), (2, .int p2), (3, .int p3), (4, .int p4)]) hx hb d_Finds_add_24 hl (by decide) rfl (fun ls hl => ?_)
        exact ih p2 p3 p4 0 x0_3 x0_4 f1 f2 f3 hF _ _ _ hP hD hS (lv_sub hl [1, 2, 3, 4, 5, 0] rfl)
      · rw [if_neg c_8] at hF
        refine lv_iconst (v := 0) hx hb d_Finds_add_21 (by decide) ?_
        have e0 := Option.some.inj hF
        have q0 := Prod.mk.inj e0
        have q1 := Prod.mk.inj q0.2
        have q2 := Prod.mk.inj q1.2
        have q3 := Prod.mk.inj q2.2
        have q4 := Prod.mk.inj q3.2
        exact W.zret (v := 0) hx hb hr rfl (fun t ht hW => ⟨⟨0, (), rfl, q0.1, by rw [ht, ← q1.1, ← q2.1, ← q3.1, ← q4.1, ← q4.2]; exact hP, va_K.moved hW.alike hK, (by rw [← q1.1, ← q2.1, ← q3.1, ← q4.1, ← q4.2]; exact hD)⟩, hS.F ht⟩) hS.2.2 d_Finds_add_22 hlocks
