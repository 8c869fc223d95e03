/-! the rows that RepairDesk's own methods need, which may throw -/
def xk_ : List (Int32 × String) := [(1, xI), (2, xS), (3, xU), (4, xN)]
theorem rd_noex {c : Code} (h : c.exceptionTable.isEmpty = true) {pc : Nat} : ∀ z ∈ c.exceptionTable.toList, covers z pc = false := by
  intro z hz
  have h2 : c.exceptionTable = #[] := by simpa using h
  rw [h2] at hz
  simp at hz
theorem rd_thrown {D : va_G} {cl : List vw_C} {tys : List (ClassId × FieldType)} {ws : va_W} {A : Nat → Prop} {H : Heap} {s t : State} {locs : List Loc} (hP : va_P D cl ws H) (hD : va_D A ws) (hK : va_K D cl tys s) (hS : va_S A s.heap H locs)
    (ht : s.vm.Alike t.vm) (hz : H.size ≤ t.heap.size) (hq : ∀ q : Nat, q < H.size → t.heap[q]? = H[q]?) : (va_P D cl ws t.heap ∧ va_K D cl tys t ∧ va_D A ws) ∧ va_F A s t :=
  ⟨⟨hP.kept (fun k x hx => hq x.1 ((hP k x hx).lt)), va_K.moved ht hK, hD⟩, Nat.le_trans hS.1 hz, fun q h1 h2 => (hq q (Nat.lt_of_lt_of_le h1 hS.1)).trans (hS.2.1 q h1 h2)⟩
theorem rd_retx {k r : Int32} {B : State → Prop} {A : Nat → Prop} {a : Array Value} {s t : State} {v : Option Value} (hk : 0 = k) (q : va_Qi (fun (r1 : Int32) (_ : Unit) => r1 = r) (fun _ t => B t) A a s (.returned v) t) : k = 0 ∧ v = some (.int r) ∧ B t ∧ va_F A s t := by
  obtain ⟨⟨r1, u, h1, h2, h3⟩, h4⟩ := q
  cases h1
  exact ⟨hk.symm, by rw [h2], h3, h4⟩
-- ===== RepairDesk.write(C)Z
abbrev wd_Desk_write (kA : Nat → ClassId) (a0 a1 a2 : Nat) (v0_1 v0_2 v0_3 v0_4 v0_5 v0_6 v0_7 : Value) (x1_1 : Int32) (f2 : (Nat → Int32)) : va_W := [(a0, .inr (8, [.ref a1, v0_1, v0_2, v0_3, v0_4, v0_5, v0_6, v0_7])), (a1, .inr (3, [.ref a2, .int x1_1])), (a2, .inl (kA 2, 10, .inl f2))]
abbrev rm_Desk_write : Room := { frames := 1, cells := 0, slots := 0, locals := 21 }
def S_Desk_write (p1 : Int32) (x1_1 : Int32) (f2 : (Nat → Int32)) : Option (Int32 × Int32 × (Nat → Int32)) := ((S_Line_add p1 x1_1 f2).bind fun u_1 => (if u_1.1 = 0 ∨ u_1.1 = 1 then some (u_1.1, u_1.2.1, u_1.2.2) else none))
set_option maxHeartbeats 4000000 in
set_option maxRecDepth 100000 in
theorem c_Desk_write (l : Launch) (dC : Nat → ClassId) (dI : Nat → Nat → Nat) (kA : Nat → ClassId) (sz : Nat) (a0 a1 a2 : Nat) (v0_1 v0_2 v0_3 v0_4 v0_5 v0_6 v0_7 : Value) (p1 : Int32) (x1_1 : Int32) (f2 : (Nat → Int32)) (r : Int32) (ox1_1 : Int32) (of2 : (Nat → Int32)) (hF : S_Desk_write p1 x1_1 f2 = some (r, ox1_1, of2)) : Met l y_Desk_write w_Desk_write rm_Desk_write (va_Pc [.ref a0, .int p1] (fun U => U.heap.size = sz ∧ va_P (dC, dI) classes (wd_Desk_write kA a0 a1 a2 v0_1 v0_2 v0_3 v0_4 v0_5 v0_6 v0_7 x1_1 f2) U.heap ∧ va_K (dC, dI) classes (tys_ kA) U ∧ va_D (fun _ => True) (wd_Desk_write kA a0 a1 a2 v0_1 v0_2 v0_3 v0_4 v0_5 v0_6 v0_7 x1_1 f2))) (va_Qi (fun (r1 : Int32) (_ : Unit) => r1 = r) (fun _ t => va_P (dC, dI) classes (wd_Desk_write kA a0 a1 a2 v0_1 v0_2 v0_3 v0_4 v0_5 v0_6 v0_7 ox1_1 of2) t.heap ∧ va_K (dC, dI) classes (tys_ kA) t ∧ va_D (va_A (wd_Desk_write kA a0 a1 a2 v0_1 v0_2 v0_3 v0_4 v0_5 v0_6 v0_7 x1_1 f2) sz) (wd_Desk_write kA a0 a1 a2 v0_1 v0_2 v0_3 v0_4 v0_5 v0_6 v0_7 ox1_1 of2)) (va_A (wd_Desk_write kA a0 a1 a2 v0_1 v0_2 v0_3 v0_4 v0_5 v0_6 v0_7 x1_1 f2) sz)) 0 0 (va_A (wd_Desk_write kA a0 a1 a2 v0_1 v0_2 v0_3 v0_4 v0_5 v0_6 v0_7 x1_1 f2) sz) := by
  refine Met.ofW (cc := b_Desk_write) (maxL := 2) (ret := some .boolean) (by decide) rfl ?_
  intro p e s m args below meth c s₁ B hml hv
  obtain ⟨rfl, hsz, hP, hK, hD0⟩ := hv
  have hx := B.exec
  have hb := B.bytes
  have hr := B.returns
  have hts := atoms_spec (ws := w_Desk_write) B.pre
  have hown : s.vm.findClass R_Desk = some m.cls := findClass_of_methodNamed B.named
  have hg := fun (w : Cond) (h : w ∈ gw) => hts w (List.mem_cons_of_mem _ h)
  have hlocks := B.notSynchronized
  subst hsz
  have hD := hD0.self (sz := s.heap.size)
  generalize hAe : va_A (wd_Desk_write kA a0 a1 a2 v0_1 v0_2 v0_3 v0_4 v0_5 v0_6 v0_7 x1_1 f2) s.heap.size = A at hD ⊢
  have hA : ∀ q : Nat, s.heap.size ≤ q → A q := fun q h => by rw [← hAe]; exact Or.inr h
  have hS : va_S A s.heap s.heap [] := va_S.rf
  have hl := lv_entry ([.ref a0, .int p1]) (n := 2) (Nat.le_of_ble_eq_true rfl)
  rw [lg_entry_eq]
  generalize (lg_sl ([.ref a0, .int p1]) ++ List.replicate (2 - (lg_sl ([.ref a0, .int p1])).length) Slot.unset).toArray = ls at hl ⊢
  have hl : lv_has ls 2 [(0, .ref a0), (1, .int p1)] := hl
  unfold S_Desk_write at hF
  refine lv_aload_n hx hb d_Desk_write_0 rfl (lv_at hl 0 rfl) ?_
  refine va_get (D := (dC, dI)) (ci := 8) (v := .ref a1) (C := R_Desk) (T := F_Desk) (N := 8) hx hb hg iw_Desk hown hK hP 0 rfl rfl 0 (by decide) (hg _ gw_377) (fun _ h9 => h9) rfl d_Desk_write_1 ?_
  refine lv_iload_n hx hb d_Desk_write_4 rfl (lv_at hl 1 rfl) ?_
  obtain ⟨u_1, hS_1, hF⟩ := rd_bind hF
  have hPc := hP.sub (ws' := (wd_Line_add kA a1 a2 x1_1 f2)) [1, 2] rfl
  have hDc := hD.sub (ws' := (wd_Line_add kA a1 a2 x1_1 f2)) [1, 2] (by decide) rfl
  have hFc := va_free (wc := (wd_Line_add kA a1 a2 x1_1 f2)) hD hS hA [1, 2] rfl
  refine va_calli (va_runV (As := [.int p1]) (rest := []) ⟨hx, hb, hml, hown, hts⟩ (c_Line_add l dC dI kA s.heap.size a1 a2 p1 x1_1 f2 u_1.1 u_1.2.1 u_1.2.2 hS_1) (cwV 1 hts (gw_V gw_479 gw_480 gw_481 gw_28 gw_482) rfl rfl rfl (by decide +kernel) ⟨Nat.le_of_ble_eq_true rfl, Nat.le_of_ble_eq_true rfl⟩) ⟨fun a U g mk q => by obtain ⟨q0, q1, qP, qK, qD⟩ := q; exact ⟨q0, q1, qP, va_K.moved (u := U) (U := U.calling g mk a) (Vm.Alike.refl U.vm) qK, qD⟩, va_recv hK hP (ci := 3) (q0 := 1) rfl rfl, fun U hU hW => ⟨rfl, by rw [hU], by rw [hU]; exact hPc, va_K.moved hW.alike hK, hDc.weaken (fun _ _ _ _ => trivial)⟩⟩ rfl rfl hl.1 rfl (lv_room (Nat.le_of_ble_eq_true rfl)) d_Desk_write_5 ⟨Nat.zero_le _, Nat.zero_le _⟩) hS (fun q _ h => hFc q h) hFc (fun r1 u t H1 locs ht hvm hw hB hz1 hk1 hS => ?_)
  rw [show r1 = _ from hw]
  obtain ⟨hP1, hK1, hD1⟩ := hB
  rw [ht] at hP1
  obtain ⟨hP, hD⟩ := va_join (wr := [(a0, .inr (8, [.ref a1, v0_1, v0_2, v0_3, v0_4, v0_5, v0_6, v0_7]))]) (w1 := (wd_Line_add kA a1 a2 u_1.2.1 u_1.2.2)) hP hD [1, 2] [0] rfl rfl (by decide) (by decide) hk1 hFc hP1 hD1
  have hP := hP.sub (ws' := (wd_Desk_write kA a0 a1 a2 v0_1 v0_2 v0_3 v0_4 v0_5 v0_6 v0_7 u_1.2.1 u_1.2.2)) [0, 1, 2] rfl
  have hD := hD.sub (ws' := (wd_Desk_write kA a0 a1 a2 v0_1 v0_2 v0_3 v0_4 v0_5 v0_6 v0_7 u_1.2.1 u_1.2.2)) [0, 1, 2] (by decide) rfl
  clear hPc hDc hFc hP1 hK1 hD1
  generalize H1 = H at hP hS ⊢
  obtain ⟨b_2, hF⟩ := rd_bool hF
  have e0 := Option.some.inj hF
  have q0 := Prod.mk.inj e0
  have q1 := Prod.mk.inj q0.2
  exact W.zret (v := u_1.1) hx hb hr (rd_nb b_2) (fun t ht hW => ⟨⟨u_1.1, (), rfl, q0.1, by rw [ht, ← q1.1, ← q1.2]; exact hP, va_K.moved hW.alike hK, (by rw [← q1.1, ← q1.2]; exact hD)⟩, hS.F ht⟩) hS.2.2 d_Desk_write_8 hlocks
-- ===== RepairDesk.cost(IZI)Z
abbrev wd_Desk_cost (kA : Nat → ClassId) (a0 a1 a2 a3 : Nat) (v0_0 v0_1 v0_2 v0_3 v0_5 v0_6 v0_7 : Value) (f2 : (Nat → Int32)) (f3 : (Nat → Int32)) : va_W := [(a0, .inr (8, [v0_0, v0_1, v0_2, v0_3, .ref a1, v0_5, v0_6, v0_7])), (a1, .inr (0, [.ref a2, .ref a3])), (a2, .inl (kA 0, 6, .inl f2)), (a3, .inl (kA 0, 6, .inl f3))]
abbrev rm_Desk_cost : Room := { frames := 1, cells := 0, slots := 0, locals := 23 }
def S_Desk_cost (p1 : Int32) (p2 : Int32) (p3 : Int32) (f2 : (Nat → Int32)) (f3 : (Nat → Int32)) : Option (Int32 × (Nat → Int32) × (Nat → Int32)) := ((S_Costs_change p1 p2 p3 f2 f3).bind fun u_1 => (if u_1.1 = 0 ∨ u_1.1 = 1 then some (u_1.1, u_1.2.1, u_1.2.2) else none))
set_option maxHeartbeats 4000000 in
set_option maxRecDepth 100000 in
theorem c_Desk_cost (l : Launch) (dC : Nat → ClassId) (dI : Nat → Nat → Nat) (kA : Nat → ClassId) (sz : Nat) (a0 a1 a2 a3 : Nat) (v0_0 v0_1 v0_2 v0_3 v0_5 v0_6 v0_7 : Value) (p1 : Int32) (p2 : Int32) (p3 : Int32) (f2 : (Nat → Int32)) (f3 : (Nat → Int32)) (r : Int32) (of2 : (Nat → Int32)) (of3 : (Nat → Int32)) (hF : S_Desk_cost p1 p2 p3 f2 f3 = some (r, of2, of3)) : Met l y_Desk_cost w_Desk_cost rm_Desk_cost (va_Pc [.ref a0, .int p1, .int p2, .int p3] (fun U => U.heap.size = sz ∧ va_P (dC, dI) classes (wd_Desk_cost kA a0 a1 a2 a3 v0_0 v0_1 v0_2 v0_3 v0_5 v0_6 v0_7 f2 f3) U.heap ∧ va_K (dC, dI) classes (tys_ kA) U ∧ va_D (fun _ => True) (wd_Desk_cost kA a0 a1 a2 a3 v0_0 v0_1 v0_2 v0_3 v0_5 v0_6 v0_7 f2 f3))) (va_Qi (fun (r1 : Int32) (_ : Unit) => r1 = r) (fun _ t => va_P (dC, dI) classes (wd_Desk_cost kA a0 a1 a2 a3 v0_0 v0_1 v0_2 v0_3 v0_5 v0_6 v0_7 of2 of3) t.heap ∧ va_K (dC, dI) classes (tys_ kA) t ∧ va_D (va_A (wd_Desk_cost kA a0 a1 a2 a3 v0_0 v0_1 v0_2 v0_3 v0_5 v0_6 v0_7 f2 f3) sz) (wd_Desk_cost kA a0 a1 a2 a3 v0_0 v0_1 v0_2 v0_3 v0_5 v0_6 v0_7 of2 of3)) (va_A (wd_Desk_cost kA a0 a1 a2 a3 v0_0 v0_1 v0_2 v0_3 v0_5 v0_6 v0_7 f2 f3) sz)) 0 0 (va_A (wd_Desk_cost kA a0 a1 a2 a3 v0_0 v0_1 v0_2 v0_3 v0_5 v0_6 v0_7 f2 f3) sz) := by
  refine Met.ofW (cc := b_Desk_cost) (maxL := 4) (ret := some .boolean) (by decide) rfl ?_
  intro p e s m args below meth c s₁ B hml hv
  obtain ⟨rfl, hsz, hP, hK, hD0⟩ := hv
  have hx := B.exec
  have hb := B.bytes
  have hr := B.returns
  have hts := atoms_spec (ws := w_Desk_cost) B.pre
  have hown : s.vm.findClass R_Desk = some m.cls := findClass_of_methodNamed B.named
  have hg := fun (w : Cond) (h : w ∈ gw) => hts w (List.mem_cons_of_mem _ h)
  have hlocks := B.notSynchronized
  subst hsz
  have hD := hD0.self (sz := s.heap.size)
  generalize hAe : va_A (wd_Desk_cost kA a0 a1 a2 a3 v0_0 v0_1 v0_2 v0_3 v0_5 v0_6 v0_7 f2 f3) s.heap.size = A at hD ⊢
  have hA : ∀ q : Nat, s.heap.size ≤ q → A q := fun q h => by rw [← hAe]; exact Or.inr h
  have hS : va_S A s.heap s.heap [] := va_S.rf
  have hl := lv_entry ([.ref a0, .int p1, .int p2, .int p3]) (n := 4) (Nat.le_of_ble_eq_true rfl)
  rw [lg_entry_eq]
  generalize (lg_sl ([.ref a0, .int p1, .int p2, .int p3]) ++ List.replicate (4 - (lg_sl ([.ref a0, .int p1, .int p2, .int p3])).length) Slot.unset).toArray = ls at hl ⊢
  have hl : lv_has ls 4 [(0, .ref a0), (1, .int p1), (2, .int p2), (3, .int p3)] := hl
  unfold S_Desk_cost at hF
  refine lv_aload_n hx hb d_Desk_cost_0 rfl (lv_at hl 0 rfl) ?_
  refine va_get (D := (dC, dI)) (ci := 8) (v := .ref a1) (C := R_Desk) (T := F_Desk) (N := 8) hx hb hg iw_Desk hown hK hP 0 rfl rfl 4 (by decide) (hg _ gw_398) (fun _ h9 => h9) rfl d_Desk_cost_1 ?_
  refine lv_iload_n hx hb d_Desk_cost_4 rfl (lv_at hl 1 rfl) ?_
  refine lv_iload_n hx hb d_Desk_cost_5 rfl (lv_at hl 2 rfl) ?_
  refine lv_iload_n hx hb d_Desk_cost_6 rfl (lv_at hl 3 rfl) ?_
  obtain ⟨u_1, hS_1, hF⟩ := rd_bind hF
  have hPc := hP.sub (ws' := (wd_Costs_change kA a1 a2 a3 f2 f3)) [1, 2, 3] rfl
  have hDc := hD.sub (ws' := (wd_Costs_change kA a1 a2 a3 f2 f3)) [1, 2, 3] (by decide) rfl
  have hFc := va_free (wc := (wd_Costs_change kA a1 a2 a3 f2 f3)) hD hS hA [1, 2, 3] rfl
  refine va_calli (va_runV (As := [.int p1, .int p2, .int p3]) (rest := []) ⟨hx, hb, hml, hown, hts⟩ (c_Costs_change l dC dI kA s.heap.size a1 a2 a3 p1 p2 p3 f2 f3 u_1.1 u_1.2.1 u_1.2.2 hS_1) (cwV 3 hts (gw_V gw_487 gw_488 gw_489 gw_165 gw_490) rfl rfl rfl (by decide +kernel) ⟨Nat.le_of_ble_eq_true rfl, Nat.le_of_ble_eq_true rfl⟩) ⟨fun a U g mk q => by obtain ⟨q0, q1, qP, qK, qD⟩ := q; exact ⟨q0, q1, qP, va_K.moved (u := U) (U := U.calling g mk a) (Vm.Alike.refl U.vm) qK, qD⟩, va_recv hK hP (ci := 0) (q0 := 1) rfl rfl, fun U hU hW => ⟨rfl, by rw [hU], by rw [hU]; exact hPc, va_K.moved hW.alike hK, hDc.weaken (fun _ _ _ _ => trivial)⟩⟩ rfl rfl hl.1 rfl (lv_room (Nat.le_of_ble_eq_true rfl)) d_Desk_cost_7 ⟨Nat.zero_le _, Nat.zero_le _⟩) hS (fun q _ h => hFc q h) hFc (fun r1 u t H1 locs ht hvm hw hB hz1 hk1 hS => ?_)
  rw [show r1 = _ from hw]
  obtain ⟨hP1, hK1, hD1⟩ := hB
  rw [ht] at hP1
  obtain ⟨hP, hD⟩ := va_join (wr := [(a0, .inr (8, [v0_0, v0_1, v0_2, v0_3, .ref a1, v0_5, v0_6, v0_7]))]) (w1 := (wd_Costs_change kA a1 a2 a3 u_1.2.1 u_1.2.2)) hP hD [1, 2, 3] [0] rfl rfl (by decide) (by decide) hk1 hFc hP1 hD1
  have hP := hP.sub (ws' := (wd_Desk_cost kA a0 a1 a2 a3 v0_0 v0_1 v0_2 v0_3 v0_5 v0_6 v0_7 u_1.2.1 u_1.2.2)) [0, 1, 2, 3] rfl
  have hD := hD.sub (ws' := (wd_Desk_cost kA a0 a1 a2 a3 v0_0 v0_1 v0_2 v0_3 v0_5 v0_6 v0_7 u_1.2.1 u_1.2.2)) [0, 1, 2, 3] (by decide) rfl
  clear hPc hDc hFc hP1 hK1 hD1
  generalize H1 = H at hP hS ⊢
  obtain ⟨b_2, hF⟩ := rd_bool hF
  have e0 := Option.some.inj hF
  have q0 := Prod.mk.inj e0
  have q1 := Prod.mk.inj q0.2
  exact W.zret (v := u_1.1) hx hb hr (rd_nb b_2) (fun t ht hW => ⟨⟨u_1.1, (), rfl, q0.1, by rw [ht, ← q1.1, ← q1.2]; exact hP, va_K.moved hW.alike hK, (by rw [← q1.1, ← q1.2]; exact hD)⟩, hS.F ht⟩) hS.2.2 d_Desk_cost_10 hlocks
-- ===== RepairDesk.step(II)I
abbrev wd_Desk_step (kA : Nat → ClassId) (a0 a1 a2 a3 : Nat) (v0_0 v0_1 v0_2 v0_3 v0_4 v0_5 v0_7 v1_2 v1_4 v1_5 : Value) (x1_3 : Int32) (f2 : (Nat → Int32)) (f3 : (Nat → Int32)) : va_W := [(a0, .inr (8, [v0_0, v0_1, v0_2, v0_3, v0_4, v0_5, .ref a1, v0_7])), (a1, .inr (1, [.ref a3, .ref a2, v1_2, .int x1_3, v1_4, v1_5])), (a2, .inl (kA 0, 40, .inl f2)), (a3, .inl (kA 0, 240, .inl f3))]
abbrev rm_Desk_step : Room := { frames := 3, cells := 0, slots := 0, locals := 64 }
def S_Desk_step (p1 : Int32) (p2 : Int32) (x1_3 : Int32) (f2 : (Nat → Int32)) (f3 : (Nat → Int32)) : Option (Int32) := ((S_Finds_stepAt p1 p2 x1_3 f2 f3).bind fun u_1 => (some u_1))
set_option maxHeartbeats 4000000 in
set_option maxRecDepth 100000 in
theorem c_Desk_step (l : Launch) (dC : Nat → ClassId) (dI : Nat → Nat → Nat) (kA : Nat → ClassId) (sz : Nat) (a0 a1 a2 a3 : Nat) (v0_0 v0_1 v0_2 v0_3 v0_4 v0_5 v0_7 v1_2 v1_4 v1_5 : Value) (p1 : Int32) (p2 : Int32) (x1_3 : Int32) (f2 : (Nat → Int32)) (f3 : (Nat → Int32)) (r : Int32) (hF : S_Desk_step p1 p2 x1_3 f2 f3 = some r) : Met l y_Desk_step w_Desk_step rm_Desk_step (va_Pc [.ref a0, .int p1, .int p2] (fun U => U.heap.size = sz ∧ va_P (dC, dI) classes (wd_Desk_step kA a0 a1 a2 a3 v0_0 v0_1 v0_2 v0_3 v0_4 v0_5 v0_7 v1_2 v1_4 v1_5 x1_3 f2 f3) U.heap ∧ va_K (dC, dI) classes (tys_ kA) U ∧ va_D (fun _ => True) (wd_Desk_step kA a0 a1 a2 a3 v0_0 v0_1 v0_2 v0_3 v0_4 v0_5 v0_7 v1_2 v1_4 v1_5 x1_3 f2 f3))) (va_Qi (fun (r1 : Int32) (_ : Unit) => r1 = r) (fun _ t => va_P (dC, dI) classes (wd_Desk_step kA a0 a1 a2 a3 v0_0 v0_1 v0_2 v0_3 v0_4 v0_5 v0_7 v1_2 v1_4 v1_5 x1_3 f2 f3) t.heap ∧ va_K (dC, dI) classes (tys_ kA) t ∧ va_D (va_A (wd_Desk_step kA a0 a1 a2 a3 v0_0 v0_1 v0_2 v0_3 v0_4 v0_5 v0_7 v1_2 v1_4 v1_5 x1_3 f2 f3) sz) (wd_Desk_step kA a0 a1 a2 a3 v0_0 v0_1 v0_2 v0_3 v0_4 v0_5 v0_7 v1_2 v1_4 v1_5 x1_3 f2 f3)) (va_A (wd_Desk_step kA a0 a1 a2 a3 v0_0 v0_1 v0_2 v0_3 v0_4 v0_5 v0_7 v1_2 v1_4 v1_5 x1_3 f2 f3) sz)) 0 0 (va_A (wd_Desk_step kA a0 a1 a2 a3 v0_0 v0_1 v0_2 v0_3 v0_4 v0_5 v0_7 v1_2 v1_4 v1_5 x1_3 f2 f3) sz) := by
  refine Met.ofW (cc := b_Desk_step) (maxL := 3) (ret := some .int) (by decide) rfl ?_
  intro p e s m args below meth c s₁ B hml hv
  obtain ⟨rfl, hsz, hP, hK, hD0⟩ := hv
  have hx := B.exec
  have hb := B.bytes
  have hr := B.returns
  have hts := atoms_spec (ws := w_Desk_step) B.pre
  have hown : s.vm.findClass R_Desk = some m.cls := findClass_of_methodNamed B.named
  have hg := fun (w : Cond) (h : w ∈ gw) => hts w (List.mem_cons_of_mem _ h)
  have hlocks := B.notSynchronized
  subst hsz
  have hD := hD0.self (sz := s.heap.size)
  generalize hAe : va_A (wd_Desk_step kA a0 a1 a2 a3 v0_0 v0_1 v0_2 v0_3 v0_4 v0_5 v0_7 v1_2 v1_4 v1_5 x1_3 f2 f3) s.heap.size = A at hD ⊢
  have hA : ∀ q : Nat, s.heap.size ≤ q → A q := fun q h => by rw [← hAe]; exact Or.inr h
  have hS : va_S A s.heap s.heap [] := va_S.rf
  have hl := lv_entry ([.ref a0, .int p1, .int p2]) (n := 3) (Nat.le_of_ble_eq_true rfl)
  rw [lg_entry_eq]
  generalize (lg_sl ([.ref a0, .int p1, .int p2]) ++ List.replicate (3 - (lg_sl ([.ref a0, .int p1, .int p2])).length) Slot.unset).toArray = ls at hl ⊢
  have hl : lv_has ls 3 [(0, .ref a0), (1, .int p1), (2, .int p2)] := hl
  unfold S_Desk_step at hF
  refine lv_aload_n hx hb d_Desk_step_0 rfl (lv_at hl 0 rfl) ?_
  refine va_get (D := (dC, dI)) (ci := 8) (v := .ref a1) (C := R_Desk) (T := F_Desk) (N := 8) hx hb hg iw_Desk hown hK hP 0 rfl rfl 6 (by decide) (hg _ gw_409) (fun _ h9 => h9) rfl d_Desk_step_1 ?_
  refine lv_iload_n hx hb d_Desk_step_4 rfl (lv_at hl 1 rfl) ?_
  refine lv_iload_n hx hb d_Desk_step_5 rfl (lv_at hl 2 rfl) ?_
  obtain ⟨u_1, hS_1, hF⟩ := rd_bind hF
  have hPc := hP.sub (ws' := (wd_Finds_stepAt kA a1 a2 a3 v1_2 v1_4 v1_5 x1_3 f2 f3)) [1, 2, 3] rfl
  have hDc := hD.sub (ws' := (wd_Finds_stepAt kA a1 a2 a3 v1_2 v1_4 v1_5 x1_3 f2 f3)) [1, 2, 3] (by decide) rfl
  have hFc := va_free (wc := (wd_Finds_stepAt kA a1 a2 a3 v1_2 v1_4 v1_5 x1_3 f2 f3)) hD hS hA [1, 2, 3] rfl
  refine va_calli (va_runV (As := [.int p1, .int p2]) (rest := []) ⟨hx, hb, hml, hown, hts⟩ (c_Finds_stepAt l dC dI kA s.heap.size a1 a2 a3 v1_2 v1_4 v1_5 p1 p2 x1_3 f2 f3 u_1 hS_1) (cwV 2 hts (gw_V gw_495 gw_252 gw_253 gw_11 gw_254) rfl rfl rfl (by decide +kernel) ⟨Nat.le_of_ble_eq_true rfl, Nat.le_of_ble_eq_true rfl⟩) ⟨fun a U g mk q => by obtain ⟨q0, q1, qP, qK, qD⟩ := q; exact ⟨q0, q1, qP, va_K.moved (u := U) (U := U.calling g mk a) (Vm.Alike.refl U.vm) qK, qD⟩, va_recv hK hP (ci := 1) (q0 := 1) rfl rfl, fun U hU hW => ⟨rfl, by rw [hU], by rw [hU]; exact hPc, va_K.moved hW.alike hK, hDc.weaken (fun _ _ _ _ => trivial)⟩⟩ rfl rfl hl.1 rfl (lv_room (Nat.le_of_ble_eq_true rfl)) d_Desk_step_6 ⟨Nat.zero_le _, Nat.zero_le _⟩) hS (fun q _ h => hFc q h) hFc (fun r1 u t H1 locs ht hvm hw hB hz1 hk1 hS => ?_)
  rw [show r1 = _ from hw]
  obtain ⟨hP1, hK1, hD1⟩ := hB
  rw [ht] at hP1
  obtain ⟨hP, hD⟩ := va_join (wr := [(a0, .inr (8, [v0_0, v0_1, v0_2, v0_3, v0_4, v0_5, .ref a1, v0_7]))]) (w1 := (wd_Finds_stepAt kA a1 a2 a3 v1_2 v1_4 v1_5 x1_3 f2 f3)) hP hD [1, 2, 3] [0] rfl rfl (by decide) (by decide) hk1 hFc hP1 hD1
  have hP := hP.sub (ws' := (wd_Desk_step kA a0 a1 a2 a3 v0_0 v0_1 v0_2 v0_3 v0_4 v0_5 v0_7 v1_2 v1_4 v1_5 x1_3 f2 f3)) [0, 1, 2, 3] rfl
  have hD := hD.sub (ws' := (wd_Desk_step kA a0 a1 a2 a3 v0_0 v0_1 v0_2 v0_3 v0_4 v0_5 v0_7 v1_2 v1_4 v1_5 x1_3 f2 f3)) [0, 1, 2, 3] (by decide) rfl
  clear hPc hDc hFc hP1 hK1 hD1
  generalize H1 = H at hP hS ⊢
  have e0 := Option.some.inj hF
  exact W.iret (v := u_1) hx hb hr (fun t ht hW => ⟨⟨u_1, (), rfl, e0, by rw [ht]; exact hP, va_K.moved hW.alike hK, (by exact hD)⟩, hS.F ht⟩) hS.2.2 d_Desk_step_9 hlocks
-- ===== RepairDesk.price()I
abbrev wd_Desk_price (kA : Nat → ClassId) (a0 a1 : Nat) (v0_0 v0_1 v0_2 v0_3 v0_4 v0_5 v0_7 v1_0 v1_1 v1_2 v1_3 v1_5 : Value) (x1_4 : Int32) : va_W := [(a0, .inr (8, [v0_0, v0_1, v0_2, v0_3, v0_4, v0_5, .ref a1, v0_7])), (a1, .inr (1, [v1_0, v1_1, v1_2, v1_3, .int x1_4, v1_5]))]
abbrev rm_Desk_price : Room := { frames := 1, cells := 0, slots := 0, locals := 20 }
def S_Desk_price (x1_4 : Int32) : Option (Int32) := ((S_Finds_priceOfAll x1_4).bind fun u_1 => (some u_1))
set_option maxHeartbeats 4000000 in
set_option maxRecDepth 100000 in
theorem c_Desk_price (l : Launch) (dC : Nat → ClassId) (dI : Nat → Nat → Nat) (kA : Nat → ClassId) (sz : Nat) (a0 a1 : Nat) (v0_0 v0_1 v0_2 v0_3 v0_4 v0_5 v0_7 v1_0 v1_1 v1_2 v1_3 v1_5 : Value) (x1_4 : Int32) (r : Int32) (hF : S_Desk_price x1_4 = some r) : Met l y_Desk_price w_Desk_price rm_Desk_price (va_Pc [.ref a0] (fun U => U.heap.size = sz ∧ va_P (dC, dI) classes (wd_Desk_price kA a0 a1 v0_0 v0_1 v0_2 v0_3 v0_4 v0_5 v0_7 v1_0 v1_1 v1_2 v1_3 v1_5 x1_4) U.heap ∧ va_K (dC, dI) classes (tys_ kA) U ∧ va_D (fun _ => True) (wd_Desk_price kA a0 a1 v0_0 v0_1 v0_2 v0_3 v0_4 v0_5 v0_7 v1_0 v1_1 v1_2 v1_3 v1_5 x1_4))) (va_Qi (fun (r1 : Int32) (_ : Unit) => r1 = r) (fun _ t => va_P (dC, dI) classes (wd_Desk_price kA a0 a1 v0_0 v0_1 v0_2 v0_3 v0_4 v0_5 v0_7 v1_0 v1_1 v1_2 v1_3 v1_5 x1_4) t.heap ∧ va_K (dC, dI) classes (tys_ kA) t ∧ va_D (va_A (wd_Desk_price kA a0 a1 v0_0 v0_1 v0_2 v0_3 v0_4 v0_5 v0_7 v1_0 v1_1 v1_2 v1_3 v1_5 x1_4) sz) (wd_Desk_price kA a0 a1 v0_0 v0_1 v0_2 v0_3 v0_4 v0_5 v0_7 v1_0 v1_1 v1_2 v1_3 v1_5 x1_4)) (va_A (wd_Desk_price kA a0 a1 v0_0 v0_1 v0_2 v0_3 v0_4 v0_5 v0_7 v1_0 v1_1 v1_2 v1_3 v1_5 x1_4) sz)) 0 0 (va_A (wd_Desk_price kA a0 a1 v0_0 v0_1 v0_2 v0_3 v0_4 v0_5 v0_7 v1_0 v1_1 v1_2 v1_3 v1_5 x1_4) sz) := by
  refine Met.ofW (cc := b_Desk_price) (maxL := 1) (ret := some .int) (by decide) rfl ?_
  intro p e s m args below meth c s₁ B hml hv
  obtain ⟨rfl, hsz, hP, hK, hD0⟩ := hv
  have hx := B.exec
  have hb := B.bytes
  have hr := B.returns
  have hts := atoms_spec (ws := w_Desk_price) B.pre
  have hown : s.vm.findClass R_Desk = some m.cls := findClass_of_methodNamed B.named
  have hg := fun (w : Cond) (h : w ∈ gw) => hts w (List.mem_cons_of_mem _ h)
  have hlocks := B.notSynchronized
  subst hsz
  have hD := hD0.self (sz := s.heap.size)
  generalize hAe : va_A (wd_Desk_price kA a0 a1 v0_0 v0_1 v0_2 v0_3 v0_4 v0_5 v0_7 v1_0 v1_1 v1_2 v1_3 v1_5 x1_4) s.heap.size = A at hD ⊢
  have hA : ∀ q : Nat, s.heap.size ≤ q → A q := fun q h => by rw [← hAe]; exact Or.inr h
  have hS : va_S A s.heap s.heap [] := va_S.rf
  have hl := lv_entry ([.ref a0]) (n := 1) (Nat.le_of_ble_eq_true rfl)
  rw [lg_entry_eq]
  generalize (lg_sl ([.ref a0]) ++ List.replicate (1 - (lg_sl ([.ref a0])).length) Slot.unset).toArray = ls at hl ⊢
  have hl : lv_has ls 1 [(0, .ref a0)] := hl
  unfold S_Desk_price at hF
  refine lv_aload_n hx hb d_Desk_price_0 rfl (lv_at hl 0 rfl) ?_
  refine va_get (D := (dC, dI)) (ci := 8) (v := .ref a1) (C := R_Desk) (T := F_Desk) (N := 8) hx hb hg iw_Desk hown hK hP 0 rfl rfl 6 (by decide) (hg _ gw_409) (fun _ h9 => h9) rfl d_Desk_price_1 ?_
  obtain ⟨u_1, hS_1, hF⟩ := rd_bind hF
  have hPc := hP.sub (ws' := (wd_Finds_priceOfAll kA a1 v1_0 v1_1 v1_2 v1_3 v1_5 x1_4)) [1] rfl
  have hDc := hD.sub (ws' := (wd_Finds_priceOfAll kA a1 v1_0 v1_1 v1_2 v1_3 v1_5 x1_4)) [1] (by decide) rfl
  have hFc := va_free (wc := (wd_Finds_priceOfAll kA a1 v1_0 v1_1 v1_2 v1_3 v1_5 x1_4)) hD hS hA [1] rfl
  refine va_calli (va_runV (As := []) (rest := []) ⟨hx, hb, hml, hown, hts⟩ (c_Finds_priceOfAll l dC dI kA s.heap.size a1 v1_0 v1_1 v1_2 v1_3 v1_5 x1_4 u_1 hS_1) (cwV 0 hts (gw_V gw_500 gw_501 gw_502 gw_11 gw_503) rfl rfl rfl (by decide +kernel) ⟨Nat.le_of_ble_eq_true rfl, Nat.le_of_ble_eq_true rfl⟩) ⟨fun a U g mk q => by obtain ⟨q0, q1, qP, qK, qD⟩ := q; exact ⟨q0, q1, qP, va_K.moved (u := U) (U := U.calling g mk a) (Vm.Alike.refl U.vm) qK, qD⟩, va_recv hK hP (ci := 1) (q0 := 1) rfl rfl, fun U hU hW => ⟨rfl, by rw [hU], by rw [hU]; exact hPc, va_K.moved hW.alike hK, hDc.weaken (fun _ _ _ _ => trivial)⟩⟩ rfl rfl hl.1 rfl (lv_room (Nat.le_of_ble_eq_true rfl)) d_Desk_price_4 ⟨Nat.zero_le _, Nat.zero_le _⟩) hS (fun q _ h => hFc q h) hFc (fun r1 u t H1 locs ht hvm hw hB hz1 hk1 hS => ?_)
  rw [show r1 = _ from hw]
  obtain ⟨hP1, hK1, hD1⟩ := hB
  rw [ht] at hP1
  obtain ⟨hP, hD⟩ := va_join (wr := [(a0, .inr (8, [v0_0, v0_1, v0_2, v0_3, v0_4, v0_5, .ref a1, v0_7]))]) (w1 := (wd_Finds_priceOfAll kA a1 v1_0 v1_1 v1_2 v1_3 v1_5 x1_4)) hP hD [1] [0] rfl rfl (by decide) (by decide) hk1 hFc hP1 hD1
  have hP := hP.sub (ws' := (wd_Desk_price kA a0 a1 v0_0 v0_1 v0_2 v0_3 v0_4 v0_5 v0_7 v1_0 v1_1 v1_2 v1_3 v1_5 x1_4)) [0, 1] rfl
  have hD := hD.sub (ws' := (wd_Desk_price kA a0 a1 v0_0 v0_1 v0_2 v0_3 v0_4 v0_5 v0_7 v1_0 v1_1 v1_2 v1_3 v1_5 x1_4)) [0, 1] (by decide) rfl
  clear hPc hDc hFc hP1 hK1 hD1
  generalize H1 = H at hP hS ⊢
  have e0 := Option.some.inj hF
  exact W.iret (v := u_1) hx hb hr (fun t ht hW => ⟨⟨u_1, (), rfl, e0, by rw [ht]; exact hP, va_K.moved hW.alike hK, (by exact hD)⟩, hS.F ht⟩) hS.2.2 d_Desk_price_7 hlocks
-- ===== RepairDesk.letter(I)I
abbrev wd_Desk_letter (kA : Nat → ClassId) (a0 a1 a2 : Nat) (v0_0 v0_1 v0_2 v0_4 v0_5 v0_6 v0_7 v1_1 : Value) (x1_2 : Int32) (f2 : (Nat → Int32)) : va_W := [(a0, .inr (8, [v0_0, v0_1, v0_2, .ref a1, v0_4, v0_5, v0_6, v0_7])), (a1, .inr (7, [.ref a2, v1_1, .int x1_2])), (a2, .inl (kA 0, 16, .inl f2))]
abbrev rm_Desk_letter : Room := { frames := 1, cells := 0, slots := 0, locals := 21 }
def S_Desk_letter (p1 : Int32) (x1_2 : Int32) (f2 : (Nat → Int32)) : Option (Int32) := ((S_Text_letterAt p1 x1_2 f2).bind fun u_1 => (some u_1))
set_option maxHeartbeats 4000000 in
set_option maxRecDepth 100000 in
theorem c_Desk_letter (l : Launch) (dC : Nat → ClassId) (dI : Nat → Nat → Nat) (kA : Nat → ClassId) (sz : Nat) (a0 a1 a2 : Nat) (v0_0 v0_1 v0_2 v0_4 v0_5 v0_6 v0_7 v1_1 : Value) (p1 : Int32) (x1_2 : Int32) (f2 : (Nat → Int32)) (r : Int32) (hF : S_Desk_letter p1 x1_2 f2 = some r) : Met l y_Desk_letter w_Desk_letter rm_Desk_letter (va_Pc [.ref a0, .int p1] (fun U => U.heap.size = sz ∧ va_P (dC, dI) classes (wd_Desk_letter kA a0 a1 a2 v0_0 v0_1 v0_2 v0_4 v0_5 v0_6 v0_7 v1_1 x1_2 f2) U.heap ∧ va_K (dC, dI) classes (tys_ kA) U ∧ va_D (fun _ => True) (wd_Desk_letter kA a0 a1 a2 v0_0 v0_1 v0_2 v0_4 v0_5 v0_6 v0_7 v1_1 x1_2 f2))) (va_Qi (fun (r1 : Int32) (_ : Unit) => r1 = r) (fun _ t => va_P (dC, dI) classes (wd_Desk_letter kA a0 a1 a2 v0_0 v0_1 v0_2 v0_4 v0_5 v0_6 v0_7 v1_1 x1_2 f2) t.heap ∧ va_K (dC, dI) classes (tys_ kA) t ∧ va_D (va_A (wd_Desk_letter kA a0 a1 a2 v0_0 v0_1 v0_2 v0_4 v0_5 v0_6 v0_7 v1_1 x1_2 f2) sz) (wd_Desk_letter kA a0 a1 a2 v0_0 v0_1 v0_2 v0_4 v0_5 v0_6 v0_7 v1_1 x1_2 f2)) (va_A (wd_Desk_letter kA a0 a1 a2 v0_0 v0_1 v0_2 v0_4 v0_5 v0_6 v0_7 v1_1 x1_2 f2) sz)) 0 0 (va_A (wd_Desk_letter kA a0 a1 a2 v0_0 v0_1 v0_2 v0_4 v0_5 v0_6 v0_7 v1_1 x1_2 f2) sz) := by
  refine Met.ofW (cc := b_Desk_letter) (maxL := 2) (ret := some .int) (by decide) rfl ?_
  intro p e s m args below meth c s₁ B hml hv
  obtain ⟨rfl, hsz, hP, hK, hD0⟩ := hv
  have hx := B.exec
  have hb := B.bytes
  have hr := B.returns
  have hts := atoms_spec (ws := w_Desk_letter) B.pre
  have hown : s.vm.findClass R_Desk = some m.cls := findClass_of_methodNamed B.named
  have hg := fun (w : Cond) (h : w ∈ gw) => hts w (List.mem_cons_of_mem _ h)
  have hlocks := B.notSynchronized
  subst hsz
  have hD := hD0.self (sz := s.heap.size)
  generalize hAe : va_A (wd_Desk_letter kA a0 a1 a2 v0_0 v0_1 v0_2 v0_4 v0_5 v0_6 v0_7 v1_1 x1_2 f2) s.heap.size = A at hD ⊢
  have hA : ∀ q : Nat, s.heap.size ≤ q → A q := fun q h => by rw [← hAe]; exact Or.inr h
  have hS : va_S A s.heap s.heap [] := va_S.rf
  have hl := lv_entry ([.ref a0, .int p1]) (n := 2) (Nat.le_of_ble_eq_true rfl)
  rw [lg_entry_eq]
  generalize (lg_sl ([.ref a0, .int p1]) ++ List.replicate (2 - (lg_sl ([.ref a0, .int p1])).length) Slot.unset).toArray = ls at hl ⊢
  have hl : lv_has ls 2 [(0, .ref a0), (1, .int p1)] := hl
  unfold S_Desk_letter at hF
  refine lv_aload_n hx hb d_Desk_letter_0 rfl (lv_at hl 0 rfl) ?_
  refine va_get (D := (dC, dI)) (ci := 8) (v := .ref a1) (C := R_Desk) (T := F_Desk) (N := 8) hx hb hg iw_Desk hown hK hP 0 rfl rfl 3 (by decide) (hg _ gw_392) (fun _ h9 => h9) rfl d_Desk_letter_1 ?_
  refine lv_iload_n hx hb d_Desk_letter_4 rfl (lv_at hl 1 rfl) ?_
  obtain ⟨u_1, hS_1, hF⟩ := rd_bind hF
  have hPc := hP.sub (ws' := (wd_Text_letterAt kA a1 a2 v1_1 x1_2 f2)) [1, 2] rfl
  have hDc := hD.sub (ws' := (wd_Text_letterAt kA a1 a2 v1_1 x1_2 f2)) [1, 2] (by decide) rfl
  have hFc := va_free (wc := (wd_Text_letterAt kA a1 a2 v1_1 x1_2 f2)) hD hS hA [1, 2] rfl
  refine va_calli (va_runV (As := [.int p1]) (rest := []) ⟨hx, hb, hml, hown, hts⟩ (c_Text_letterAt l dC dI kA s.heap.size a1 a2 v1_1 p1 x1_2 f2 u_1 hS_1) (cwV 1 hts (gw_V gw_508 gw_130 gw_131 gw_123 gw_132) rfl rfl rfl (by decide +kernel) ⟨Nat.le_of_ble_eq_true rfl, Nat.le_of_ble_eq_true rfl⟩) ⟨fun a U g mk q => by obtain ⟨q0, q1, qP, qK, qD⟩ := q; exact ⟨q0, q1, qP, va_K.moved (u := U) (U := U.calling g mk a) (Vm.Alike.refl U.vm) qK, qD⟩, va_recv hK hP (ci := 7) (q0 := 1) rfl rfl, fun U hU hW => ⟨rfl, by rw [hU], by rw [hU]; exact hPc, va_K.moved hW.alike hK, hDc.weaken (fun _ _ _ _ => trivial)⟩⟩ rfl rfl hl.1 rfl (lv_room (Nat.le_of_ble_eq_true rfl)) d_Desk_letter_5 ⟨Nat.zero_le _, Nat.zero_le _⟩) hS (fun q _ h => hFc q h) hFc (fun r1 u t H1 locs ht hvm hw hB hz1 hk1 hS => ?_)
  rw [show r1 = _ from hw]
  obtain ⟨hP1, hK1, hD1⟩ := hB
  rw [ht] at hP1
  obtain ⟨hP, hD⟩ := va_join (wr := [(a0, .inr (8, [v0_0, v0_1, v0_2, .ref a1, v0_4, v0_5, v0_6, v0_7]))]) (w1 := (wd_Text_letterAt kA a1 a2 v1_1 x1_2 f2)) hP hD [1, 2] [0] rfl rfl (by decide) (by decide) hk1 hFc hP1 hD1
  have hP := hP.sub (ws' := (wd_Desk_letter kA a0 a1 a2 v0_0 v0_1 v0_2 v0_4 v0_5 v0_6 v0_7 v1_1 x1_2 f2)) [0, 1, 2] rfl
  have hD := hD.sub (ws' := (wd_Desk_letter kA a0 a1 a2 v0_0 v0_1 v0_2 v0_4 v0_5 v0_6 v0_7 v1_1 x1_2 f2)) [0, 1, 2] (by decide) rfl
  clear hPc hDc hFc hP1 hK1 hD1
  generalize H1 = H at hP hS ⊢
  have e0 := Option.some.inj hF
  exact W.iret (v := u_1) hx hb hr (fun t ht hW => ⟨⟨u_1, (), rfl, e0, by rw [ht]; exact hP, va_K.moved hW.alike hK, (by exact hD)⟩, hS.F ht⟩) hS.2.2 d_Desk_letter_8 hlocks
-- ===== RepairDesk.count(I)I
abbrev wd_Desk_count (kA : Nat → ClassId) (a0 a1 a2 : Nat) (v0_0 v0_3 v0_4 v0_5 v0_6 v0_7 v1_0 v1_1 v1_2 v1_3 v1_4 v1_5 v2_0 v2_1 v2_2 : Value) (x1_6 : Int32) (x2_3 : Int32) (x2_4 : Int32) : va_W := [(a0, .inr (8, [v0_0, .ref a1, .ref a2, v0_3, v0_4, v0_5, v0_6, v0_7])), (a1, .inr (2, [v1_0, v1_1, v1_2, v1_3, v1_4, v1_5, .int x1_6])), (a2, .inr (6, [v2_0, v2_1, v2_2, .int x2_3, .int x2_4]))]
abbrev rm_Desk_count : Room := { frames := 1, cells := 0, slots := 0, locals := 20 }
def S_Desk_count (p1 : Int32) (x1_6 : Int32) (x2_3 : Int32) (x2_4 : Int32) : Option (Int32) := (if p1 = 0 then ((S_Grammar_ruleCount x1_6).bind fun u_2 => (some u_2)) else (if p1 = 1 then ((S_States_stateCount x2_3).bind fun u_4 => (some u_4)) else (if p1 = 2 then ((S_States_itemCount x2_4).bind fun u_6 => (some u_6)) else (some (-1)))))
set_option maxHeartbeats 4000000 in
set_option maxRecDepth 100000 in
theorem c_Desk_count (l : Launch) (dC : Nat → ClassId) (dI : Nat → Nat → Nat) (kA : Nat → ClassId) (sz : Nat) (a0 a1 a2 : Nat) (v0_0 v0_3 v0_4 v0_5 v0_6 v0_7 v1_0 v1_1 v1_2 v1_3 v1_4 v1_5 v2_0 v2_1 v2_2 : Value) (p1 : Int32) (x1_6 : Int32) (x2_3 : Int32) (x2_4 : Int32) (r : Int32) (hF : S_Desk_count p1 x1_6 x2_3 x2_4 = some r) : Met l y_Desk_count w_Desk_count rm_Desk_count (va_Pc [.ref a0, .int p1] (fun U => U.heap.size = sz ∧ va_P (dC, dI) classes (wd_Desk_count kA a0 a1 a2 v0_0 v0_3 v0_4 v0_5 v0_6 v0_7 v1_0 v1_1 v1_2 v1_3 v1_4 v1_5 v2_0 v2_1 v2_2 x1_6 x2_3 x2_4) U.heap ∧ va_K (dC, dI) classes (tys_ kA) U ∧ va_D (fun _ => True) (wd_Desk_count kA a0 a1 a2 v0_0 v0_3 v0_4 v0_5 v0_6 v0_7 v1_0 v1_1 v1_2 v1_3 v1_4 v1_5 v2_0 v2_1 v2_2 x1_6 x2_3 x2_4))) (va_Qi (fun (r1 : Int32) (_ : Unit) => r1 = r) (fun _ t => va_P (dC, dI) classes (wd_Desk_count kA a0 a1 a2 v0_0 v0_3 v0_4 v0_5 v0_6 v0_7 v1_0 v1_1 v1_2 v1_3 v1_4 v1_5 v2_0 v2_1 v2_2 x1_6 x2_3 x2_4) t.heap ∧ va_K (dC, dI) classes (tys_ kA) t ∧ va_D (va_A (wd_Desk_count kA a0 a1 a2 v0_0 v0_3 v0_4 v0_5 v0_6 v0_7 v1_0 v1_1 v1_2 v1_3 v1_4 v1_5 v2_0 v2_1 v2_2 x1_6 x2_3 x2_4) sz) (wd_Desk_count kA a0 a1 a2 v0_0 v0_3 v0_4 v0_5 v0_6 v0_7 v1_0 v1_1 v1_2 v1_3 v1_4 v1_5 v2_0 v2_1 v2_2 x1_6 x2_3 x2_4)) (va_A (wd_Desk_count kA a0 a1 a2 v0_0 v0_3 v0_4 v0_5 v0_6 v0_7 v1_0 v1_1 v1_2 v1_3 v1_4 v1_5 v2_0 v2_1 v2_2 x1_6 x2_3 x2_4) sz)) 0 0 (va_A (wd_Desk_count kA a0 a1 a2 v0_0 v0_3 v0_4 v0_5 v0_6 v0_7 v1_0 v1_1 v1_2 v1_3 v1_4 v1_5 v2_0 v2_1 v2_2 x1_6 x2_3 x2_4) sz) := by
  refine Met.ofW (cc := b_Desk_count) (maxL := 2) (ret := some .int) (by decide) rfl ?_
  intro p e s m args below meth c s₁ B hml hv
  obtain ⟨rfl, hsz, hP, hK, hD0⟩ := hv
  have hx := B.exec
  have hb := B.bytes
  have hr := B.returns
  have hts := atoms_spec (ws := w_Desk_count) B.pre
  have hown : s.vm.findClass R_Desk = some m.cls := findClass_of_methodNamed B.named
  have hg := fun (w : Cond) (h : w ∈ gw) => hts w (List.mem_cons_of_mem _ h)
  have hlocks := B.notSynchronized
  subst hsz
  have hD := hD0.self (sz := s.heap.size)
  generalize hAe : va_A (wd_Desk_count kA a0 a1 a2 v0_0 v0_3 v0_4 v0_5 v0_6 v0_7 v1_0 v1_1 v1_2 v1_3 v1_4 v1_5 v2_0 v2_1 v2_2 x1_6 x2_3 x2_4) s.heap.size = A at hD ⊢
  have hA : ∀ q : Nat, s.heap.size ≤ q → A q := fun q h => by rw [← hAe]; exact Or.inr h
  have hS : va_S A s.heap s.heap [] := va_S.rf
  have hl := lv_entry ([.ref a0, .int p1]) (n := 2) (Nat.le_of_ble_eq_true rfl)
  rw [lg_entry_eq]
  generalize (lg_sl ([.ref a0, .int p1]) ++ List.replicate (2 - (lg_sl ([.ref a0, .int p1])).length) Slot.unset).toArray = ls at hl ⊢
  have hl : lv_has ls 2 [(0, .ref a0), (1, .int p1)] := hl
  unfold S_Desk_count at hF
  refine lv_iload_n hx hb d_Desk_count_0 rfl (lv_at hl 1 rfl) ?_
  by_cases k_1 : p1 = 0
  · rw [if_pos k_1] at hF
    refine lv_tableIn (tgt := 28) hx hb d_Desk_count_1 (by rw [k_1]; decide) (by rw [k_1]; decide) (by rw [k_1]; rfl) (by decide) ?_
    refine lv_aload_n hx hb d_Desk_count_28 rfl (lv_at hl 0 rfl) ?_
    refine va_get (D := (dC, dI)) (ci := 8) (v := .ref a1) (C := R_Desk) (T := F_Desk) (N := 8) hx hb hg iw_Desk hown hK hP 0 rfl rfl 1 (by decide) (hg _ gw_382) (fun _ h9 => h9) rfl d_Desk_count_29 ?_
    obtain ⟨u_2, hS_2, hF⟩ := rd_bind hF
    have hPc := hP.sub (ws' := (wd_Grammar_ruleCount kA a1 v1_0 v1_1 v1_2 v1_3 v1_4 v1_5 x1_6)) [1] rfl
    have hDc := hD.sub (ws' := (wd_Grammar_ruleCount kA a1 v1_0 v1_1 v1_2 v1_3 v1_4 v1_5 x1_6)) [1] (by decide) rfl
    have hFc := va_free (wc := (wd_Grammar_ruleCount kA a1 v1_0 v1_1 v1_2 v1_3 v1_4 v1_5 x1_6)) hD hS hA [1] rfl
    refine va_calli (va_runV (As := []) (rest := []) ⟨hx, hb, hml, hown, hts⟩ (c_Grammar_ruleCount l dC dI kA s.heap.size a1 v1_0 v1_1 v1_2 v1_3 v1_4 v1_5 x1_6 u_2 hS_2) (cwV 0 hts (gw_V gw_513 gw_514 gw_515 gw_42 gw_516) rfl rfl rfl (by decide +kernel) ⟨Nat.le_of_ble_eq_true rfl, Nat.le_of_ble_eq_true rfl⟩) ⟨fun a U g mk q => by obtain ⟨q0, q1, qP, qK, qD⟩ := q; exact ⟨q0, q1, qP, va_K.moved (u := U) (U := U.calling g mk a) (Vm.Alike.refl U.vm) qK, qD⟩, va_recv hK hP (ci := 2) (q0 := 1) rfl rfl, fun U hU hW => ⟨rfl, by rw [hU], by rw [hU]; exact hPc, va_K.moved hW.alike hK, hDc.weaken (fun _ _ _ _ => trivial)⟩⟩ rfl rfl hl.1 rfl (lv_room (Nat.le_of_ble_eq_true rfl)) d_Desk_count_32 ⟨Nat.zero_le _, Nat.zero_le _⟩) hS (fun q _ h => hFc q h) hFc (fun r1 u t H1 locs ht hvm hw hB hz1 hk1 hS => ?_)
    rw [show r1 = _ from hw]
    obtain ⟨hP1, hK1, hD1⟩ := hB
    rw [ht] at hP1
    obtain ⟨hP, hD⟩ := va_join (wr := [(a0, .inr (8, [v0_0, .ref a1, .ref a2, v0_3, v0_4, v0_5, v0_6, v0_7])), (a2, .inr (6, [v2_0, v2_1, v2_2, .int x2_3, .int x2_4]))]) (w1 := (wd_Grammar_ruleCount kA a1 v1_0 v1_1 v1_2 v1_3 v1_4 v1_5 x1_6)) hP hD [1] [0, 2] rfl rfl (by decide) (by decide) hk1 hFc hP1 hD1
    have hP := hP.sub (ws' := (wd_Desk_count kA a0 a1 a2 v0_0 v0_3 v0_4 v0_5 v0_6 v0_7 v1_0 v1_1 v1_2 v1_3 v1_4 v1_5 v2_0 v2_1 v2_2 x1_6 x2_3 x2_4)) [0, 2, 1] rfl
    have hD := hD.sub (ws' := (wd_Desk_count kA a0 a1 a2 v0_0 v0_3 v0_4 v0_5 v0_6 v0_7 v1_0 v1_1 v1_2 v1_3 v1_4 v1_5 v2_0 v2_1 v2_2 x1_6 x2_3 x2_4)) [0, 2, 1] (by decide) rfl
    clear hPc hDc hFc hP1 hK1 hD1
    generalize H1 = H at hP hS ⊢
    have e0 := Option.some.inj hF
    exact W.iret (v := u_2) hx hb hr (fun t ht hW => ⟨⟨u_2, (), rfl, e0, by rw [ht]; exact hP, va_K.moved hW.alike hK, (by exact hD)⟩, hS.F ht⟩) hS.2.2 d_Desk_count_35 hlocks
  · rw [if_neg k_1] at hF
    by_cases k_3 : p1 = 1
    · rw [if_pos k_3] at hF
      refine lv_tableIn (tgt := 36) hx hb d_Desk_count_1 (by rw [k_3]; decide) (by rw [k_3]; decide) (by rw [k_3]; rfl) (by decide) ?_
      refine lv_aload_n hx hb d_Desk_count_36 rfl (lv_at hl 0 rfl) ?_
      refine va_get (D := (dC, dI)) (ci := 8) (v := .ref a2) (C := R_Desk) (T := F_Desk) (N := 8) hx hb hg iw_Desk hown hK hP 0 rfl rfl 2 (by decide) (hg _ gw_387) (fun _ h9 => h9) rfl d_Desk_count_37 ?_
      obtain ⟨u_4, hS_4, hF⟩ := rd_bind hF
      have hPc := hP.sub (ws' := (wd_States_stateCount kA a2 v2_0 v2_1 v2_2 (.int x2_4) x2_3)) [2] rfl
      have hDc := hD.sub (ws' := (wd_States_stateCount kA a2 v2_0 v2_1 v2_2 (.int x2_4) x2_3)) [2] (by decide) rfl
      have hFc := va_free (wc := (wd_States_stateCount kA a2 v2_0 v2_1 v2_2 (.int x2_4) x2_3)) hD hS hA [2] rfl
      refine va_calli (va_runV (As := []) (rest := []) ⟨hx, hb, hml, hown, hts⟩ (c_States_stateCount l dC dI kA s.heap.size a2 v2_0 v2_1 v2_2 (.int x2_4) x2_3 u_4 hS_4) (cwV 0 hts (gw_V gw_517 gw_518 gw_519 gw_91 gw_520) rfl rfl rfl (by decide +kernel) ⟨Nat.le_of_ble_eq_true rfl, Nat.le_of_ble_eq_true rfl⟩) ⟨fun a U g mk q => by obtain ⟨q0, q1, qP, qK, qD⟩ := q; exact ⟨q0, q1, qP, va_K.moved (u := U) (U := U.calling g mk a) (Vm.Alike.refl U.vm) qK, qD⟩, va_recv hK hP (ci := 6) (q0 := 2) rfl rfl, fun U hU hW => ⟨rfl, by rw [hU], by rw [hU]; exact hPc, va_K.moved hW.alike hK, hDc.weaken (fun _ _ _ _ => trivial)⟩⟩ rfl rfl hl.1 rfl (lv_room (Nat.le_of_ble_eq_true rfl)) d_Desk_count_40 ⟨Nat.zero_le _, Nat.zero_le _⟩) hS (fun q _ h => hFc q h) hFc (fun r1 u t H1 locs ht hvm hw hB hz1 hk1 hS => ?_)
      rw [show r1 = _ from hw]
      obtain ⟨hP1, hK1, hD1⟩ := hB
      rw [ht] at hP1
      obtain ⟨hP, hD⟩ := va_join (wr := [(a0, .inr (8, [v0_0, .ref a1, .ref a2, v0_3, v0_4, v0_5, v0_6, v0_7])), (a1, .inr (2, [v1_0, v1_1, v1_2, v1_3, v1_4, v1_5, .int x1_6]))]) (w1 := (wd_States_stateCount kA a2 v2_0 v2_1 v2_2 (.int x2_4) x2_3)) hP hD [2] [0, 1] rfl rfl (by decide) (by decide) hk1 hFc hP1 hD1
      have hP := hP.sub (ws' := (wd_Desk_count kA a0 a1 a2 v0_0 v0_3 v0_4 v0_5 v0_6 v0_7 v1_0 v1_1 v1_2 v1_3 v1_4 v1_5 v2_0 v2_1 v2_2 x1_6 x2_3 x2_4)) [0, 1, 2] rfl
      have hD := hD.sub (ws' := (wd_Desk_count kA a0 a1 a2 v0_0 v0_3 v0_4 v0_5 v0_6 v0_7 v1_0 v1_1 v1_2 v1_3 v1_4 v1_5 v2_0 v2_1 v2_2 x1_6 x2_3 x2_4)) [0, 1, 2] (by decide) rfl
      clear hPc hDc hFc hP1 hK1 hD1
      generalize H1 = H at hP hS ⊢
      have e0 := Option.some.inj hF
      exact W.iret (v := u_4) hx hb hr (fun t ht hW => ⟨⟨u_4, (), rfl, e0, by rw [ht]; exact hP, va_K.moved hW.alike hK, (by exact hD)⟩, hS.F ht⟩) hS.2.2 d_Desk_count_43 hlocks
    · rw [if_neg k_3] at hF
      by_cases k_5 : p1 = 2
      · rw [if_pos k_5] at hF
        refine lv_tableIn (tgt := 44) hx hb d_Desk_count_1 (by rw [k_5]; decide) (by rw [k_5]; decide) (by rw [k_5]; rfl) (by decide) ?_
        refine lv_aload_n hx hb d_Desk_count_44 rfl (lv_at hl 0 rfl) ?_
        refine va_get (D := (dC, dI)) (ci := 8) (v := .ref a2) (C := R_Desk) (T := F_Desk) (N := 8) hx hb hg iw_Desk hown hK hP 0 rfl rfl 2 (by decide) (hg _ gw_387) (fun _ h9 => h9) rfl d_Desk_count_45 ?_
        obtain ⟨u_6, hS_6, hF⟩ := rd_bind hF
        have hPc := hP.sub (ws' := (wd_States_itemCount kA a2 v2_0 v2_1 v2_2 (.int x2_3) x2_4)) [2] rfl
        have hDc := hD.sub (ws' := (wd_States_itemCount kA a2 v2_0 v2_1 v2_2 (.int x2_3) x2_4)) [2] (by decide) rfl
        have hFc := va_free (wc := (wd_States_itemCount kA a2 v2_0 v2_1 v2_2 (.int x2_3) x2_4)) hD hS hA [2] rfl
        refine va_calli (va_runV (As := []) (rest := []) ⟨hx, hb, hml, hown, hts⟩ (c_States_itemCount l dC dI kA s.heap.size a2 v2_0 v2_1 v2_2 (.int x2_3) x2_4 u_6 hS_6) (cwV 0 hts (gw_V gw_521 gw_522 gw_523 gw_91 gw_524) rfl rfl rfl (by decide +kernel) ⟨Nat.le_of_ble_eq_true rfl, Nat.le_of_ble_eq_true rfl⟩) ⟨fun a U g mk q => by obtain ⟨q0, q1, qP, qK, qD⟩ := q; exact ⟨q0, q1, qP, va_K.moved (u := U) (U := U.calling g mk a) (Vm.Alike.refl U.vm) qK, qD⟩, va_recv hK hP (ci := 6) (q0 := 2) rfl rfl, fun U hU hW => ⟨rfl, by rw [hU], by rw [hU]; exact hPc, va_K.moved hW.alike hK, hDc.weaken (fun _ _ _ _ => trivial)⟩⟩ rfl rfl hl.1 rfl (lv_room (Nat.le_of_ble_eq_true rfl)) d_Desk_count_48 ⟨Nat.zero_le _, Nat.zero_le _⟩) hS (fun q _ h => hFc q h) hFc (fun r1 u t H1 locs ht hvm hw hB hz1 hk1 hS => ?_)
        rw [show r1 = _ from hw]
        obtain ⟨hP1, hK1, hD1⟩ := hB
        rw [ht] at hP1
        obtain ⟨hP, hD⟩ := va_join (wr := [(a0, .inr (8, [v0_0, .ref a1, .ref a2, v0_3, v0_4, v0_5, v0_6, v0_7])), (a1, .inr (2, [v1_0, v1_1, v1_2, v1_3, v1_4, v1_5, .int x1_6]))]) (w1 := (wd_States_itemCount kA a2 v2_0 v2_1 v2_2 (.int x2_3) x2_4)) hP hD [2] [0, 1] rfl rfl (by decide) (by decide) hk1 hFc hP1 hD1
        have hP := hP.sub (ws' := (wd_Desk_count kA a0 a1 a2 v0_0 v0_3 v0_4 v0_5 v0_6 v0_7 v1_0 v1_1 v1_2 v1_3 v1_4 v1_5 v2_0 v2_1 v2_2 x1_6 x2_3 x2_4)) [0, 1, 2] rfl
        have hD := hD.sub (ws' := (wd_Desk_count kA a0 a1 a2 v0_0 v0_3 v0_4 v0_5 v0_6 v0_7 v1_0 v1_1 v1_2 v1_3 v1_4 v1_5 v2_0 v2_1 v2_2 x1_6 x2_3 x2_4)) [0, 1, 2] (by decide) rfl
        clear hPc hDc hFc hP1 hK1 hD1
        generalize H1 = H at hP hS ⊢
        have e0 := Option.some.inj hF
        exact W.iret (v := u_6) hx hb hr (fun t ht hW => ⟨⟨u_6, (), rfl, e0, by rw [ht]; exact hP, va_K.moved hW.alike hK, (by exact hD)⟩, hS.F ht⟩) hS.2.2 d_Desk_count_51 hlocks
      · rw [if_neg k_5] at hF
        refine lv_tableOut (tgt := 52) hx hb d_Desk_count_1 (by have q_1 := lv_neT k_1 (a := 0) (by decide); have q_3 := lv_neT k_3 (a := 1) (by decide); have q_5 := lv_neT k_5 (a := 2) (by decide); omega) (by decide) ?_
        refine lv_iconst (v := (-1)) hx hb d_Desk_count_52 (by decide) ?_
        have e0 := Option.some.inj hF
        exact W.iret (v := (-1)) hx hb hr (fun t ht hW => ⟨⟨(-1), (), rfl, e0, by rw [ht]; exact hP, va_K.moved hW.alike hK, (by exact hD)⟩, hS.F ht⟩) hS.2.2 d_Desk_count_53 hlocks
-- ===== RepairDesk.text()I
abbrev wd_Desk_text (kA : Nat → ClassId) (a0 a1 a2 a3 a4 a5 : Nat) (v0_1 v0_2 v0_4 v0_5 v0_7 v1_0 v1_1 v1_2 v3_1 : Value) (x1_3 : Int32) (x1_4 : Int32) (x1_5 : Int32) (x2_1 : Int32) (x3_2 : Int32) (f4 : (Nat → Int32)) (f5 : (Nat → Int32)) : va_W := [(a0, .inr (8, [.ref a2, v0_1, v0_2, .ref a3, v0_4, v0_5, .ref a1, v0_7])), (a1, .inr (1, [v1_0, v1_1, v1_2, .int x1_3, .int x1_4, .int x1_5])), (a2, .inr (3, [.ref a4, .int x2_1])), (a3, .inr (7, [.ref a5, v3_1, .int x3_2])), (a4, .inl (kA 2, 10, .inl f4)), (a5, .inl (kA 0, 16, .inl f5))]
abbrev rm_Desk_text : Room := { frames := 6, cells := 1, slots := 6, locals := 90 }
def S_Desk_text (x1_3 : Int32) (x1_4 : Int32) (x1_5 : Int32) (x2_1 : Int32) (x3_2 : Int32) (f4 : (Nat → Int32)) (f5 : (Nat → Int32)) : Option (Int32 × Int32 × Int32 × Int32 × Int32 × Int32 × Int32 × (Nat → Int32)) := ((S_Text_readFrom x3_2 f5 x2_1 f4).bind fun u_1 => ((S_Line_clear x2_1).bind fun u_2 => (if ¬ u_1.1 = 0 then ((S_Finds_forget x1_3 x1_4 x1_5).bind fun u_4 => ((S_Text_size u_1.2.1).bind fun u_5 => (some (0, u_5, u_4.1, u_4.2.1, u_4.2.2, u_2, u_1.2.1, u_1.2.2)))) else (some (1, 0, x1_3, x1_4, x1_5, u_2, u_1.2.1, u_1.2.2)))))
set_option maxHeartbeats 4000000 in
set_option maxRecDepth 100000 in
theorem c_Desk_text (l : Launch) (hlt : l.stackTraces = false) (dC : Nat → ClassId) (dI : Nat → Nat → Nat) (kA : Nat → ClassId) (sa : Nat → Nat) (sz : Nat) (a0 a1 a2 a3 a4 a5 : Nat) (v0_1 v0_2 v0_4 v0_5 v0_7 v1_0 v1_1 v1_2 v3_1 : Value) (x1_3 : Int32) (x1_4 : Int32) (x1_5 : Int32) (x2_1 : Int32) (x3_2 : Int32) (f4 : (Nat → Int32)) (f5 : (Nat → Int32)) (k r : Int32) (ox1_3 : Int32) (ox1_4 : Int32) (ox1_5 : Int32) (ox2_1 : Int32) (ox3_2 : Int32) (of5 : (Nat → Int32)) (hF : S_Desk_text x1_3 x1_4 x1_5 x2_1 x3_2 f4 f5 = some (k, r, ox1_3, ox1_4, ox1_5, ox2_1, ox3_2, of5)) : rd_Met l y_Desk_text w_Desk_text rm_Desk_text (va_Pc [.ref a0] (fun U => U.heap.size = sz ∧ va_P (dC, dI) classes (wd_Desk_text kA a0 a1 a2 a3 a4 a5 v0_1 v0_2 v0_4 v0_5 v0_7 v1_0 v1_1 v1_2 v3_1 x1_3 x1_4 x1_5 x2_1 x3_2 f4 f5) U.heap ∧ va_K (dC, dI) classes (tys_ kA) U ∧ va_D (fun _ => True) (wd_Desk_text kA a0 a1 a2 a3 a4 a5 v0_1 v0_2 v0_4 v0_5 v0_7 v1_0 v1_1 v1_2 v3_1 x1_3 x1_4 x1_5 x2_1 x3_2 f4 f5) ∧ rd_X sa U ∧ rd_St (va_A (wd_Desk_text kA a0 a1 a2 a3 a4 a5 v0_1 v0_2 v0_4 v0_5 v0_7 v1_0 v1_1 v1_2 v3_1 x1_3 x1_4 x1_5 x2_1 x3_2 f4 f5) sz) U U.heap)) (fun st v t => k = 0 ∧ v = some (.int r) ∧ (va_P (dC, dI) classes (wd_Desk_text kA a0 a1 a2 a3 a4 a5 v0_1 v0_2 v0_4 v0_5 v0_7 v1_0 v1_1 v1_2 v3_1 ox1_3 ox1_4 ox1_5 ox2_1 ox3_2 f4 of5) t.heap ∧ va_K (dC, dI) classes (tys_ kA) t ∧ va_D (va_A (wd_Desk_text kA a0 a1 a2 a3 a4 a5 v0_1 v0_2 v0_4 v0_5 v0_7 v1_0 v1_1 v1_2 v3_1 x1_3 x1_4 x1_5 x2_1 x3_2 f4 f5) sz) (wd_Desk_text kA a0 a1 a2 a3 a4 a5 v0_1 v0_2 v0_4 v0_5 v0_7 v1_0 v1_1 v1_2 v3_1 ox1_3 ox1_4 ox1_5 ox2_1 ox3_2 f4 of5)) ∧ va_F (va_A (wd_Desk_text kA a0 a1 a2 a3 a4 a5 v0_1 v0_2 v0_4 v0_5 v0_7 v1_0 v1_1 v1_2 v3_1 x1_3 x1_4 x1_5 x2_1 x3_2 f4 f5) sz) st t) (fun st E t => (k, E) ∈ xk_ ∧ (va_P (dC, dI) classes (wd_Desk_text kA a0 a1 a2 a3 a4 a5 v0_1 v0_2 v0_4 v0_5 v0_7 v1_0 v1_1 v1_2 v3_1 ox1_3 ox1_4 ox1_5 ox2_1 ox3_2 f4 of5) t.heap ∧ va_K (dC, dI) classes (tys_ kA) t ∧ va_D (va_A (wd_Desk_text kA a0 a1 a2 a3 a4 a5 v0_1 v0_2 v0_4 v0_5 v0_7 v1_0 v1_1 v1_2 v3_1 x1_3 x1_4 x1_5 x2_1 x3_2 f4 f5) sz) (wd_Desk_text kA a0 a1 a2 a3 a4 a5 v0_1 v0_2 v0_4 v0_5 v0_7 v1_0 v1_1 v1_2 v3_1 ox1_3 ox1_4 ox1_5 ox2_1 ox3_2 f4 of5)) ∧ va_F (va_A (wd_Desk_text kA a0 a1 a2 a3 a4 a5 v0_1 v0_2 v0_4 v0_5 v0_7 v1_0 v1_1 v1_2 v3_1 x1_3 x1_4 x1_5 x2_1 x3_2 f4 f5) sz) st t) 1 6 (va_A (wd_Desk_text kA a0 a1 a2 a3 a4 a5 v0_1 v0_2 v0_4 v0_5 v0_7 v1_0 v1_1 v1_2 v3_1 x1_3 x1_4 x1_5 x2_1 x3_2 f4 f5) sz) := by
  refine rd_ofW (cc := b_Desk_text) (maxL := 2) (ret := some .int) (by decide) rfl ?_
  intro p e s m args below meth c s₁ B hml hv
  obtain ⟨rfl, hsz, hP, hK, hD0, hX, hSt⟩ := hv
  have hx := B.exec
  have hb := B.bytes
  have hr := B.returns
  have hts := atoms_spec (ws := w_Desk_text) B.pre
  have hown : s.vm.findClass R_Desk = some m.cls := findClass_of_methodNamed B.named
  have hg := fun (w : Cond) (h : w ∈ gw) => hts w (List.mem_cons_of_mem _ h)
  have hno : ∀ {pc : Nat}, ∀ x ∈ c.exceptionTable.toList, covers x pc = false := rd_noex (B.noHandlers (hts _ List.mem_cons_self))
  have hlocks := B.notSynchronized
  subst hsz
  have hD := hD0.self (sz := s.heap.size)
  generalize hAe : va_A (wd_Desk_text kA a0 a1 a2 a3 a4 a5 v0_1 v0_2 v0_4 v0_5 v0_7 v1_0 v1_1 v1_2 v3_1 x1_3 x1_4 x1_5 x2_1 x3_2 f4 f5) s.heap.size = A at hD hSt ⊢
  have hA : ∀ q : Nat, s.heap.size ≤ q → A q := fun q h => by rw [← hAe]; exact Or.inr h
  have hS : va_S A s.heap s.heap [] := va_S.rf
  have hl := lv_entry ([.ref a0]) (n := 2) (Nat.le_of_ble_eq_true rfl)
  rw [lg_entry_eq]
  generalize (lg_sl ([.ref a0]) ++ List.replicate (2 - (lg_sl ([.ref a0])).length) Slot.unset).toArray = ls at hl ⊢
  have hl : lv_has ls 2 [(0, .ref a0)] := hl
  unfold S_Desk_text at hF
  refine lv_aload_n hx hb d_Desk_text_0 rfl (lv_at hl 0 rfl) ?_
  refine va_get (D := (dC, dI)) (ci := 8) (v := .ref a3) (C := R_Desk) (T := F_Desk) (N := 8) hx hb hg iw_Desk hown hK hP 0 rfl rfl 3 (by decide) (hg _ gw_392) (fun _ h9 => h9) rfl d_Desk_text_1 ?_
  refine lv_aload_n hx hb d_Desk_text_4 rfl (lv_at hl 0 rfl) ?_
  refine va_get (D := (dC, dI)) (ci := 8) (v := .ref a2) (C := R_Desk) (T := F_Desk) (N := 8) hx hb hg iw_Desk hown hK hP 0 rfl rfl 0 (by decide) (hg _ gw_377) (fun _ h9 => h9) rfl d_Desk_text_5 ?_
  obtain ⟨u_1, hS_1, hF⟩ := rd_bind hF
  have hPc := hP.sub (ws' := (wd_Text_readFrom kA a3 a5 a2 a4 v3_1 x3_2 f5 x2_1 f4)) [3, 5, 2, 4] rfl
  have hDc := hD.sub (ws' := (wd_Text_readFrom kA a3 a5 a2 a4 v3_1 x3_2 f5 x2_1 f4)) [3, 5, 2, 4] (by decide) rfl
  have hFc := va_free (wc := (wd_Text_readFrom kA a3 a5 a2 a4 v3_1 x3_2 f5 x2_1 f4)) hD hS hA [3, 5, 2, 4] rfl
  refine va_calli (va_runV (As := [.ref a2]) (rest := []) ⟨hx, hb, hml, hown, hts⟩ (c_Text_readFrom l dC dI kA s.heap.size a3 a5 a2 a4 v3_1 x3_2 f5 x2_1 f4 u_1.1 u_1.2.1 u_1.2.2 hS_1) (cwV 1 hts (gw_V gw_579 gw_580 gw_581 gw_123 gw_582) rfl rfl rfl (by decide +kernel) ⟨Nat.le_of_ble_eq_true rfl, Nat.le_of_ble_eq_true rfl⟩) ⟨fun a U g mk q => by obtain ⟨q0, q1, qP, qK, qD⟩ := q; exact ⟨q0, q1, qP, va_K.moved (u := U) (U := U.calling g mk a) (Vm.Alike.refl U.vm) qK, qD⟩, va_recv hK hP (ci := 7) (q0 := 3) rfl rfl, fun U hU hW => ⟨rfl, by rw [hU], by rw [hU]; exact hPc, va_K.moved hW.alike hK, hDc.weaken (fun _ _ _ _ => trivial)⟩⟩ rfl rfl hl.1 rfl (lv_room (Nat.le_of_ble_eq_true rfl)) d_Desk_text_8 ⟨Nat.zero_le _, Nat.zero_le _⟩) hS (fun q _ h => hFc q h) hFc (fun r1 u t H1 locs ht hvm hw hB hz1 hk1 hS => ?_)
  rw [show r1 = _ from hw]
  obtain ⟨hP1, hK1, hD1⟩ := hB
  rw [ht] at hP1
  obtain ⟨hP, hD⟩ := va_join (wr := [(a0, .inr (8, [.ref a2, v0_1, v0_2, .ref a3, v0_4, v0_5, .ref a1, v0_7])), (a1, .inr (1, [v1_0, v1_1, v1_2, .int x1_3, .int x1_4, .int x1_5]))]) (w1 := (wd_Text_readFrom kA a3 a5 a2 a4 v3_1 u_1.2.1 u_1.2.2 x2_1 f4)) hP hD [3, 5, 2, 4] [0, 1] rfl rfl (by decide) (by decide) hk1 hFc hP1 hD1
  have hP := hP.sub (ws' := (wd_Desk_text kA a0 a1 a2 a3 a4 a5 v0_1 v0_2 v0_4 v0_5 v0_7 v1_0 v1_1 v1_2 v3_1 x1_3 x1_4 x1_5 x2_1 u_1.2.1 f4 u_1.2.2)) [0, 1, 4, 2, 5, 3] rfl
  have hD := hD.sub (ws' := (wd_Desk_text kA a0 a1 a2 a3 a4 a5 v0_1 v0_2 v0_4 v0_5 v0_7 v1_0 v1_1 v1_2 v3_1 x1_3 x1_4 x1_5 x2_1 u_1.2.1 f4 u_1.2.2)) [0, 1, 4, 2, 5, 3] (by decide) rfl
  clear hPc hDc hFc hP1 hK1 hD1
  generalize H1 = H at hP hS ⊢
  refine lv_istore_n (lv' := [(1, .int u_1.1), (0, .ref a0)]) hx hb d_Desk_text_11 rfl hl (by decide) rfl (fun ls hl => ?_)
  refine lv_aload_n hx hb d_Desk_text_12 rfl (lv_at hl 1 rfl) ?_
  refine va_get (D := (dC, dI)) (ci := 8) (v := .ref a2) (C := R_Desk) (T := F_Desk) (N := 8) hx hb hg iw_Desk hown hK hP 0 rfl rfl 0 (by decide) (hg _ gw_377) (fun _ h9 => h9) rfl d_Desk_text_13 ?_
  obtain ⟨u_2, hS_2, hF⟩ := rd_bind hF
  have hPc := hP.sub (ws' := (wd_Line_clear kA a2 (.ref a4) x2_1)) [2] rfl
  have hDc := hD.sub (ws' := (wd_Line_clear kA a2 (.ref a4) x2_1)) [2] (by decide) rfl
  have hFc := va_free (wc := (wd_Line_clear kA a2 (.ref a4) x2_1)) hD hS hA [2] rfl
  refine va_callv (va_runV (As := []) (rest := []) ⟨hx, hb, hml, hown, hts⟩ (c_Line_clear l dC dI kA H.size a2 (.ref a4) x2_1 u_2 hS_2) (cwV 0 hts (gw_V gw_537 gw_538 gw_539 gw_28 gw_540) rfl rfl rfl (by decide +kernel) ⟨Nat.le_of_ble_eq_true rfl, Nat.le_of_ble_eq_true rfl⟩) ⟨fun a U g mk q => by obtain ⟨q0, q1, qP, qK, qD⟩ := q; exact ⟨q0, q1, qP, va_K.moved (u := U) (U := U.calling g mk a) (Vm.Alike.refl U.vm) qK, qD⟩, va_recv hK hP (ci := 3) (q0 := 2) rfl rfl, fun U hU hW => ⟨rfl, by rw [hU], by rw [hU]; exact hPc, va_K.moved hW.alike hK, hDc.weaken (fun _ _ _ _ => trivial)⟩⟩ rfl rfl hl.1 rfl (lv_room (Nat.le_of_ble_eq_true rfl)) d_Desk_text_16 ⟨Nat.zero_le _, Nat.zero_le _⟩) hS (fun q _ h => hFc q h) hFc (fun u t H1 locs ht hvm hw hB hz1 hk1 hS => ?_)
  obtain ⟨hP1, hK1, hD1⟩ := hB
  rw [ht] at hP1
  obtain ⟨hP, hD⟩ := va_join (wr := [(a0, .inr (8, [.ref a2, v0_1, v0_2, .ref a3, v0_4, v0_5, .ref a1, v0_7])), (a1, .inr (1, [v1_0, v1_1, v1_2, .int x1_3, .int x1_4, .int x1_5])), (a3, .inr (7, [.ref a5, v3_1, .int u_1.2.1])), (a4, .inl (kA 2, 10, .inl f4)), (a5, .inl (kA 0, 16, .inl u_1.2.2))]) (w1 := (wd_Line_clear kA a2 (.ref a4) u_2)) hP hD [2] [0, 1, 3, 4, 5] rfl rfl (by decide) (by decide) hk1 hFc hP1 hD1
  have hP := hP.sub (ws' := (wd_Desk_text kA a0 a1 a2 a3 a4 a5 v0_1 v0_2 v0_4 v0_5 v0_7 v1_0 v1_1 v1_2 v3_1 x1_3 x1_4 x1_5 u_2 u_1.2.1 f4 u_1.2.2)) [0, 1, 5, 2, 3, 4] rfl
  have hD := hD.sub (ws' := (wd_Desk_text kA a0 a1 a2 a3 a4 a5 v0_1 v0_2 v0_4 v0_5 v0_7 v1_0 v1_1 v1_2 v3_1 x1_3 x1_4 x1_5 u_2 u_1.2.1 f4 u_1.2.2)) [0, 1, 5, 2, 3, 4] (by decide) rfl
  clear hPc hDc hFc hP1 hK1 hD1
  generalize H1 = H at hP hS ⊢
  refine lv_iload_n hx hb d_Desk_text_19 rfl (lv_at hl 0 rfl) ?_
  refine lv_if_ne (tgt := 33) hx hb d_Desk_text_20 (by decide) (fun c_3 => ?_) (fun c_3 => ?_)
  · rw [if_pos c_3] at hF
    refine lv_aload_n hx hb d_Desk_text_33 rfl (lv_at hl 1 rfl) ?_
    refine va_get (D := (dC, dI)) (ci := 8) (v := .ref a1) (C := R_Desk) (T := F_Desk) (N := 8) hx hb hg iw_Desk hown hK hP 0 rfl rfl 6 (by decide) (hg _ gw_409) (fun _ h9 => h9) rfl d_Desk_text_34 ?_
    obtain ⟨u_4, hS_4, hF⟩ := rd_bind hF
    have hPc := hP.sub (ws' := (wd_Finds_forget kA a1 v1_0 v1_1 v1_2 x1_3 x1_4 x1_5)) [1] rfl
    have hDc := hD.sub (ws' := (wd_Finds_forget kA a1 v1_0 v1_1 v1_2 x1_3 x1_4 x1_5)) [1] (by decide) rfl
    have hFc := va_free (wc := (wd_Finds_forget kA a1 v1_0 v1_1 v1_2 x1_3 x1_4 x1_5)) hD hS hA [1] rfl
    refine va_callv (va_runV (As := []) (rest := []) ⟨hx, hb, hml, hown, hts⟩ (c_Finds_forget l dC dI kA H.size a1 v1_0 v1_1 v1_2 x1_3 x1_4 x1_5 u_4.1 u_4.2.1 u_4.2.2 hS_4) (cwV 0 hts (gw_V gw_553 gw_554 gw_555 gw_11 gw_556) rfl rfl rfl (by decide +kernel) ⟨Nat.le_of_ble_eq_true rfl, Nat.le_of_ble_eq_true rfl⟩) ⟨fun a U g mk q => by obtain ⟨q0, q1, qP, qK, qD⟩ := q; exact ⟨q0, q1, qP, va_K.moved (u := U) (U := U.calling g mk a) (Vm.Alike.refl U.vm) qK, qD⟩, va_recv hK hP (ci := 1) (q0 := 1) rfl rfl, fun U hU hW => ⟨rfl, by rw [hU], by rw [hU]; exact hPc, va_K.moved hW.alike hK, hDc.weaken (fun _ _ _ _ => trivial)⟩⟩ rfl rfl hl.1 rfl (lv_room (Nat.le_of_ble_eq_true rfl)) d_Desk_text_37 ⟨Nat.zero_le _, Nat.zero_le _⟩) hS (fun q _ h => hFc q h) hFc (fun u t H1 locs ht hvm hw hB hz1 hk1 hS => ?_)
    obtain ⟨hP1, hK1, hD1⟩ := hB
    rw [ht] at hP1
    obtain ⟨hP, hD⟩ := va_join (wr := [(a0, .inr (8, [.ref a2, v0_1, v0_2, .ref a3, v0_4, v0_5, .ref a1, v0_7])), (a2, .inr (3, [.ref a4, .int u_2])), (a3, .inr (7, [.ref a5, v3_1, .int u_1.2.1])), (a4, .inl (kA 2, 10, .inl f4)), (a5, .inl (kA 0, 16, .inl u_1.2.2))]) (w1 := (wd_Finds_forget kA a1 v1_0 v1_1 v1_2 u_4.1 u_4.2.1 u_4.2.2)) hP hD [1] [0, 2, 3, 4, 5] rfl rfl (by decide) (by decide) hk1 hFc hP1 hD1
    have hP := hP.sub (ws' := (wd_Desk_text kA a0 a1 a2 a3 a4 a5 v0_1 v0_2 v0_4 v0_5 v0_7 v1_0 v1_1 v1_2 v3_1 u_4.1 u_4.2.1 u_4.2.2 u_2 u_1.2.1 f4 u_1.2.2)) [0, 5, 1, 2, 3, 4] rfl
    have hD := hD.sub (ws' := (wd_Desk_text kA a0 a1 a2 a3 a4 a5 v0_1 v0_2 v0_4 v0_5 v0_7 v1_0 v1_1 v1_2 v3_1 u_4.1 u_4.2.1 u_4.2.2 u_2 u_1.2.1 f4 u_1.2.2)) [0, 5, 1, 2, 3, 4] (by decide) rfl
    clear hPc hDc hFc hP1 hK1 hD1
    generalize H1 = H at hP hS ⊢
    refine lv_aload_n hx hb d_Desk_text_40 rfl (lv_at hl 1 rfl) ?_
    refine va_get (D := (dC, dI)) (ci := 8) (v := .ref a3) (C := R_Desk) (T := F_Desk) (N := 8) hx hb hg iw_Desk hown hK hP 0 rfl rfl 3 (by decide) (hg _ gw_392) (fun _ h9 => h9) rfl d_Desk_text_41 ?_
    obtain ⟨u_5, hS_5, hF⟩ := rd_bind hF
    have hPc := hP.sub (ws' := (wd_Text_size kA a3 (.ref a5) v3_1 u_1.2.1)) [3] rfl
    have hDc := hD.sub (ws' := (wd_Text_size kA a3 (.ref a5) v3_1 u_1.2.1)) [3] (by decide) rfl
    have hFc := va_free (wc := (wd_Text_size kA a3 (.ref a5) v3_1 u_1.2.1)) hD hS hA [3] rfl
    refine va_calli (va_runV (As := []) (rest := []) ⟨hx, hb, hml, hown, hts⟩ (c_Text_size l dC dI kA H.size a3 (.ref a5) v3_1 u_1.2.1 u_5 hS_5) (cwV 0 hts (gw_V gw_583 gw_121 gw_122 gw_123 gw_124) rfl rfl rfl (by decide +kernel) ⟨Nat.le_of_ble_eq_true rfl, Nat.le_of_ble_eq_true rfl⟩) ⟨fun a U g mk q => by obtain ⟨q0, q1, qP, qK, qD⟩ := q; exact ⟨q0, q1, qP, va_K.moved (u := U) (U := U.calling g mk a) (Vm.Alike.refl U.vm) qK, qD⟩, va_recv hK hP (ci := 7) (q0 := 3) rfl rfl, fun U hU hW => ⟨rfl, by rw [hU], by rw [hU]; exact hPc, va_K.moved hW.alike hK, hDc.weaken (fun _ _ _ _ => trivial)⟩⟩ rfl rfl hl.1 rfl (lv_room (Nat.le_of_ble_eq_true rfl)) d_Desk_text_44 ⟨Nat.zero_le _, Nat.zero_le _⟩) hS (fun q _ h => hFc q h) hFc (fun r1 u t H1 locs ht hvm hw hB hz1 hk1 hS => ?_)
    rw [show r1 = _ from hw]
    obtain ⟨hP1, hK1, hD1⟩ := hB
    rw [ht] at hP1
    obtain ⟨hP, hD⟩ := va_join (wr := [(a0, .inr (8, [.ref a2, v0_1, v0_2, .ref a3, v0_4, v0_5, .ref a1, v0_7])), (a1, .inr (1, [v1_0, v1_1, v1_2, .int u_4.1, .int u_4.2.1, .int u_4.2.2])), (a2, .inr (3, [.ref a4, .int u_2])), (a4, .inl (kA 2, 10, .inl f4)), (a5, .inl (kA 0, 16, .inl u_1.2.2))]) (w1 := (wd_Text_size kA a3 (.ref a5) v3_1 u_1.2.1)) hP hD [3] [0, 1, 2, 4, 5] rfl rfl (by decide) (by decide) hk1 hFc hP1 hD1
    have hP := hP.sub (ws' := (wd_Desk_text kA a0 a1 a2 a3 a4 a5 v0_1 v0_2 v0_4 v0_5 v0_7 v1_0 v1_1 v1_2 v3_1 u_4.1 u_4.2.1 u_4.2.2 u_2 u_1.2.1 f4 u_1.2.2)) [0, 1, 2, 5, 3, 4] rfl
    have hD := hD.sub (ws' := (wd_Desk_text kA a0 a1 a2 a3 a4 a5 v0_1 v0_2 v0_4 v0_5 v0_7 v1_0 v1_1 v1_2 v3_1 u_4.1 u_4.2.1 u_4.2.2 u_2 u_1.2.1 f4 u_1.2.2)) [0, 1, 2, 5, 3, 4] (by decide) rfl
    clear hPc hDc hFc hP1 hK1 hD1
    generalize H1 = H at hP hS ⊢
    have e0 := Option.some.inj hF
    have q0 := Prod.mk.inj e0
    have q1 := Prod.mk.inj q0.2
    have q2 := Prod.mk.inj q1.2
    have q3 := Prod.mk.inj q2.2
    have q4 := Prod.mk.inj q3.2
    have q5 := Prod.mk.inj q4.2
    have q6 := Prod.mk.inj q5.2
    refine W.widen (k := 1) (n := 6) (Nat.zero_le _) (Nat.zero_le _) ?_
    refine rd_mono (rd_back (Qc := va_Qi (fun (r1 : Int32) (_ : Unit) => r1 = r) (fun _ t => va_P (dC, dI) classes (wd_Desk_text kA a0 a1 a2 a3 a4 a5 v0_1 v0_2 v0_4 v0_5 v0_7 v1_0 v1_1 v1_2 v3_1 ox1_3 ox1_4 ox1_5 ox2_1 ox3_2 f4 of5) t.heap ∧ va_K (dC, dI) classes (tys_ kA) t ∧ va_D A (wd_Desk_text kA a0 a1 a2 a3 a4 a5 v0_1 v0_2 v0_4 v0_5 v0_7 v1_0 v1_1 v1_2 v3_1 ox1_3 ox1_4 ox1_5 ox2_1 ox3_2 f4 of5)) A) (fun v t q => rd_retx q0.1 q)) ?_
    exact W.iret (v := u_5) hx hb hr (fun t ht hW => ⟨⟨u_5, (), rfl, q1.1, by rw [ht, ← q2.1, ← q3.1, ← q4.1, ← q5.1, ← q6.1, ← q6.2]; exact hP, va_K.moved hW.alike hK, (by rw [← q2.1, ← q3.1, ← q4.1, ← q5.1, ← q6.1, ← q6.2]; exact hD)⟩, hS.F ht⟩) hS.2.2 d_Desk_text_47 hlocks
  · rw [if_neg (fun z => z c_3)] at hF
    have e0 := Option.some.inj hF
    have q0 := Prod.mk.inj e0
    have q1 := Prod.mk.inj q0.2
    have q2 := Prod.mk.inj q1.2
    have q3 := Prod.mk.inj q2.2
    have q4 := Prod.mk.inj q3.2
    have q5 := Prod.mk.inj q4.2
    have q6 := Prod.mk.inj q5.2
    refine rd_throw (own := R_Desk) (cls := xI) (text := "the line is no row of up to eight letters") (Y0 := xrt_) (names := xnm_) (ix := 7) (bx := rd_bx 7) (ik := 84) (is := 129) (ic := 88) (sa := sa 129) (rest := []) hx hb hlt rd_ok7 hown (by decide +kernel) (by decide +kernel) (by decide +kernel) (rd_site hg hX hSt hS gw_545 gw_421 (by decide +kernel) (by simp [xs_])) (hl.1.trans hml.symm) d_Desk_text_23 d_Desk_text_26 d_Desk_text_27 d_Desk_text_29 d_Desk_text_32 hno (Nat.le_of_ble_eq_true rfl) (Nat.le_of_ble_eq_true rfl) (Nat.le_of_ble_eq_true rfl) (Nat.le_of_ble_eq_true rfl) hlocks (fun t ht hz hq => ?_) hS.2.2 (Nat.le_refl _) (Nat.le_refl _)
    have hT := rd_thrown hP hD hK hS ht hz hq
    exact ⟨by rw [← q0.1]; decide +kernel, by rw [← q2.1, ← q3.1, ← q4.1, ← q5.1, ← q6.1, ← q6.2]; exact hT⟩
-- ===== RepairDesk.parse()I
abbrev wd_Desk_parse (kA : Nat → ClassId) (a0 a1 a2 a3 a4 a5 a6 a7 a8 a9 a10 a11 : Nat) (v0_0 v0_4 v0_6 v0_7 v1_2 v1_3 v1_4 v1_5 v1_6 v3_0 v3_4 v4_1 : Value) (x3_3 : Int32) (x4_2 : Int32) (f5 : (Nat → Int32)) (f6 : (Nat → Int32)) (f7 : (Nat → Int32)) (f8 : (Nat → Int32)) (f9 : (Nat → Int32)) (f10 : (Nat → Int32)) (f11 : (Nat → Int32)) : va_W := [(a0, .inr (8, [v0_0, .ref a1, .ref a3, .ref a4, v0_4, .ref a2, v0_6, v0_7])), (a1, .inr (2, [.ref a5, .ref a6, v1_2, v1_3, v1_4, v1_5, v1_6])), (a2, .inr (5, [.ref a1, .ref a3, .ref a7, .ref a8])), (a3, .inr (6, [v3_0, .ref a10, .ref a9, .int x3_3, v3_4])), (a4, .inr (7, [.ref a11, v4_1, .int x4_2])), (a5, .inl (kA 0, 12, .inl f5)), (a6, .inl (kA 0, 12, .inl f6)), (a7, .inl (kA 0, 4096, .inl f7)), (a8, .inl (kA 0, 8, .inl f8)), (a9, .inl (kA 0, 280, .inl f9)), (a10, .inl (kA 0, 480, .inl f10)), (a11, .inl (kA 0, 16, .inl f11))]
abbrev rm_Desk_parse : Room := { frames := 6, cells := 1, slots := 6, locals := 130 }
def S_Desk_parse (x3_3 : Int32) (x4_2 : Int32) (f5 : (Nat → Int32)) (f6 : (Nat → Int32)) (f7 : (Nat → Int32)) (f8 : (Nat → Int32)) (f9 : (Nat → Int32)) (f10 : (Nat → Int32)) (f11 : (Nat → Int32)) : Option (Int32 × Int32 × (Nat → Int32) × (Nat → Int32)) := ((S_States_stateCount x3_3).bind fun u_1 => (if ¬ u_1 = 0 then ((S_Stacks_wrongPlace f7 f8 x3_3 f5 f6 f9 f10 x4_2 f11).bind fun u_3 => (some (0, u_3.1, u_3.2.1, u_3.2.2))) else (some (2, 0, f7, f8))))
set_option maxHeartbeats 4000000 in
set_option maxRecDepth 100000 in
theorem c_Desk_parse (l : Launch) (hlt : l.stackTraces = false) (dC : Nat → ClassId) (dI : Nat → Nat → Nat) (kA : Nat → ClassId) (sa : Nat → Nat) (sz : Nat) (a0 a1 a2 a3 a4 a5 a6 a7 a8 a9 a10 a11 : Nat) (v0_0 v0_4 v0_6 v0_7 v1_2 v1_3 v1_4 v1_5 v1_6 v3_0 v3_4 v4_1 : Value) (x3_3 : Int32) (x4_2 : Int32) (f5 : (Nat → Int32)) (f6 : (Nat → Int32)) (f7 : (Nat → Int32)) (f8 : (Nat → Int32)) (f9 : (Nat → Int32)) (f10 : (Nat → Int32)) (f11 : (Nat → Int32)) (k r : Int32) (of7 : (Nat → Int32)) (of8 : (Nat → Int32)) (hF : S_Desk_parse x3_3 x4_2 f5 f6 f7 f8 f9 f10 f11 = some (k, r, of7, of8)) : rd_Met l y_Desk_parse w_Desk_parse rm_Desk_parse (va_Pc [.ref a0] (fun U => U.heap.size = sz ∧ va_P (dC, dI) classes (wd_Desk_parse kA a0 a1 a2 a3 a4 a5 a6 a7 a8 a9 a10 a11 v0_0 v0_4 v0_6 v0_7 v1_2 v1_3 v1_4 v1_5 v1_6 v3_0 v3_4 v4_1 x3_3 x4_2 f5 f6 f7 f8 f9 f10 f11) U.heap ∧ va_K (dC, dI) classes (tys_ kA) U ∧ va_D (fun _ => True) (wd_Desk_parse kA a0 a1 a2 a3 a4 a5 a6 a7 a8 a9 a10 a11 v0_0 v0_4 v0_6 v0_7 v1_2 v1_3 v1_4 v1_5 v1_6 v3_0 v3_4 v4_1 x3_3 x4_2 f5 f6 f7 f8 f9 f10 f11) ∧ rd_X sa U ∧ rd_St (va_A (wd_Desk_parse kA a0 a1 a2 a3 a4 a5 a6 a7 a8 a9 a10 a11 v0_0 v0_4 v0_6 v0_7 v1_2 v1_3 v1_4 v1_5 v1_6 v3_0 v3_4 v4_1 x3_3 x4_2 f5 f6 f7 f8 f9 f10 f11) sz) U U.heap)) (fun st v t => k = 0 ∧ v = some (.int r) ∧ (va_P (dC, dI) classes (wd_Desk_parse kA a0 a1 a2 a3 a4 a5 a6 a7 a8 a9 a10 a11 v0_0 v0_4 v0_6 v0_7 v1_2 v1_3 v1_4 v1_5 v1_6 v3_0 v3_4 v4_1 x3_3 x4_2 f5 f6 of7 of8 f9 f10 f11) t.heap ∧ va_K (dC, dI) classes (tys_ kA) t ∧ va_D (va_A (wd_Desk_parse kA a0 a1 a2 a3 a4 a5 a6 a7 a8 a9 a10 a11 v0_0 v0_4 v0_6 v0_7 v1_2 v1_3 v1_4 v1_5 v1_6 v3_0 v3_4 v4_1 x3_3 x4_2 f5 f6 f7 f8 f9 f10 f11) sz) (wd_Desk_parse kA a0 a1 a2 a3 a4 a5 a6 a7 a8 a9 a10 a11 v0_0 v0_4 v0_6 v0_7 v1_2 v1_3 v1_4 v1_5 v1_6 v3_0 v3_4 v4_1 x3_3 x4_2 f5 f6 of7 of8 f9 f10 f11)) ∧ va_F (va_A (wd_Desk_parse kA a0 a1 a2 a3 a4 a5 a6 a7 a8 a9 a10 a11 v0_0 v0_4 v0_6 v0_7 v1_2 v1_3 v1_4 v1_5 v1_6 v3_0 v3_4 v4_1 x3_3 x4_2 f5 f6 f7 f8 f9 f10 f11) sz) st t) (fun st E t => (k, E) ∈ xk_ ∧ (va_P (dC, dI) classes (wd_Desk_parse kA a0 a1 a2 a3 a4 a5 a6 a7 a8 a9 a10 a11 v0_0 v0_4 v0_6 v0_7 v1_2 v1_3 v1_4 v1_5 v1_6 v3_0 v3_4 v4_1 x3_3 x4_2 f5 f6 of7 of8 f9 f10 f11) t.heap ∧ va_K (dC, dI) classes (tys_ kA) t ∧ va_D (va_A (wd_Desk_parse kA a0 a1 a2 a3 a4 a5 a6 a7 a8 a9 a10 a11 v0_0 v0_4 v0_6 v0_7 v1_2 v1_3 v1_4 v1_5 v1_6 v3_0 v3_4 v4_1 x3_3 x4_2 f5 f6 f7 f8 f9 f10 f11) sz) (wd_Desk_parse kA a0 a1 a2 a3 a4 a5 a6 a7 a8 a9 a10 a11 v0_0 v0_4 v0_6 v0_7 v1_2 v1_3 v1_4 v1_5 v1_6 v3_0 v3_4 v4_1 x3_3 x4_2 f5 f6 of7 of8 f9 f10 f11)) ∧ va_F (va_A (wd_Desk_parse kA a0 a1 a2 a3 a4 a5 a6 a7 a8 a9 a10 a11 v0_0 v0_4 v0_6 v0_7 v1_2 v1_3 v1_4 v1_5 v1_6 v3_0 v3_4 v4_1 x3_3 x4_2 f5 f6 f7 f8 f9 f10 f11) sz) st t) 1 6 (va_A (wd_Desk_parse kA a0 a1 a2 a3 a4 a5 a6 a7 a8 a9 a10 a11 v0_0 v0_4 v0_6 v0_7 v1_2 v1_3 v1_4 v1_5 v1_6 v3_0 v3_4 v4_1 x3_3 x4_2 f5 f6 f7 f8 f9 f10 f11) sz) := by
  refine rd_ofW (cc := b_Desk_parse) (maxL := 1) (ret := some .int) (by decide) rfl ?_
  intro p e s m args below meth c s₁ B hml hv
  obtain ⟨rfl, hsz, hP, hK, hD0, hX, hSt⟩ := hv
  have hx := B.exec
  have hb := B.bytes
  have hr := B.returns
  have hts := atoms_spec (ws := w_Desk_parse) B.pre
  have hown : s.vm.findClass R_Desk = some m.cls := findClass_of_methodNamed B.named
  have hg := fun (w : Cond) (h : w ∈ gw) => hts w (List.mem_cons_of_mem _ h)
  have hno : ∀ {pc : Nat}, ∀ x ∈ c.exceptionTable.toList, covers x pc = false := rd_noex (B.noHandlers (hts _ List.mem_cons_self))
  have hlocks := B.notSynchronized
  subst hsz
  have hD := hD0.self (sz := s.heap.size)
  generalize hAe : va_A (wd_Desk_parse kA a0 a1 a2 a3 a4 a5 a6 a7 a8 a9 a10 a11 v0_0 v0_4 v0_6 v0_7 v1_2 v1_3 v1_4 v1_5 v1_6 v3_0 v3_4 v4_1 x3_3 x4_2 f5 f6 f7 f8 f9 f10 f11) s.heap.size = A at hD hSt ⊢
  have hA : ∀ q : Nat, s.heap.size ≤ q → A q := fun q h => by rw [← hAe]; exact Or.inr h
  have hS : va_S A s.heap s.heap [] := va_S.rf
  have hl := lv_entry ([.ref a0]) (n := 1) (Nat.le_of_ble_eq_true rfl)
  rw [lg_entry_eq]
  generalize (lg_sl ([.ref a0]) ++ List.replicate (1 - (lg_sl ([.ref a0])).length) Slot.unset).toArray = ls at hl ⊢
  have hl : lv_has ls 1 [(0, .ref a0)] := hl
  unfold S_Desk_parse at hF
  refine lv_aload_n hx hb d_Desk_parse_0 rfl (lv_at hl 0 rfl) ?_
  refine va_get (D := (dC, dI)) (ci := 8) (v := .ref a3) (C := R_Desk) (T := F_Desk) (N := 8) hx hb hg iw_Desk hown hK hP 0 rfl rfl 2 (by decide) (hg _ gw_387) (fun _ h9 => h9) rfl d_Desk_parse_1 ?_
  obtain ⟨u_1, hS_1, hF⟩ := rd_bind hF
  have hPc := hP.sub (ws' := (wd_States_stateCount kA a3 v3_0 (.ref a10) (.ref a9) v3_4 x3_3)) [3] rfl
  have hDc := hD.sub (ws' := (wd_States_stateCount kA a3 v3_0 (.ref a10) (.ref a9) v3_4 x3_3)) [3] (by decide) rfl
  have hFc := va_free (wc := (wd_States_stateCount kA a3 v3_0 (.ref a10) (.ref a9) v3_4 x3_3)) hD hS hA [3] rfl
  refine va_calli (va_runV (As := []) (rest := []) ⟨hx, hb, hml, hown, hts⟩ (c_States_stateCount l dC dI kA s.heap.size a3 v3_0 (.ref a10) (.ref a9) v3_4 x3_3 u_1 hS_1) (cwV 0 hts (gw_V gw_517 gw_518 gw_519 gw_91 gw_520) rfl rfl rfl (by decide +kernel) ⟨Nat.le_of_ble_eq_true rfl, Nat.le_of_ble_eq_true rfl⟩) ⟨fun a U g mk q => by obtain ⟨q0, q1, qP, qK, qD⟩ := q; exact ⟨q0, q1, qP, va_K.moved (u := U) (U := U.calling g mk a) (Vm.Alike.refl U.vm) qK, qD⟩, va_recv hK hP (ci := 6) (q0 := 3) rfl rfl, fun U hU hW => ⟨rfl, by rw [hU], by rw [hU]; exact hPc, va_K.moved hW.alike hK, hDc.weaken (fun _ _ _ _ => trivial)⟩⟩ rfl rfl hl.1 rfl (lv_room (Nat.le_of_ble_eq_true rfl)) d_Desk_parse_4 ⟨Nat.zero_le _, Nat.zero_le _⟩) hS (fun q _ h => hFc q h) hFc (fun r1 u t H1 locs ht hvm hw hB hz1 hk1 hS => ?_)
  rw [show r1 = _ from hw]
  obtain ⟨hP1, hK1, hD1⟩ := hB
  rw [ht] at hP1
  obtain ⟨hP, hD⟩ := va_join (wr := [(a0, .inr (8, [v0_0, .ref a1, .ref a3, .ref a4, v0_4, .ref a2, v0_6, v0_7])), (a1, .inr (2, [.ref a5, .ref a6, v1_2, v1_3, v1_4, v1_5, v1_6])), (a2, .inr (5, [.ref a1, .ref a3, .ref a7, .ref a8])), (a4, .inr (7, [.ref a11, v4_1, .int x4_2])), (a5, .inl (kA 0, 12, .inl f5)), (a6, .inl (kA 0, 12, .inl f6)), (a7, .inl (kA 0, 4096, .inl f7)), (a8, .inl (kA 0, 8, .inl f8)), (a9, .inl (kA 0, 280, .inl f9)), (a10, .inl (kA 0, 480, .inl f10)), (a11, .inl (kA 0, 16, .inl f11))]) (w1 := (wd_States_stateCount kA a3 v3_0 (.ref a10) (.ref a9) v3_4 x3_3)) hP hD [3] [0, 1, 2, 4, 5, 6, 7, 8, 9, 10, 11] rfl rfl (by decide) (by decide) hk1 hFc hP1 hD1
  have hP := hP.sub (ws' := (wd_Desk_parse kA a0 a1 a2 a3 a4 a5 a6 a7 a8 a9 a10 a11 v0_0 v0_4 v0_6 v0_7 v1_2 v1_3 v1_4 v1_5 v1_6 v3_0 v3_4 v4_1 x3_3 x4_2 f5 f6 f7 f8 f9 f10 f11)) [0, 1, 2, 11, 3, 4, 5, 6, 7, 8, 9, 10] rfl
  have hD := hD.sub (ws' := (wd_Desk_parse kA a0 a1 a2 a3 a4 a5 a6 a7 a8 a9 a10 a11 v0_0 v0_4 v0_6 v0_7 v1_2 v1_3 v1_4 v1_5 v1_6 v3_0 v3_4 v4_1 x3_3 x4_2 f5 f6 f7 f8 f9 f10 f11)) [0, 1, 2, 11, 3, 4, 5, 6, 7, 8, 9, 10] (by decide) rfl
  clear hPc hDc hFc hP1 hK1 hD1
  generalize H1 = H at hP hS ⊢
  refine lv_if_ne (tgt := 20) hx hb d_Desk_parse_7 (by decide) (fun c_2 => ?_) (fun c_2 => ?_)
  · rw [if_pos c_2] at hF
    refine lv_aload_n hx hb d_Desk_parse_20 rfl (lv_at hl 0 rfl) ?_
    refine va_get (D := (dC, dI)) (ci := 8) (v := .ref a2) (C := R_Desk) (T := F_Desk) (N := 8) hx hb hg iw_Desk hown hK hP 0 rfl rfl 5 (by decide) (hg _ gw_404) (fun _ h9 => h9) rfl d_Desk_parse_21 ?_
    refine lv_aload_n hx hb d_Desk_parse_24 rfl (lv_at hl 0 rfl) ?_
    refine va_get (D := (dC, dI)) (ci := 8) (v := .ref a4) (C := R_Desk) (T := F_Desk) (N := 8) hx hb hg iw_Desk hown hK hP 0 rfl rfl 3 (by decide) (hg _ gw_392) (fun _ h9 => h9) rfl d_Desk_parse_25 ?_
    obtain ⟨u_3, hS_3, hF⟩ := rd_bind hF
    have hPc := hP.sub (ws' := (wd_Stacks_wrongPlace kA a2 a7 a1 a8 a3 a5 a6 a9 a10 a4 a11 v1_2 v1_3 v1_4 v1_5 v1_6 v3_0 v3_4 v4_1 f7 f8 x3_3 f5 f6 f9 f10 x4_2 f11)) [2, 7, 1, 8, 3, 5, 6, 9, 10, 4, 11] rfl
    have hDc := hD.sub (ws' := (wd_Stacks_wrongPlace kA a2 a7 a1 a8 a3 a5 a6 a9 a10 a4 a11 v1_2 v1_3 v1_4 v1_5 v1_6 v3_0 v3_4 v4_1 f7 f8 x3_3 f5 f6 f9 f10 x4_2 f11)) [2, 7, 1, 8, 3, 5, 6, 9, 10, 4, 11] (by decide) rfl
    have hFc := va_free (wc := (wd_Stacks_wrongPlace kA a2 a7 a1 a8 a3 a5 a6 a9 a10 a4 a11 v1_2 v1_3 v1_4 v1_5 v1_6 v3_0 v3_4 v4_1 f7 f8 x3_3 f5 f6 f9 f10 x4_2 f11)) hD hS hA [2, 7, 1, 8, 3, 5, 6, 9, 10, 4, 11] rfl
    refine va_calli (va_runV (As := [.ref a4]) (rest := []) ⟨hx, hb, hml, hown, hts⟩ (c_Stacks_wrongPlace l dC dI kA H.size a2 a7 a1 a8 a3 a5 a6 a9 a10 a4 a11 v1_2 v1_3 v1_4 v1_5 v1_6 v3_0 v3_4 v4_1 f7 f8 x3_3 f5 f6 f9 f10 x4_2 f11 u_3.1 u_3.2.1 u_3.2.2 hS_3) (cwV 1 hts (gw_V gw_590 gw_180 gw_181 gw_85 gw_182) rfl rfl rfl (by decide +kernel) ⟨Nat.le_of_ble_eq_true rfl, Nat.le_of_ble_eq_true rfl⟩) ⟨fun a U g mk q => by obtain ⟨q0, q1, qP, qK, qD⟩ := q; exact ⟨q0, q1, qP, va_K.moved (u := U) (U := U.calling g mk a) (Vm.Alike.refl U.vm) qK, qD⟩, va_recv hK hP (ci := 5) (q0 := 2) rfl rfl, fun U hU hW => ⟨rfl, by rw [hU], by rw [hU]; exact hPc, va_K.moved hW.alike hK, hDc.weaken (fun _ _ _ _ => trivial)⟩⟩ rfl rfl hl.1 rfl (lv_room (Nat.le_of_ble_eq_true rfl)) d_Desk_parse_28 ⟨Nat.zero_le _, Nat.zero_le _⟩) hS (fun q _ h => hFc q h) hFc (fun r1 u t H1 locs ht hvm hw hB hz1 hk1 hS => ?_)
    rw [show r1 = _ from hw]
    obtain ⟨hP1, hK1, hD1⟩ := hB
    rw [ht] at hP1
    obtain ⟨hP, hD⟩ := va_join (wr := [(a0, .inr (8, [v0_0, .ref a1, .ref a3, .ref a4, v0_4, .ref a2, v0_6, v0_7]))]) (w1 := (wd_Stacks_wrongPlace kA a2 a7 a1 a8 a3 a5 a6 a9 a10 a4 a11 v1_2 v1_3 v1_4 v1_5 v1_6 v3_0 v3_4 v4_1 u_3.2.1 u_3.2.2 x3_3 f5 f6 f9 f10 x4_2 f11)) hP hD [2, 7, 1, 8, 3, 5, 6, 9, 10, 4, 11] [0] rfl rfl (by decide) (by decide) hk1 hFc hP1 hD1
    have hP := hP.sub (ws' := (wd_Desk_parse kA a0 a1 a2 a3 a4 a5 a6 a7 a8 a9 a10 a11 v0_0 v0_4 v0_6 v0_7 v1_2 v1_3 v1_4 v1_5 v1_6 v3_0 v3_4 v4_1 x3_3 x4_2 f5 f6 u_3.2.1 u_3.2.2 f9 f10 f11)) [0, 3, 1, 5, 10, 6, 7, 2, 4, 8, 9, 11] rfl
    have hD := hD.sub (ws' := (wd_Desk_parse kA a0 a1 a2 a3 a4 a5 a6 a7 a8 a9 a10 a11 v0_0 v0_4 v0_6 v0_7 v1_2 v1_3 v1_4 v1_5 v1_6 v3_0 v3_4 v4_1 x3_3 x4_2 f5 f6 u_3.2.1 u_3.2.2 f9 f10 f11)) [0, 3, 1, 5, 10, 6, 7, 2, 4, 8, 9, 11] (by decide) rfl
    clear hPc hDc hFc hP1 hK1 hD1
    generalize H1 = H at hP hS ⊢
    have e0 := Option.some.inj hF
    have q0 := Prod.mk.inj e0
    have q1 := Prod.mk.inj q0.2
    have q2 := Prod.mk.inj q1.2
    refine W.widen (k := 1) (n := 6) (Nat.zero_le _) (Nat.zero_le _) ?_
    refine rd_mono (rd_back (Qc := va_Qi (fun (r1 : Int32) (_ : Unit) => r1 = r) (fun _ t => va_P (dC, dI) classes (wd_Desk_parse kA a0 a1 a2 a3 a4 a5 a6 a7 a8 a9 a10 a11 v0_0 v0_4 v0_6 v0_7 v1_2 v1_3 v1_4 v1_5 v1_6 v3_0 v3_4 v4_1 x3_3 x4_2 f5 f6 of7 of8 f9 f10 f11) t.heap ∧ va_K (dC, dI) classes (tys_ kA) t ∧ va_D A (wd_Desk_parse kA a0 a1 a2 a3 a4 a5 a6 a7 a8 a9 a10 a11 v0_0 v0_4 v0_6 v0_7 v1_2 v1_3 v1_4 v1_5 v1_6 v3_0 v3_4 v4_1 x3_3 x4_2 f5 f6 of7 of8 f9 f10 f11)) A) (fun v t q => rd_retx q0.1 q)) ?_
    exact W.iret (v := u_3.1) hx hb hr (fun t ht hW => ⟨⟨u_3.1, (), rfl, q1.1, by rw [ht, ← q2.1, ← q2.2]; exact hP, va_K.moved hW.alike hK, (by rw [← q2.1, ← q2.2]; exact hD)⟩, hS.F ht⟩) hS.2.2 d_Desk_parse_31 hlocks
  · rw [if_neg (fun z => z c_2)] at hF
    have e0 := Option.some.inj hF
    have q0 := Prod.mk.inj e0
    have q1 := Prod.mk.inj q0.2
    have q2 := Prod.mk.inj q1.2
    refine rd_throw (own := R_Desk) (cls := xS) (text := "nothing is compiled") (Y0 := xrt_) (names := xnm_) (ix := 7) (bx := rd_bx 7) (ik := 95) (is := 138) (ic := 99) (sa := sa 138) (rest := []) hx hb hlt rd_ok7 hown (by decide +kernel) (by decide +kernel) (by decide +kernel) (rd_site hg hX hSt hS gw_551 gw_422 (by decide +kernel) (by simp [xs_])) (hl.1.trans hml.symm) d_Desk_parse_10 d_Desk_parse_13 d_Desk_parse_14 d_Desk_parse_16 d_Desk_parse_19 hno (Nat.le_of_ble_eq_true rfl) (Nat.le_of_ble_eq_true rfl) (Nat.le_of_ble_eq_true rfl) (Nat.le_of_ble_eq_true rfl) hlocks (fun t ht hz hq => ?_) hS.2.2 (Nat.le_refl _) (Nat.le_refl _)
    have hT := rd_thrown hP hD hK hS ht hz hq
    exact ⟨by rw [← q0.1]; decide +kernel, by rw [← q2.1, ← q2.2]; exact hT⟩
-- ===== RepairDesk.reach(I)I
abbrev wd_Desk_reach (kA : Nat → ClassId) (a0 a1 a2 : Nat) (v0_0 v0_1 v0_2 v0_3 v0_4 v0_5 v0_7 v1_0 v1_1 v1_4 v1_5 : Value) (x1_3 : Int32) (f2 : (Nat → Int32)) : va_W := [(a0, .inr (8, [v0_0, v0_1, v0_2, v0_3, v0_4, v0_5, .ref a1, v0_7])), (a1, .inr (1, [v1_0, v1_1, .ref a2, .int x1_3, v1_4, v1_5])), (a2, .inl (kA 0, 40, .inl f2))]
abbrev rm_Desk_reach : Room := { frames := 6, cells := 1, slots := 6, locals := 90 }
def S_Desk_reach (p1 : Int32) (x1_3 : Int32) (f2 : (Nat → Int32)) : Option (Int32 × Int32) := ((S_Finds_has p1 x1_3).bind fun u_1 => (if ¬ u_1 = 0 then ((S_Finds_reachOf p1 x1_3 f2).bind fun u_3 => (some (0, u_3))) else (some (4, 0))))
set_option maxHeartbeats 4000000 in
set_option maxRecDepth 100000 in
theorem c_Desk_reach (l : Launch) (hlt : l.stackTraces = false) (dC : Nat → ClassId) (dI : Nat → Nat → Nat) (kA : Nat → ClassId) (sa : Nat → Nat) (sz : Nat) (a0 a1 a2 : Nat) (v0_0 v0_1 v0_2 v0_3 v0_4 v0_5 v0_7 v1_0 v1_1 v1_4 v1_5 : Value) (p1 : Int32) (x1_3 : Int32) (f2 : (Nat → Int32)) (k r : Int32) (hF : S_Desk_reach p1 x1_3 f2 = some (k, r)) : rd_Met l y_Desk_reach w_Desk_reach rm_Desk_reach (va_Pc [.ref a0, .int p1] (fun U => U.heap.size = sz ∧ va_P (dC, dI) classes (wd_Desk_reach kA a0 a1 a2 v0_0 v0_1 v0_2 v0_3 v0_4 v0_5 v0_7 v1_0 v1_1 v1_4 v1_5 x1_3 f2) U.heap ∧ va_K (dC, dI) classes (tys_ kA) U ∧ va_D (fun _ => True) (wd_Desk_reach kA a0 a1 a2 v0_0 v0_1 v0_2 v0_3 v0_4 v0_5 v0_7 v1_0 v1_1 v1_4 v1_5 x1_3 f2) ∧ rd_X sa U ∧ rd_St (va_A (wd_Desk_reach kA a0 a1 a2 v0_0 v0_1 v0_2 v0_3 v0_4 v0_5 v0_7 v1_0 v1_1 v1_4 v1_5 x1_3 f2) sz) U U.heap)) (fun st v t => k = 0 ∧ v = some (.int r) ∧ (va_P (dC, dI) classes (wd_Desk_reach kA a0 a1 a2 v0_0 v0_1 v0_2 v0_3 v0_4 v0_5 v0_7 v1_0 v1_1 v1_4 v1_5 x1_3 f2) t.heap ∧ va_K (dC, dI) classes (tys_ kA) t ∧ va_D (va_A (wd_Desk_reach kA a0 a1 a2 v0_0 v0_1 v0_2 v0_3 v0_4 v0_5 v0_7 v1_0 v1_1 v1_4 v1_5 x1_3 f2) sz) (wd_Desk_reach kA a0 a1 a2 v0_0 v0_1 v0_2 v0_3 v0_4 v0_5 v0_7 v1_0 v1_1 v1_4 v1_5 x1_3 f2)) ∧ va_F (va_A (wd_Desk_reach kA a0 a1 a2 v0_0 v0_1 v0_2 v0_3 v0_4 v0_5 v0_7 v1_0 v1_1 v1_4 v1_5 x1_3 f2) sz) st t) (fun st E t => (k, E) ∈ xk_ ∧ (va_P (dC, dI) classes (wd_Desk_reach kA a0 a1 a2 v0_0 v0_1 v0_2 v0_3 v0_4 v0_5 v0_7 v1_0 v1_1 v1_4 v1_5 x1_3 f2) t.heap ∧ va_K (dC, dI) classes (tys_ kA) t ∧ va_D (va_A (wd_Desk_reach kA a0 a1 a2 v0_0 v0_1 v0_2 v0_3 v0_4 v0_5 v0_7 v1_0 v1_1 v1_4 v1_5 x1_3 f2) sz) (wd_Desk_reach kA a0 a1 a2 v0_0 v0_1 v0_2 v0_3 v0_4 v0_5 v0_7 v1_0 v1_1 v1_4 v1_5 x1_3 f2)) ∧ va_F (va_A (wd_Desk_reach kA a0 a1 a2 v0_0 v0_1 v0_2 v0_3 v0_4 v0_5 v0_7 v1_0 v1_1 v1_4 v1_5 x1_3 f2) sz) st t) 1 6 (va_A (wd_Desk_reach kA a0 a1 a2 v0_0 v0_1 v0_2 v0_3 v0_4 v0_5 v0_7 v1_0 v1_1 v1_4 v1_5 x1_3 f2) sz) := by
  refine rd_ofW (cc := b_Desk_reach) (maxL := 2) (ret := some .int) (by decide) rfl ?_
  intro p e s m args below meth c s₁ B hml hv
  obtain ⟨rfl, hsz, hP, hK, hD0, hX, hSt⟩ := hv
  have hx := B.exec
  have hb := B.bytes
  have hr := B.returns
  have hts := atoms_spec (ws := w_Desk_reach) B.pre
  have hown : s.vm.findClass R_Desk = some m.cls := findClass_of_methodNamed B.named
  have hg := fun (w : Cond) (h : w ∈ gw) => hts w (List.mem_cons_of_mem _ h)
  have hno : ∀ {pc : Nat}, ∀ x ∈ c.exceptionTable.toList, covers x pc = false := rd_noex (B.noHandlers (hts _ List.mem_cons_self))
  have hlocks := B.notSynchronized
  subst hsz
  have hD := hD0.self (sz := s.heap.size)
  generalize hAe : va_A (wd_Desk_reach kA a0 a1 a2 v0_0 v0_1 v0_2 v0_3 v0_4 v0_5 v0_7 v1_0 v1_1 v1_4 v1_5 x1_3 f2) s.heap.size = A at hD hSt ⊢
  have hA : ∀ q : Nat, s.heap.size ≤ q → A q := fun q h => by rw [← hAe]; exact Or.inr h
  have hS : va_S A s.heap s.heap [] := va_S.rf
  have hl := lv_entry ([.ref a0, .int p1]) (n := 2) (Nat.le_of_ble_eq_true rfl)
  rw [lg_entry_eq]
  generalize (lg_sl ([.ref a0, .int p1]) ++ List.replicate (2 - (lg_sl ([.ref a0, .int p1])).length) Slot.unset).toArray = ls at hl ⊢
  have hl : lv_has ls 2 [(0, .ref a0), (1, .int p1)] := hl
  unfold S_Desk_reach at hF
  refine lv_aload_n hx hb d_Desk_reach_0 rfl (lv_at hl 0 rfl) ?_
  refine va_get (D := (dC, dI)) (ci := 8) (v := .ref a1) (C := R_Desk) (T := F_Desk) (N := 8) hx hb hg iw_Desk hown hK hP 0 rfl rfl 6 (by decide) (hg _ gw_409) (fun _ h9 => h9) rfl d_Desk_reach_1 ?_
  refine lv_iload_n hx hb d_Desk_reach_4 rfl (lv_at hl 1 rfl) ?_
  obtain ⟨u_1, hS_1, hF⟩ := rd_bind hF
  have hPc := hP.sub (ws' := (wd_Finds_has kA a1 v1_0 v1_1 (.ref a2) v1_4 v1_5 x1_3)) [1] rfl
  have hDc := hD.sub (ws' := (wd_Finds_has kA a1 v1_0 v1_1 (.ref a2) v1_4 v1_5 x1_3)) [1] (by decide) rfl
  have hFc := va_free (wc := (wd_Finds_has kA a1 v1_0 v1_1 (.ref a2) v1_4 v1_5 x1_3)) hD hS hA [1] rfl
  refine va_calli (va_runV (As := [.int p1]) (rest := []) ⟨hx, hb, hml, hown, hts⟩ (c_Finds_has l dC dI kA s.heap.size a1 v1_0 v1_1 (.ref a2) v1_4 v1_5 p1 x1_3 u_1 hS_1) (cwV 1 hts (gw_V gw_609 gw_9 gw_10 gw_11 gw_12) rfl rfl rfl (by decide +kernel) ⟨Nat.le_of_ble_eq_true rfl, Nat.le_of_ble_eq_true rfl⟩) ⟨fun a U g mk q => by obtain ⟨q0, q1, qP, qK, qD⟩ := q; exact ⟨q0, q1, qP, va_K.moved (u := U) (U := U.calling g mk a) (Vm.Alike.refl U.vm) qK, qD⟩, va_recv hK hP (ci := 1) (q0 := 1) rfl rfl, fun U hU hW => ⟨rfl, by rw [hU], by rw [hU]; exact hPc, va_K.moved hW.alike hK, hDc.weaken (fun _ _ _ _ => trivial)⟩⟩ rfl rfl hl.1 rfl (lv_room (Nat.le_of_ble_eq_true rfl)) d_Desk_reach_5 ⟨Nat.zero_le _, Nat.zero_le _⟩) hS (fun q _ h => hFc q h) hFc (fun r1 u t H1 locs ht hvm hw hB hz1 hk1 hS => ?_)
  rw [show r1 = _ from hw]
  obtain ⟨hP1, hK1, hD1⟩ := hB
  rw [ht] at hP1
  obtain ⟨hP, hD⟩ := va_join (wr := [(a0, .inr (8, [v0_0, v0_1, v0_2, v0_3, v0_4, v0_5, .ref a1, v0_7])), (a2, .inl (kA 0, 40, .inl f2))]) (w1 := (wd_Finds_has kA a1 v1_0 v1_1 (.ref a2) v1_4 v1_5 x1_3)) hP hD [1] [0, 2] rfl rfl (by decide) (by decide) hk1 hFc hP1 hD1
  have hP := hP.sub (ws' := (wd_Desk_reach kA a0 a1 a2 v0_0 v0_1 v0_2 v0_3 v0_4 v0_5 v0_7 v1_0 v1_1 v1_4 v1_5 x1_3 f2)) [0, 2, 1] rfl
  have hD := hD.sub (ws' := (wd_Desk_reach kA a0 a1 a2 v0_0 v0_1 v0_2 v0_3 v0_4 v0_5 v0_7 v1_0 v1_1 v1_4 v1_5 x1_3 f2)) [0, 2, 1] (by decide) rfl
  clear hPc hDc hFc hP1 hK1 hD1
  generalize H1 = H at hP hS ⊢
  refine lv_if_ne (tgt := 21) hx hb d_Desk_reach_8 (by decide) (fun c_2 => ?_) (fun c_2 => ?_)
  · rw [if_pos c_2] at hF
    refine lv_aload_n hx hb d_Desk_reach_21 rfl (lv_at hl 0 rfl) ?_
    refine va_get (D := (dC, dI)) (ci := 8) (v := .ref a1) (C := R_Desk) (T := F_Desk) (N := 8) hx hb hg iw_Desk hown hK hP 0 rfl rfl 6 (by decide) (hg _ gw_409) (fun _ h9 => h9) rfl d_Desk_reach_22 ?_
    refine lv_iload_n hx hb d_Desk_reach_25 rfl (lv_at hl 1 rfl) ?_
    obtain ⟨u_3, hS_3, hF⟩ := rd_bind hF
    have hPc := hP.sub (ws' := (wd_Finds_reachOf kA a1 a2 v1_0 v1_1 v1_4 v1_5 x1_3 f2)) [1, 2] rfl
    have hDc := hD.sub (ws' := (wd_Finds_reachOf kA a1 a2 v1_0 v1_1 v1_4 v1_5 x1_3 f2)) [1, 2] (by decide) rfl
    have hFc := va_free (wc := (wd_Finds_reachOf kA a1 a2 v1_0 v1_1 v1_4 v1_5 x1_3 f2)) hD hS hA [1, 2] rfl
    refine va_calli (va_runV (As := [.int p1]) (rest := []) ⟨hx, hb, hml, hown, hts⟩ (c_Finds_reachOf l dC dI kA H.size a1 a2 v1_0 v1_1 v1_4 v1_5 p1 x1_3 f2 u_3 hS_3) (cwV 1 hts (gw_V gw_611 gw_612 gw_613 gw_11 gw_614) rfl rfl rfl (by decide +kernel) ⟨Nat.le_of_ble_eq_true rfl, Nat.le_of_ble_eq_true rfl⟩) ⟨fun a U g mk q => by obtain ⟨q0, q1, qP, qK, qD⟩ := q; exact ⟨q0, q1, qP, va_K.moved (u := U) (U := U.calling g mk a) (Vm.Alike.refl U.vm) qK, qD⟩, va_recv hK hP (ci := 1) (q0 := 1) rfl rfl, fun U hU hW => ⟨rfl, by rw [hU], by rw [hU]; exact hPc, va_K.moved hW.alike hK, hDc.weaken (fun _ _ _ _ => trivial)⟩⟩ rfl rfl hl.1 rfl (lv_room (Nat.le_of_ble_eq_true rfl)) d_Desk_reach_26 ⟨Nat.zero_le _, Nat.zero_le _⟩) hS (fun q _ h => hFc q h) hFc (fun r1 u t H1 locs ht hvm hw hB hz1 hk1 hS => ?_)
    rw [show r1 = _ from hw]
    obtain ⟨hP1, hK1, hD1⟩ := hB
    rw [ht] at hP1
    obtain ⟨hP, hD⟩ := va_join (wr := [(a0, .inr (8, [v0_0, v0_1, v0_2, v0_3, v0_4, v0_5, .ref a1, v0_7]))]) (w1 := (wd_Finds_reachOf kA a1 a2 v1_0 v1_1 v1_4 v1_5 x1_3 f2)) hP hD [1, 2] [0] rfl rfl (by decide) (by decide) hk1 hFc hP1 hD1
    have hP := hP.sub (ws' := (wd_Desk_reach kA a0 a1 a2 v0_0 v0_1 v0_2 v0_3 v0_4 v0_5 v0_7 v1_0 v1_1 v1_4 v1_5 x1_3 f2)) [0, 1, 2] rfl
    have hD := hD.sub (ws' := (wd_Desk_reach kA a0 a1 a2 v0_0 v0_1 v0_2 v0_3 v0_4 v0_5 v0_7 v1_0 v1_1 v1_4 v1_5 x1_3 f2)) [0, 1, 2] (by decide) rfl
    clear hPc hDc hFc hP1 hK1 hD1
    generalize H1 = H at hP hS ⊢
    have e0 := Option.some.inj hF
    have q0 := Prod.mk.inj e0
    refine W.widen (k := 1) (n := 6) (Nat.zero_le _) (Nat.zero_le _) ?_
    refine rd_mono (rd_back (Qc := va_Qi (fun (r1 : Int32) (_ : Unit) => r1 = r) (fun _ t => va_P (dC, dI) classes (wd_Desk_reach kA a0 a1 a2 v0_0 v0_1 v0_2 v0_3 v0_4 v0_5 v0_7 v1_0 v1_1 v1_4 v1_5 x1_3 f2) t.heap ∧ va_K (dC, dI) classes (tys_ kA) t ∧ va_D A (wd_Desk_reach kA a0 a1 a2 v0_0 v0_1 v0_2 v0_3 v0_4 v0_5 v0_7 v1_0 v1_1 v1_4 v1_5 x1_3 f2)) A) (fun v t q => rd_retx q0.1 q)) ?_
    exact W.iret (v := u_3) hx hb hr (fun t ht hW => ⟨⟨u_3, (), rfl, q0.2, by rw [ht]; exact hP, va_K.moved hW.alike hK, (by exact hD)⟩, hS.F ht⟩) hS.2.2 d_Desk_reach_29 hlocks
  · rw [if_neg (fun z => z c_2)] at hF
    have e0 := Option.some.inj hF
    have q0 := Prod.mk.inj e0
    refine rd_throw (own := R_Desk) (cls := xN) (text := "there is no such repair") (Y0 := xrt_) (names := xnm_) (ix := 13) (bx := rd_bx 13) (ik := 163) (is := 165) (ic := 167) (sa := sa 165) (rest := []) hx hb hlt rd_ok13 hown (by decide +kernel) (by decide +kernel) (by decide +kernel) (rd_site hg hX hSt hS gw_610 gw_424 (by decide +kernel) (by simp [xs_])) (hl.1.trans hml.symm) d_Desk_reach_11 d_Desk_reach_14 d_Desk_reach_15 d_Desk_reach_17 d_Desk_reach_20 hno (Nat.le_of_ble_eq_true rfl) (Nat.le_of_ble_eq_true rfl) (Nat.le_of_ble_eq_true rfl) (Nat.le_of_ble_eq_true rfl) hlocks (fun t ht hz hq => ?_) hS.2.2 (Nat.le_refl _) (Nat.le_refl _)
    have hT := rd_thrown hP hD hK hS ht hz hq
    exact ⟨by rw [← q0.1]; decide +kernel, by exact hT⟩
-- ===== RepairDesk.apply(I)I
abbrev wd_Desk_apply (kA : Nat → ClassId) (a0 a1 a2 a3 a4 a5 a6 : Nat) (v0_0 v0_1 v0_2 v0_4 v0_5 v0_7 v1_2 : Value) (x1_3 : Int32) (x1_4 : Int32) (x1_5 : Int32) (x2_2 : Int32) (f3 : (Nat → Int32)) (f4 : (Nat → Int32)) (f5 : (Nat → Int32)) (f6 : (Nat → Int32)) : va_W := [(a0, .inr (8, [v0_0, v0_1, v0_2, .ref a2, v0_4, v0_5, .ref a1, v0_7])), (a1, .inr (1, [.ref a4, .ref a3, v1_2, .int x1_3, .int x1_4, .int x1_5])), (a2, .inr (7, [.ref a5, .ref a6, .int x2_2])), (a3, .inl (kA 0, 40, .inl f3)), (a4, .inl (kA 0, 240, .inl f4)), (a5, .inl (kA 0, 16, .inl f5)), (a6, .inl (kA 0, 16, .inl f6))]
abbrev rm_Desk_apply : Room := { frames := 6, cells := 1, slots := 6, locals := 90 }
def S_Desk_apply (p1 : Int32) (x1_3 : Int32) (x1_4 : Int32) (x1_5 : Int32) (x2_2 : Int32) (f3 : (Nat → Int32)) (f4 : (Nat → Int32)) (f5 : (Nat → Int32)) (f6 : (Nat → Int32)) : Option (Int32 × Int32 × Int32 × Int32 × Int32 × Int32 × (Nat → Int32) × (Nat → Int32)) := ((S_Finds_has p1 x1_3).bind fun u_1 => (if ¬ u_1 = 0 then ((S_Text_size x2_2).bind fun u_3 => ((S_Finds_growthBy p1 x1_3 f3 f4).bind fun u_4 => (if (u_3 + u_4) ≤ 16 then ((S_Text_mend p1 x2_2 f5 f6 x1_3 x1_5 f3 f4).bind fun u_6 => ((S_Finds_forget x1_3 x1_4 x1_5).bind fun u_7 => ((S_Text_size u_6.1).bind fun u_8 => (some (0, u_8, u_7.1, u_7.2.1, u_7.2.2, u_6.1, u_6.2.1, u_6.2.2))))) else (some (2, 0, x1_3, x1_4, x1_5, x2_2, f5, f6))))) else (some (4, 0, x1_3, x1_4, x1_5, x2_2, f5, f6))))
set_option maxHeartbeats 4000000 in
set_option maxRecDepth 100000 in
theorem c_Desk_apply (l : Launch) (hlt : l.stackTraces = false) (dC : Nat → ClassId) (dI : Nat → Nat → Nat) (kA : Nat → ClassId) (sa : Nat → Nat) (sz : Nat) (a0 a1 a2 a3 a4 a5 a6 : Nat) (v0_0 v0_1 v0_2 v0_4 v0_5 v0_7 v1_2 : Value) (p1 : Int32) (x1_3 : Int32) (x1_4 : Int32) (x1_5 : Int32) (x2_2 : Int32) (f3 : (Nat → Int32)) (f4 : (Nat → Int32)) (f5 : (Nat → Int32)) (f6 : (Nat → Int32)) (k r : Int32) (ox1_3 : Int32) (ox1_4 : Int32) (ox1_5 : Int32) (ox2_2 : Int32) (of5 : (Nat → Int32)) (of6 : (Nat → Int32)) (hF : S_Desk_apply p1 x1_3 x1_4 x1_5 x2_2 f3 f4 f5 f6 = some (k, r, ox1_3, ox1_4, ox1_5, ox2_2, of5, of6)) : rd_Met l y_Desk_apply w_Desk_apply rm_Desk_apply (va_Pc [.ref a0, .int p1] (fun U => U.heap.size = sz ∧ va_P (dC, dI) classes (wd_Desk_apply kA a0 a1 a2 a3 a4 a5 a6 v0_0 v0_1 v0_2 v0_4 v0_5 v0_7 v1_2 x1_3 x1_4 x1_5 x2_2 f3 f4 f5 f6) U.heap ∧ va_K (dC, dI) classes (tys_ kA) U ∧ va_D (fun _ => True) (wd_Desk_apply kA a0 a1 a2 a3 a4 a5 a6 v0_0 v0_1 v0_2 v0_4 v0_5 v0_7 v1_2 x1_3 x1_4 x1_5 x2_2 f3 f4 f5 f6) ∧ rd_X sa U ∧ rd_St (va_A (wd_Desk_apply kA a0 a1 a2 a3 a4 a5 a6 v0_0 v0_1 v0_2 v0_4 v0_5 v0_7 v1_2 x1_3 x1_4 x1_5 x2_2 f3 f4 f5 f6) sz) U U.heap)) (fun st v t => k = 0 ∧ v = some (.int r) ∧ (va_P (dC, dI) classes (wd_Desk_apply kA a0 a1 a2 a3 a4 a5 a6 v0_0 v0_1 v0_2 v0_4 v0_5 v0_7 v1_2 ox1_3 ox1_4 ox1_5 ox2_2 f3 f4 of5 of6) t.heap ∧ va_K (dC, dI) classes (tys_ kA) t ∧ va_D (va_A (wd_Desk_apply kA a0 a1 a2 a3 a4 a5 a6 v0_0 v0_1 v0_2 v0_4 v0_5 v0_7 v1_2 x1_3 x1_4 x1_5 x2_2 f3 f4 f5 f6) sz) (wd_Desk_apply kA a0 a1 a2 a3 a4 a5 a6 v0_0 v0_1 v0_2 v0_4 v0_5 v0_7 v1_2 ox1_3 ox1_4 ox1_5 ox2_2 f3 f4 of5 of6)) ∧ va_F (va_A (wd_Desk_apply kA a0 a1 a2 a3 a4 a5 a6 v0_0 v0_1 v0_2 v0_4 v0_5 v0_7 v1_2 x1_3 x1_4 x1_5 x2_2 f3 f4 f5 f6) sz) st t) (fun st E t => (k, E) ∈ xk_ ∧ (va_P (dC, dI) classes (wd_Desk_apply kA a0 a1 a2 a3 a4 a5 a6 v0_0 v0_1 v0_2 v0_4 v0_5 v0_7 v1_2 ox1_3 ox1_4 ox1_5 ox2_2 f3 f4 of5 of6) t.heap ∧ va_K (dC, dI) classes (tys_ kA) t ∧ va_D (va_A (wd_Desk_apply kA a0 a1 a2 a3 a4 a5 a6 v0_0 v0_1 v0_2 v0_4 v0_5 v0_7 v1_2 x1_3 x1_4 x1_5 x2_2 f3 f4 f5 f6) sz) (wd_Desk_apply kA a0 a1 a2 a3 a4 a5 a6 v0_0 v0_1 v0_2 v0_4 v0_5 v0_7 v1_2 ox1_3 ox1_4 ox1_5 ox2_2 f3 f4 of5 of6)) ∧ va_F (va_A (wd_Desk_apply kA a0 a1 a2 a3 a4 a5 a6 v0_0 v0_1 v0_2 v0_4 v0_5 v0_7 v1_2 x1_3 x1_4 x1_5 x2_2 f3 f4 f5 f6) sz) st t) 1 6 (va_A (wd_Desk_apply kA a0 a1 a2 a3 a4 a5 a6 v0_0 v0_1 v0_2 v0_4 v0_5 v0_7 v1_2 x1_3 x1_4 x1_5 x2_2 f3 f4 f5 f6) sz) := by
  refine rd_ofW (cc := b_Desk_apply) (maxL := 2) (ret := some .int) (by decide) rfl ?_
  intro p e s m args below meth c s₁ B hml hv
  obtain ⟨rfl, hsz, hP, hK, hD0, hX, hSt⟩ := hv
  have hx := B.exec
  have hb := B.bytes
  have hr := B.returns
  have hts := atoms_spec (ws := w_Desk_apply) B.pre
  have hown : s.vm.findClass R_Desk = some m.cls := findClass_of_methodNamed B.named
  have hg := fun (w : Cond) (h : w ∈ gw) => hts w (List.mem_cons_of_mem _ h)
  have hno : ∀ {pc : Nat}, ∀ x ∈ c.exceptionTable.toList, covers x pc = false := rd_noex (B.noHandlers (hts _ List.mem_cons_self))
  have hlocks := B.notSynchronized
  subst hsz
  have hD := hD0.self (sz := s.heap.size)
  generalize hAe : va_A (wd_Desk_apply kA a0 a1 a2 a3 a4 a5 a6 v0_0 v0_1 v0_2 v0_4 v0_5 v0_7 v1_2 x1_3 x1_4 x1_5 x2_2 f3 f4 f5 f6) s.heap.size = A at hD hSt ⊢
  have hA : ∀ q : Nat, s.heap.size ≤ q → A q := fun q h => by rw [← hAe]; exact Or.inr h
  have hS : va_S A s.heap s.heap [] := va_S.rf
  have hl := lv_entry ([.ref a0, .int p1]) (n := 2) (Nat.le_of_ble_eq_true rfl)
  rw [lg_entry_eq]
  generalize (lg_sl ([.ref a0, .int p1]) ++ List.replicate (2 - (lg_sl ([.ref a0, .int p1])).length) Slot.unset).toArray = ls at hl ⊢
  have hl : lv_has ls 2 [(0, .ref a0), (1, .int p1)] := hl
  unfold S_Desk_apply at hF
  refine lv_aload_n hx hb d_Desk_apply_0 rfl (lv_at hl 0 rfl) ?_
  refine va_get (D := (dC, dI)) (ci := 8) (v := .ref a1) (C := R_Desk) (T := F_Desk) (N := 8) hx hb hg iw_Desk hown hK hP 0 rfl rfl 6 (by decide) (hg _ gw_409) (fun _ h9 => h9) rfl d_Desk_apply_1 ?_
  refine lv_iload_n hx hb d_Desk_apply_4 rfl (lv_at hl 1 rfl) ?_
  obtain ⟨u_1, hS_1, hF⟩ := rd_bind hF
  have hPc := hP.sub (ws' := (wd_Finds_has kA a1 (.ref a4) (.ref a3) v1_2 (.int x1_4) (.int x1_5) x1_3)) [1] rfl
  have hDc := hD.sub (ws' := (wd_Finds_has kA a1 (.ref a4) (.ref a3) v1_2 (.int x1_4) (.int x1_5) x1_3)) [1] (by decide) rfl
  have hFc := va_free (wc := (wd_Finds_has kA a1 (.ref a4) (.ref a3) v1_2 (.int x1_4) (.int x1_5) x1_3)) hD hS hA [1] rfl
  refine va_calli (va_runV (As := [.int p1]) (rest := []) ⟨hx, hb, hml, hown, hts⟩ (c_Finds_has l dC dI kA s.heap.size a1 (.ref a4) (.ref a3) v1_2 (.int x1_4) (.int x1_5) p1 x1_3 u_1 hS_1) (cwV 1 hts (gw_V gw_609 gw_9 gw_10 gw_11 gw_12) rfl rfl rfl (by decide +kernel) ⟨Nat.le_of_ble_eq_true rfl, Nat.le_of_ble_eq_true rfl⟩) ⟨fun a U g mk q => by obtain ⟨q0, q1, qP, qK, qD⟩ := q; exact ⟨q0, q1, qP, va_K.moved (u := U) (U := U.calling g mk a) (Vm.Alike.refl U.vm) qK, qD⟩, va_recv hK hP (ci := 1) (q0 := 1) rfl rfl, fun U hU hW => ⟨rfl, by rw [hU], by rw [hU]; exact hPc, va_K.moved hW.alike hK, hDc.weaken (fun _ _ _ _ => trivial)⟩⟩ rfl rfl hl.1 rfl (lv_room (Nat.le_of_ble_eq_true rfl)) d_Desk_apply_5 ⟨Nat.zero_le _, Nat.zero_le _⟩) hS (fun q _ h => hFc q h) hFc (fun r1 u t H1 locs ht hvm hw hB hz1 hk1 hS => ?_)
  rw [show r1 = _ from hw]
  obtain ⟨hP1, hK1, hD1⟩ := hB
  rw [ht] at hP1
  obtain ⟨hP, hD⟩ := va_join (wr := [(a0, .inr (8, [v0_0, v0_1, v0_2, .ref a2, v0_4, v0_5, .ref a1, v0_7])), (a2, .inr (7, [.ref a5, .ref a6, .int x2_2])), (a3, .inl (kA 0, 40, .inl f3)), (a4, .inl (kA 0, 240, .inl f4)), (a5, .inl (kA 0, 16, .inl f5)), (a6, .inl (kA 0, 16, .inl f6))]) (w1 := (wd_Finds_has kA a1 (.ref a4) (.ref a3) v1_2 (.int x1_4) (.int x1_5) x1_3)) hP hD [1] [0, 2, 3, 4, 5, 6] rfl rfl (by decide) (by decide) hk1 hFc hP1 hD1
  have hP := hP.sub (ws' := (wd_Desk_apply kA a0 a1 a2 a3 a4 a5 a6 v0_0 v0_1 v0_2 v0_4 v0_5 v0_7 v1_2 x1_3 x1_4 x1_5 x2_2 f3 f4 f5 f6)) [0, 6, 1, 2, 3, 4, 5] rfl
  have hD := hD.sub (ws' := (wd_Desk_apply kA a0 a1 a2 a3 a4 a5 a6 v0_0 v0_1 v0_2 v0_4 v0_5 v0_7 v1_2 x1_3 x1_4 x1_5 x2_2 f3 f4 f5 f6)) [0, 6, 1, 2, 3, 4, 5] (by decide) rfl
  clear hPc hDc hFc hP1 hK1 hD1
  generalize H1 = H at hP hS ⊢
  refine lv_if_ne (tgt := 21) hx hb d_Desk_apply_8 (by decide) (fun c_2 => ?_) (fun c_2 => ?_)
  · rw [if_pos c_2] at hF
    refine lv_aload_n hx hb d_Desk_apply_21 rfl (lv_at hl 0 rfl) ?_
    refine va_get (D := (dC, dI)) (ci := 8) (v := .ref a2) (C := R_Desk) (T := F_Desk) (N := 8) hx hb hg iw_Desk hown hK hP 0 rfl rfl 3 (by decide) (hg _ gw_392) (fun _ h9 => h9) rfl d_Desk_apply_22 ?_
    obtain ⟨u_3, hS_3, hF⟩ := rd_bind hF
    have hPc := hP.sub (ws' := (wd_Text_size kA a2 (.ref a5) (.ref a6) x2_2)) [2] rfl
    have hDc := hD.sub (ws' := (wd_Text_size kA a2 (.ref a5) (.ref a6) x2_2)) [2] (by decide) rfl
    have hFc := va_free (wc := (wd_Text_size kA a2 (.ref a5) (.ref a6) x2_2)) hD hS hA [2] rfl
    refine va_calli (va_runV (As := []) (rest := []) ⟨hx, hb, hml, hown, hts⟩ (c_Text_size l dC dI kA H.size a2 (.ref a5) (.ref a6) x2_2 u_3 hS_3) (cwV 0 hts (gw_V gw_583 gw_121 gw_122 gw_123 gw_124) rfl rfl rfl (by decide +kernel) ⟨Nat.le_of_ble_eq_true rfl, Nat.le_of_ble_eq_true rfl⟩) ⟨fun a U g mk q => by obtain ⟨q0, q1, qP, qK, qD⟩ := q; exact ⟨q0, q1, qP, va_K.moved (u := U) (U := U.calling g mk a) (Vm.Alike.refl U.vm) qK, qD⟩, va_recv hK hP (ci := 7) (q0 := 2) rfl rfl, fun U hU hW => ⟨rfl, by rw [hU], by rw [hU]; exact hPc, va_K.moved hW.alike hK, hDc.weaken (fun _ _ _ _ => trivial)⟩⟩ rfl rfl hl.1 rfl (lv_room (Nat.le_of_ble_eq_true rfl)) d_Desk_apply_25 ⟨Nat.zero_le _, Nat.zero_le _⟩) hS (fun q _ h => hFc q h) hFc (fun r1 u t H1 locs ht hvm hw hB hz1 hk1 hS => ?_)
    rw [show r1 = _ from hw]
    obtain ⟨hP1, hK1, hD1⟩ := hB
    rw [ht] at hP1
    obtain ⟨hP, hD⟩ := va_join (wr := [(a0, .inr (8, [v0_0, v0_1, v0_2, .ref a2, v0_4, v0_5, .ref a1, v0_7])), (a1, .inr (1, [.ref a4, .ref a3, v1_2, .int x1_3, .int x1_4, .int x1_5])), (a3, .inl (kA 0, 40, .inl f3)), (a4, .inl (kA 0, 240, .inl f4)), (a5, .inl (kA 0, 16, .inl f5)), (a6, .inl (kA 0, 16, .inl f6))]) (w1 := (wd_Text_size kA a2 (.ref a5) (.ref a6) x2_2)) hP hD [2] [0, 1, 3, 4, 5, 6] rfl rfl (by decide) (by decide) hk1 hFc hP1 hD1
    have hP := hP.sub (ws' := (wd_Desk_apply kA a0 a1 a2 a3 a4 a5 a6 v0_0 v0_1 v0_2 v0_4 v0_5 v0_7 v1_2 x1_3 x1_4 x1_5 x2_2 f3 f4 f5 f6)) [0, 1, 6, 2, 3, 4, 5] rfl
    have hD := hD.sub (ws' := (wd_Desk_apply kA a0 a1 a2 a3 a4 a5 a6 v0_0 v0_1 v0_2 v0_4 v0_5 v0_7 v1_2 x1_3 x1_4 x1_5 x2_2 f3 f4 f5 f6)) [0, 1, 6, 2, 3, 4, 5] (by decide) rfl
    clear hPc hDc hFc hP1 hK1 hD1
    generalize H1 = H at hP hS ⊢
    refine lv_aload_n hx hb d_Desk_apply_28 rfl (lv_at hl 0 rfl) ?_
    refine va_get (D := (dC, dI)) (ci := 8) (v := .ref a1) (C := R_Desk) (T := F_Desk) (N := 8) hx hb hg iw_Desk hown hK hP 0 rfl rfl 6 (by decide) (hg _ gw_409) (fun _ h9 => h9) rfl d_Desk_apply_29 ?_
    refine lv_iload_n hx hb d_Desk_apply_32 rfl (lv_at hl 1 rfl) ?_
    obtain ⟨u_4, hS_4, hF⟩ := rd_bind hF
    have hPc := hP.sub (ws' := (wd_Finds_growthBy kA a1 a3 a4 v1_2 (.int x1_4) (.int x1_5) x1_3 f3 f4)) [1, 3, 4] rfl
    have hDc := hD.sub (ws' := (wd_Finds_growthBy kA a1 a3 a4 v1_2 (.int x1_4) (.int x1_5) x1_3 f3 f4)) [1, 3, 4] (by decide) rfl
    have hFc := va_free (wc := (wd_Finds_growthBy kA a1 a3 a4 v1_2 (.int x1_4) (.int x1_5) x1_3 f3 f4)) hD hS hA [1, 3, 4] rfl
    refine va_calli (va_runV (As := [.int p1]) (rest := [.int u_3]) ⟨hx, hb, hml, hown, hts⟩ (c_Finds_growthBy l dC dI kA H.size a1 a3 a4 v1_2 (.int x1_4) (.int x1_5) p1 x1_3 f3 f4 u_4 hS_4) (cwV 1 hts (gw_V gw_621 gw_622 gw_623 gw_11 gw_624) rfl rfl rfl (by decide +kernel) ⟨Nat.le_of_ble_eq_true rfl, Nat.le_of_ble_eq_true rfl⟩) ⟨fun a U g mk q => by obtain ⟨q0, q1, qP, qK, qD⟩ := q; exact ⟨q0, q1, qP, va_K.moved (u := U) (U := U.calling g mk a) (Vm.Alike.refl U.vm) qK, qD⟩, va_recv hK hP (ci := 1) (q0 := 1) rfl rfl, fun U hU hW => ⟨rfl, by rw [hU], by rw [hU]; exact hPc, va_K.moved hW.alike hK, hDc.weaken (fun _ _ _ _ => trivial)⟩⟩ rfl rfl hl.1 rfl (lv_room (Nat.le_of_ble_eq_true rfl)) d_Desk_apply_33 ⟨Nat.zero_le _, Nat.zero_le _⟩) hS (fun q _ h => hFc q h) hFc (fun r1 u t H1 locs ht hvm hw hB hz1 hk1 hS => ?_)
    rw [show r1 = _ from hw]
    obtain ⟨hP1, hK1, hD1⟩ := hB
    rw [ht] at hP1
    obtain ⟨hP, hD⟩ := va_join (wr := [(a0, .inr (8, [v0_0, v0_1, v0_2, .ref a2, v0_4, v0_5, .ref a1, v0_7])), (a2, .inr (7, [.ref a5, .ref a6, .int x2_2])), (a5, .inl (kA 0, 16, .inl f5)), (a6, .inl (kA 0, 16, .inl f6))]) (w1 := (wd_Finds_growthBy kA a1 a3 a4 v1_2 (.int x1_4) (.int x1_5) x1_3 f3 f4)) hP hD [1, 3, 4] [0, 2, 5, 6] rfl rfl (by decide) (by decide) hk1 hFc hP1 hD1
    have hP := hP.sub (ws' := (wd_Desk_apply kA a0 a1 a2 a3 a4 a5 a6 v0_0 v0_1 v0_2 v0_4 v0_5 v0_7 v1_2 x1_3 x1_4 x1_5 x2_2 f3 f4 f5 f6)) [0, 4, 1, 5, 6, 2, 3] rfl
    have hD := hD.sub (ws' := (wd_Desk_apply kA a0 a1 a2 a3 a4 a5 a6 v0_0 v0_1 v0_2 v0_4 v0_5 v0_7 v1_2 x1_3 x1_4 x1_5 x2_2 f3 f4 f5 f6)) [0, 4, 1, 5, 6, 2, 3] (by decide) rfl
    clear hPc hDc hFc hP1 hK1 hD1
    generalize H1 = H at hP hS ⊢
    refine lv_iadd hx hb d_Desk_apply_36 ?_
    refine lv_bipush (v := 16) hx hb d_Desk_apply_37 (by decide) ?_
    refine lv_icmp_le (tgt := 52) hx hb d_Desk_apply_39 (by decide) (fun c_5 => ?_) (fun c_5 => ?_)
    · rw [if_pos c_5] at hF
      refine lv_aload_n hx hb d_Desk_apply_52 rfl (lv_at hl 0 rfl) ?_
      refine va_get (D := (dC, dI)) (ci := 8) (v := .ref a2) (C := R_Desk) (T := F_Desk) (N := 8) hx hb hg iw_Desk hown hK hP 0 rfl rfl 3 (by decide) (hg _ gw_392) (fun _ h9 => h9) rfl d_Desk_apply_53 ?_
      refine lv_aload_n hx hb d_Desk_apply_56 rfl (lv_at hl 0 rfl) ?_
      refine va_get (D := (dC, dI)) (ci := 8) (v := .ref a1) (C := R_Desk) (T := F_Desk) (N := 8) hx hb hg iw_Desk hown hK hP 0 rfl rfl 6 (by decide) (hg _ gw_409) (fun _ h9 => h9) rfl d_Desk_apply_57 ?_
      refine lv_iload_n hx hb d_Desk_apply_60 rfl (lv_at hl 1 rfl) ?_
      obtain ⟨u_6, hS_6, hF⟩ := rd_bind hF
      have hPc := hP.sub (ws' := (wd_Text_mend kA a2 a5 a6 a1 a3 a4 v1_2 (.int x1_4) x2_2 f5 f6 x1_3 x1_5 f3 f4)) [2, 5, 6, 1, 3, 4] rfl
      have hDc := hD.sub (ws' := (wd_Text_mend kA a2 a5 a6 a1 a3 a4 v1_2 (.int x1_4) x2_2 f5 f6 x1_3 x1_5 f3 f4)) [2, 5, 6, 1, 3, 4] (by decide) rfl
      have hFc := va_free (wc := (wd_Text_mend kA a2 a5 a6 a1 a3 a4 v1_2 (.int x1_4) x2_2 f5 f6 x1_3 x1_5 f3 f4)) hD hS hA [2, 5, 6, 1, 3, 4] rfl
      refine va_callv (va_runV (As := [.ref a1, .int p1]) (rest := []) ⟨hx, hb, hml, hown, hts⟩ (c_Text_mend l dC dI kA H.size a2 a5 a6 a1 a3 a4 v1_2 (.int x1_4) p1 x2_2 f5 f6 x1_3 x1_5 f3 f4 u_6.1 u_6.2.1 u_6.2.2 hS_6) (cwV 2 hts (gw_V gw_625 gw_626 gw_627 gw_123 gw_628) rfl rfl rfl (by decide +kernel) ⟨Nat.le_of_ble_eq_true rfl, Nat.le_of_ble_eq_true rfl⟩) ⟨fun a U g mk q => by obtain ⟨q0, q1, qP, qK, qD⟩ := q; exact ⟨q0, q1, qP, va_K.moved (u := U) (U := U.calling g mk a) (Vm.Alike.refl U.vm) qK, qD⟩, va_recv hK hP (ci := 7) (q0 := 2) rfl rfl, fun U hU hW => ⟨rfl, by rw [hU], by rw [hU]; exact hPc, va_K.moved hW.alike hK, hDc.weaken (fun _ _ _ _ => trivial)⟩⟩ rfl rfl hl.1 rfl (lv_room (Nat.le_of_ble_eq_true rfl)) d_Desk_apply_61 ⟨Nat.zero_le _, Nat.zero_le _⟩) hS (fun q _ h => hFc q h) hFc (fun u t H1 locs ht hvm hw hB hz1 hk1 hS => ?_)
      obtain ⟨hP1, hK1, hD1⟩ := hB
      rw [ht] at hP1
      obtain ⟨hP, hD⟩ := va_join (wr := [(a0, .inr (8, [v0_0, v0_1, v0_2, .ref a2, v0_4, v0_5, .ref a1, v0_7]))]) (w1 := (wd_Text_mend kA a2 a5 a6 a1 a3 a4 v1_2 (.int x1_4) u_6.1 u_6.2.1 u_6.2.2 x1_3 x1_5 f3 f4)) hP hD [2, 5, 6, 1, 3, 4] [0] rfl rfl (by decide) (by decide) hk1 hFc hP1 hD1
      have hP := hP.sub (ws' := (wd_Desk_apply kA a0 a1 a2 a3 a4 a5 a6 v0_0 v0_1 v0_2 v0_4 v0_5 v0_7 v1_2 x1_3 x1_4 x1_5 u_6.1 f3 f4 u_6.2.1 u_6.2.2)) [0, 4, 1, 5, 6, 2, 3] rfl
      have hD := hD.sub (ws' := (wd_Desk_apply kA a0 a1 a2 a3 a4 a5 a6 v0_0 v0_1 v0_2 v0_4 v0_5 v0_7 v1_2 x1_3 x1_4 x1_5 u_6.1 f3 f4 u_6.2.1 u_6.2.2)) [0, 4, 1, 5, 6, 2, 3] (by decide) rfl
      clear hPc hDc hFc hP1 hK1 hD1
      generalize H1 = H at hP hS ⊢
      refine lv_aload_n hx hb d_Desk_apply_64 rfl (lv_at hl 0 rfl) ?_
      refine va_get (D := (dC, dI)) (ci := 8) (v := .ref a1) (C := R_Desk) (T := F_Desk) (N := 8) hx hb hg iw_Desk hown hK hP 0 rfl rfl 6 (by decide) (hg _ gw_409) (fun _ h9 => h9) rfl d_Desk_apply_65 ?_
      obtain ⟨u_7, hS_7, hF⟩ := rd_bind hF
      have hPc := hP.sub (ws' := (wd_Finds_forget kA a1 (.ref a4) (.ref a3) v1_2 x1_3 x1_4 x1_5)) [1] rfl
      have hDc := hD.sub (ws' := (wd_Finds_forget kA a1 (.ref a4) (.ref a3) v1_2 x1_3 x1_4 x1_5)) [1] (by decide) rfl
      have hFc := va_free (wc := (wd_Finds_forget kA a1 (.ref a4) (.ref a3) v1_2 x1_3 x1_4 x1_5)) hD hS hA [1] rfl
      refine va_callv (va_runV (As := []) (rest := []) ⟨hx, hb, hml, hown, hts⟩ (c_Finds_forget l dC dI kA H.size a1 (.ref a4) (.ref a3) v1_2 x1_3 x1_4 x1_5 u_7.1 u_7.2.1 u_7.2.2 hS_7) (cwV 0 hts (gw_V gw_553 gw_554 gw_555 gw_11 gw_556) rfl rfl rfl (by decide +kernel) ⟨Nat.le_of_ble_eq_true rfl, Nat.le_of_ble_eq_true rfl⟩) ⟨fun a U g mk q => by obtain ⟨q0, q1, qP, qK, qD⟩ := q; exact ⟨q0, q1, qP, va_K.moved (u := U) (U := U.calling g mk a) (Vm.Alike.refl U.vm) qK, qD⟩, va_recv hK hP (ci := 1) (q0 := 1) rfl rfl, fun U hU hW => ⟨rfl, by rw [hU], by rw [hU]; exact hPc, va_K.moved hW.alike hK, hDc.weaken (fun _ _ _ _ => trivial)⟩⟩ rfl rfl hl.1 rfl (lv_room (Nat.le_of_ble_eq_true rfl)) d_Desk_apply_68 ⟨Nat.zero_le _, Nat.zero_le _⟩) hS (fun q _ h => hFc q h) hFc (fun u t H1 locs ht hvm hw hB hz1 hk1 hS => ?_)
      obtain ⟨hP1, hK1, hD1⟩ := hB
      rw [ht] at hP1
      obtain ⟨hP, hD⟩ := va_join (wr := [(a0, .inr (8, [v0_0, v0_1, v0_2, .ref a2, v0_4, v0_5, .ref a1, v0_7])), (a2, .inr (7, [.ref a5, .ref a6, .int u_6.1])), (a3, .inl (kA 0, 40, .inl f3)), (a4, .inl (kA 0, 240, .inl f4)), (a5, .inl (kA 0, 16, .inl u_6.2.1)), (a6, .inl (kA 0, 16, .inl u_6.2.2))]) (w1 := (wd_Finds_forget kA a1 (.ref a4) (.ref a3) v1_2 u_7.1 u_7.2.1 u_7.2.2)) hP hD [1] [0, 2, 3, 4, 5, 6] rfl rfl (by decide) (by decide) hk1 hFc hP1 hD1
      have hP := hP.sub (ws' := (wd_Desk_apply kA a0 a1 a2 a3 a4 a5 a6 v0_0 v0_1 v0_2 v0_4 v0_5 v0_7 v1_2 u_7.1 u_7.2.1 u_7.2.2 u_6.1 f3 f4 u_6.2.1 u_6.2.2)) [0, 6, 1, 2, 3, 4, 5] rfl
      have hD := hD.sub (ws' := (wd_Desk_apply kA a0 a1 a2 a3 a4 a5 a6 v0_0 v0_1 v0_2 v0_4 v0_5 v0_7 v1_2 u_7.1 u_7.2.1 u_7.2.2 u_6.1 f3 f4 u_6.2.1 u_6.2.2)) [0, 6, 1, 2, 3, 4, 5] (by decide) rfl
      clear hPc hDc hFc hP1 hK1 hD1
      generalize H1 = H at hP hS ⊢
      refine lv_aload_n hx hb d_Desk_apply_71 rfl (lv_at hl 0 rfl) ?_
      refine va_get (D := (dC, dI)) (ci := 8) (v := .ref a2) (C := R_Desk) (T := F_Desk) (N := 8) hx hb hg iw_Desk hown hK hP 0 rfl rfl 3 (by decide) (hg _ gw_392) (fun _ h9 => h9) rfl d_Desk_apply_72 ?_
      obtain ⟨u_8, hS_8, hF⟩ := rd_bind hF
      have hPc := hP.sub (ws' := (wd_Text_size kA a2 (.ref a5) (.ref a6) u_6.1)) [2] rfl
      have hDc := hD.sub (ws' := (wd_Text_size kA a2 (.ref a5) (.ref a6) u_6.1)) [2] (by decide) rfl
      have hFc := va_free (wc := (wd_Text_size kA a2 (.ref a5) (.ref a6) u_6.1)) hD hS hA [2] rfl
      refine va_calli (va_runV (As := []) (rest := []) ⟨hx, hb, hml, hown, hts⟩ (c_Text_size l dC dI kA H.size a2 (.ref a5) (.ref a6) u_6.1 u_8 hS_8) (cwV 0 hts (gw_V gw_583 gw_121 gw_122 gw_123 gw_124) rfl rfl rfl (by decide +kernel) ⟨Nat.le_of_ble_eq_true rfl, Nat.le_of_ble_eq_true rfl⟩) ⟨fun a U g mk q => by obtain ⟨q0, q1, qP, qK, qD⟩ := q; exact ⟨q0, q1, qP, va_K.moved (u := U) (U := U.calling g mk a) (Vm.Alike.refl U.vm) qK, qD⟩, va_recv hK hP (ci := 7) (q0 := 2) rfl rfl, fun U hU hW => ⟨rfl, by rw [hU], by rw [hU]; exact hPc, va_K.moved hW.alike hK, hDc.weaken (fun _ _ _ _ => trivial)⟩⟩ rfl rfl hl.1 rfl (lv_room (Nat.le_of_ble_eq_true rfl)) d_Desk_apply_75 ⟨Nat.zero_le _, Nat.zero_le _⟩) hS (fun q _ h => hFc q h) hFc (fun r1 u t H1 locs ht hvm hw hB hz1 hk1 hS => ?_)
      rw [show r1 = _ from hw]
      obtain ⟨hP1, hK1, hD1⟩ := hB
      rw [ht] at hP1
      obtain ⟨hP, hD⟩ := va_join (wr := [(a0, .inr (8, [v0_0, v0_1, v0_2, .ref a2, v0_4, v0_5, .ref a1, v0_7])), (a1, .inr (1, [.ref a4, .ref a3, v1_2, .int u_7.1, .int u_7.2.1, .int u_7.2.2])), (a3, .inl (kA 0, 40, .inl f3)), (a4, .inl (kA 0, 240, .inl f4)), (a5, .inl (kA 0, 16, .inl u_6.2.1)), (a6, .inl (kA 0, 16, .inl u_6.2.2))]) (w1 := (wd_Text_size kA a2 (.ref a5) (.ref a6) u_6.1)) hP hD [2] [0, 1, 3, 4, 5, 6] rfl rfl (by decide) (by decide) hk1 hFc hP1 hD1
      have hP := hP.sub (ws' := (wd_Desk_apply kA a0 a1 a2 a3 a4 a5 a6 v0_0 v0_1 v0_2 v0_4 v0_5 v0_7 v1_2 u_7.1 u_7.2.1 u_7.2.2 u_6.1 f3 f4 u_6.2.1 u_6.2.2)) [0, 1, 6, 2, 3, 4, 5] rfl
      have hD := hD.sub (ws' := (wd_Desk_apply kA a0 a1 a2 a3 a4 a5 a6 v0_0 v0_1 v0_2 v0_4 v0_5 v0_7 v1_2 u_7.1 u_7.2.1 u_7.2.2 u_6.1 f3 f4 u_6.2.1 u_6.2.2)) [0, 1, 6, 2, 3, 4, 5] (by decide) rfl
      clear hPc hDc hFc hP1 hK1 hD1
      generalize H1 = H at hP hS ⊢
      have e0 := Option.some.inj hF
      have q0 := Prod.mk.inj e0
      have q1 := Prod.mk.inj q0.2
      have q2 := Prod.mk.inj q1.2
      have q3 := Prod.mk.inj q2.2
      have q4 := Prod.mk.inj q3.2
      have q5 := Prod.mk.inj q4.2
      have q6 := Prod.mk.inj q5.2
      refine W.widen (k := 1) (n := 6) (Nat.zero_le _) (Nat.zero_le _) ?_
      refine rd_mono (rd_back (Qc := va_Qi (fun (r1 : Int32) (_ : Unit) => r1 = r) (fun _ t => va_P (dC, dI) classes (wd_Desk_apply kA a0 a1 a2 a3 a4 a5 a6 v0_0 v0_1 v0_2 v0_4 v0_5 v0_7 v1_2 ox1_3 ox1_4 ox1_5 ox2_2 f3 f4 of5 of6) t.heap ∧ va_K (dC, dI) classes (tys_ kA) t ∧ va_D A (wd_Desk_apply kA a0 a1 a2 a3 a4 a5 a6 v0_0 v0_1 v0_2 v0_4 v0_5 v0_7 v1_2 ox1_3 ox1_4 ox1_5 ox2_2 f3 f4 of5 of6)) A) (fun v t q => rd_retx q0.1 q)) ?_
      exact W.iret (v := u_8) hx hb hr (fun t ht hW => ⟨⟨u_8, (), rfl, q1.1, by rw [ht, ← q2.1, ← q3.1, ← q4.1, ← q5.1, ← q6.1, ← q6.2]; exact hP, va_K.moved hW.alike hK, (by rw [← q2.1, ← q3.1, ← q4.1, ← q5.1, ← q6.1, ← q6.2]; exact hD)⟩, hS.F ht⟩) hS.2.2 d_Desk_apply_78 hlocks
    · rw [if_neg c_5] at hF
      have e0 := Option.some.inj hF
      have q0 := Prod.mk.inj e0
      have q1 := Prod.mk.inj q0.2
      have q2 := Prod.mk.inj q1.2
      have q3 := Prod.mk.inj q2.2
      have q4 := Prod.mk.inj q3.2
      have q5 := Prod.mk.inj q4.2
      have q6 := Prod.mk.inj q5.2
      refine rd_throw (own := R_Desk) (cls := xS) (text := "the text would have more than sixteen letters") (Y0 := xrt_) (names := xnm_) (ix := 7) (bx := rd_bx 7) (ik := 95) (is := 175) (ic := 99) (sa := sa 175) (rest := []) hx hb hlt rd_ok7 hown (by decide +kernel) (by decide +kernel) (by decide +kernel) (rd_site hg hX hSt hS gw_551 gw_422 (by decide +kernel) (by simp [xs_])) (hl.1.trans hml.symm) d_Desk_apply_42 d_Desk_apply_45 d_Desk_apply_46 d_Desk_apply_48 d_Desk_apply_51 hno (Nat.le_of_ble_eq_true rfl) (Nat.le_of_ble_eq_true rfl) (Nat.le_of_ble_eq_true rfl) (Nat.le_of_ble_eq_true rfl) hlocks (fun t ht hz hq => ?_) hS.2.2 (Nat.le_refl _) (Nat.le_refl _)
      have hT := rd_thrown hP hD hK hS ht hz hq
      exact ⟨by rw [← q0.1]; decide +kernel, by rw [← q2.1, ← q3.1, ← q4.1, ← q5.1, ← q6.1, ← q6.2]; exact hT⟩
  · rw [if_neg (fun z => z c_2)] at hF
    have e0 := Option.some.inj hF
    have q0 := Prod.mk.inj e0
    have q1 := Prod.mk.inj q0.2
    have q2 := Prod.mk.inj q1.2
    have q3 := Prod.mk.inj q2.2
    have q4 := Prod.mk.inj q3.2
    have q5 := Prod.mk.inj q4.2
    have q6 := Prod.mk.inj q5.2
    refine rd_throw (own := R_Desk) (cls := xN) (text := "there is no such repair") (Y0 := xrt_) (names := xnm_) (ix := 13) (bx := rd_bx 13) (ik := 163) (is := 165) (ic := 167) (sa := sa 165) (rest := []) hx hb hlt rd_ok13 hown (by decide +kernel) (by decide +kernel) (by decide +kernel) (rd_site hg hX hSt hS gw_610 gw_424 (by decide +kernel) (by simp [xs_])) (hl.1.trans hml.symm) d_Desk_apply_11 d_Desk_apply_14 d_Desk_apply_15 d_Desk_apply_17 d_Desk_apply_20 hno (Nat.le_of_ble_eq_true rfl) (Nat.le_of_ble_eq_true rfl) (Nat.le_of_ble_eq_true rfl) (Nat.le_of_ble_eq_true rfl) hlocks (fun t ht hz hq => ?_) hS.2.2 (Nat.le_refl _) (Nat.le_refl _)
    have hT := rd_thrown hP hD hK hS ht hz hq
    exact ⟨by rw [← q0.1]; decide +kernel, by rw [← q2.1, ← q3.1, ← q4.1, ← q5.1, ← q6.1, ← q6.2]; exact hT⟩
