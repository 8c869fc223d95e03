-- ===== RepairDesk$Stacks.topOf(I)I
abbrev wd_Stacks_topOf (kA : Nat → ClassId) (a0 a1 a2 : Nat) (v0_0 v0_1 : Value) (f1 : (Nat → Int32)) (f2 : (Nat → Int32)) : va_W := [(a0, .inr (5, [v0_0, v0_1, .ref a1, .ref a2])), (a1, .inl (kA 0, 4096, .inl f1)), (a2, .inl (kA 0, 8, .inl f2))]
abbrev rm_Stacks_topOf : Room := { frames := 0, cells := 0, slots := 0, locals := 0 }
def S_Stacks_topOf (p1 : Int32) (f1 : (Nat → Int32)) (f2 : (Nat → Int32)) : Option (Int32) := (if p1 < 0 then (some (-1)) else (if 8 ≤ p1 then (some (-1)) else (if (p1 : Int32) < 0 ∨ 8 ≤ (Int32.toNatClampNeg p1) then none else (if 1 ≤ (f2 (Int32.toNatClampNeg p1)) then (if (p1 : Int32) < 0 ∨ 8 ≤ (Int32.toNatClampNeg p1) then none else (if ((((p1 * 512) + (f2 (Int32.toNatClampNeg p1))) - 1) : Int32) < 0 ∨ 4096 ≤ (Int32.toNatClampNeg (((p1 * 512) + (f2 (Int32.toNatClampNeg p1))) - 1)) then none else (some (f1 (Int32.toNatClampNeg (((p1 * 512) + (f2 (Int32.toNatClampNeg p1))) - 1)))))) else (some (-1))))))
set_option maxHeartbeats 4000000 in
set_option maxRecDepth 100000 in
theorem c_Stacks_topOf (l : Launch) (dC : Nat → ClassId) (dI : Nat → Nat → Nat) (kA : Nat → ClassId) (sz : Nat) (a0 a1 a2 : Nat) (v0_0 v0_1 : Value) (p1 : Int32) (f1 : (Nat → Int32)) (f2 : (Nat → Int32)) (r : Int32) (hF : S_Stacks_topOf p1 f1 f2 = some r) : Met l y_Stacks_topOf w_Stacks_topOf rm_Stacks_topOf (va_Pc [.ref a0, .int p1] (fun U => U.heap.size = sz ∧ va_P (dC, dI) classes (wd_Stacks_topOf kA a0 a1 a2 v0_0 v0_1 f1 f2) U.heap ∧ va_K (dC, dI) classes (tys_ kA) U ∧ va_D (fun _ => True) (wd_Stacks_topOf kA a0 a1 a2 v0_0 v0_1 f1 f2))) (va_Qi (fun (r1 : Int32) (_ : Unit) => r1 = r) (fun _ t => va_P (dC, dI) classes (wd_Stacks_topOf kA a0 a1 a2 v0_0 v0_1 f1 f2) t.heap ∧ va_K (dC, dI) classes (tys_ kA) t ∧ va_D (va_A (wd_Stacks_topOf kA a0 a1 a2 v0_0 v0_1 f1 f2) sz) (wd_Stacks_topOf kA a0 a1 a2 v0_0 v0_1 f1 f2)) (va_A (wd_Stacks_topOf kA a0 a1 a2 v0_0 v0_1 f1 f2) sz)) 0 0 (va_A (wd_Stacks_topOf kA a0 a1 a2 v0_0 v0_1 f1 f2) sz) := by
  refine Met.ofW (cc := b_Stacks_topOf) (maxL := 2) (ret := some .int) (by decide) rfl ?_
  intro p e s m args below meth c s₁ B hml hv
  obtain ⟨rfl, hsz, hP, hK, hD0⟩ := hv
  have hx := B.exec
  have hb := B.bytes
  have hr := B.returns
  have hts := atoms_spec (ws := w_Stacks_topOf) B.pre
  have hown : s.vm.findClass R_Stacks = some m.cls := findClass_of_methodNamed B.named
  have hg := fun (w : Cond) (h : w ∈ gw) => hts w (List.mem_cons_of_mem _ h)
  have hlocks := B.notSynchronized
  subst hsz
  have hD := hD0.self (sz := s.heap.size)
  generalize hAe : va_A (wd_Stacks_topOf kA a0 a1 a2 v0_0 v0_1 f1 f2) s.heap.size = A at hD ⊢
  have hA : ∀ q : Nat, s.heap.size ≤ q → A q := fun q h => by rw [← hAe]; exact Or.inr h
  have hS : va_S A s.heap s.heap [] := va_S.rf
  have hl := lv_entry ([.ref a0, .int p1]) (n := 2) (Nat.le_of_ble_eq_true rfl)
  rw [lg_entry_eq]
  generalize (lg_sl ([.ref a0, .int p1]) ++ List.replicate (2 - (lg_sl ([.ref a0, .int p1])).length) Slot.unset).toArray = ls at hl ⊢
  have hl : lv_has ls 2 [(0, .ref a0), (1, .int p1)] := hl
  unfold S_Stacks_topOf at hF
  refine lv_iload_n hx hb d_Stacks_topOf_0 rfl (lv_at hl 1 rfl) ?_
  refine lv_if_lt (tgt := 20) hx hb d_Stacks_topOf_1 (by decide) (fun c_1 => ?_) (fun c_1 => ?_)
  · rw [if_pos c_1] at hF
    refine lv_iconst (v := (-1)) hx hb d_Stacks_topOf_20 (by decide) ?_
    have e0 := Option.some.inj hF
    exact W.iret (v := (-1)) hx hb hr (fun t ht hW => ⟨⟨(-1), (), rfl, e0, by rw [ht]; exact hP, va_K.moved hW.alike hK, (by exact hD)⟩, hS.F ht⟩) hS.2.2 d_Stacks_topOf_21 hlocks
  · rw [if_neg c_1] at hF
    refine lv_iload_n hx hb d_Stacks_topOf_4 rfl (lv_at hl 1 rfl) ?_
    refine lv_bipush (v := 8) hx hb d_Stacks_topOf_5 (by decide) ?_
    refine lv_icmp_ge (tgt := 20) hx hb d_Stacks_topOf_7 (by decide) (fun c_2 => ?_) (fun c_2 => ?_)
    · rw [if_pos c_2] at hF
      refine lv_iconst (v := (-1)) hx hb d_Stacks_topOf_20 (by decide) ?_
      have e0 := Option.some.inj hF
      exact W.iret (v := (-1)) hx hb hr (fun t ht hW => ⟨⟨(-1), (), rfl, e0, by rw [ht]; exact hP, va_K.moved hW.alike hK, (by exact hD)⟩, hS.F ht⟩) hS.2.2 d_Stacks_topOf_21 hlocks
    · rw [if_neg c_2] at hF
      refine lv_aload_n hx hb d_Stacks_topOf_10 rfl (lv_at hl 0 rfl) ?_
      refine va_get (D := (dC, dI)) (ci := 5) (v := .ref a2) (C := R_Stacks) (T := F_Stacks) (N := 4) hx hb hg iw_Stacks hown hK hP 0 rfl rfl 3 (by decide) (hg _ gw_77) (fun _ h9 => h9) rfl d_Stacks_topOf_11 ?_
      refine lv_iload_n hx hb d_Stacks_topOf_14 rfl (lv_at hl 1 rfl) ?_
      obtain ⟨h_3, hF⟩ := rd_chk hF
      refine va_iald hx hb hK hP 2 0 rfl rfl h_3 d_Stacks_topOf_15 ?_
      refine lv_iconst (v := 1) hx hb d_Stacks_topOf_16 (by decide) ?_
      refine lv_icmp_ge (tgt := 22) hx hb d_Stacks_topOf_17 (by decide) (fun c_4 => ?_) (fun c_4 => ?_)
      · rw [if_pos c_4] at hF
        refine lv_aload_n hx hb d_Stacks_topOf_22 rfl (lv_at hl 0 rfl) ?_
        refine va_get (D := (dC, dI)) (ci := 5) (v := .ref a1) (C := R_Stacks) (T := F_Stacks) (N := 4) hx hb hg iw_Stacks hown hK hP 0 rfl rfl 2 (by decide) (hg _ gw_78) (fun _ h9 => h9) rfl d_Stacks_topOf_23 ?_
        refine lv_iload_n hx hb d_Stacks_topOf_26 rfl (lv_at hl 1 rfl) ?_
        refine lv_sipush (v := 512) hx hb d_Stacks_topOf_27 (by decide) ?_
        refine lv_imul hx hb d_Stacks_topOf_30 ?_
        refine lv_aload_n hx hb d_Stacks_topOf_31 rfl (lv_at hl 0 rfl) ?_
        refine va_get (D := (dC, dI)) (ci := 5) (v := .ref a2) (C := R_Stacks) (T := F_Stacks) (N := 4) hx hb hg iw_Stacks hown hK hP 0 rfl rfl 3 (by decide) (hg _ gw_77) (fun _ h9 => h9) rfl d_Stacks_topOf_32 ?_
        refine lv_iload_n hx hb d_Stacks_topOf_35 rfl (lv_at hl 1 rfl) ?_
        obtain ⟨h_5, hF⟩ := rd_chk hF
        refine va_iald hx hb hK hP 2 0 rfl rfl h_5 d_Stacks_topOf_36 ?_
        refine lv_iadd hx hb d_Stacks_topOf_37 ?_
        refine lv_iconst (v := 1) hx hb d_Stacks_topOf_38 (by decide) ?_
        refine lv_isub hx hb d_Stacks_topOf_39 ?_
        obtain ⟨h_6, hF⟩ := rd_chk hF
        refine va_iald hx hb hK hP 1 0 rfl rfl h_6 d_Stacks_topOf_40 ?_
        have e0 := Option.some.inj hF
        exact W.iret (v := (f1 (Int32.toNatClampNeg (((p1 * 512) + (f2 (Int32.toNatClampNeg p1))) - 1)))) hx hb hr (fun t ht hW => ⟨⟨(f1 (Int32.toNatClampNeg (((p1 * 512) + (f2 (Int32.toNatClampNeg p1))) - 1))), (), rfl, e0, by rw [ht]; exact hP, va_K.moved hW.alike hK, (by exact hD)⟩, hS.F ht⟩) hS.2.2 d_Stacks_topOf_41 hlocks
      · rw [if_neg c_4] at hF
        refine lv_iconst (v := (-1)) hx hb d_Stacks_topOf_20 (by decide) ?_
        have e0 := Option.some.inj hF
        exact W.iret (v := (-1)) hx hb hr (fun t ht hW => ⟨⟨(-1), (), rfl, e0, by rw [ht]; exact hP, va_K.moved hW.alike hK, (by exact hD)⟩, hS.F ht⟩) hS.2.2 d_Stacks_topOf_21 hlocks
-- ===== RepairDesk$Stacks.canMove(II)Z
abbrev wd_Stacks_canMove (kA : Nat → ClassId) (a0 a1 a2 a3 a4 a5 : Nat) (v0_0 v3_0 v3_4 : Value) (f1 : (Nat → Int32)) (f2 : (Nat → Int32)) (x3_3 : Int32) (f4 : (Nat → Int32)) (f5 : (Nat → Int32)) : va_W := [(a0, .inr (5, [v0_0, .ref a3, .ref a1, .ref a2])), (a1, .inl (kA 0, 4096, .inl f1)), (a2, .inl (kA 0, 8, .inl f2)), (a3, .inr (6, [v3_0, .ref a5, .ref a4, .int x3_3, v3_4])), (a4, .inl (kA 0, 280, .inl f4)), (a5, .inl (kA 0, 480, .inl f5))]
abbrev rm_Stacks_canMove : Room := { frames := 1, cells := 0, slots := 0, locals := 22 }
def S_Stacks_canMove (p1 : Int32) (p2 : Int32) (f1 : (Nat → Int32)) (f2 : (Nat → Int32)) (x3_3 : Int32) (f4 : (Nat → Int32)) (f5 : (Nat → Int32)) : Option (Int32) := ((S_Stacks_topOf p1 f1 f2).bind fun u_1 => ((S_States_reducedBy u_1 p2 x3_3 f4).bind fun u_2 => (if 0 ≤ u_2 then (some 1) else (if p2 = 6 then (some 0) else ((S_States_targetOf u_1 p2 x3_3 f5).bind fun u_5 => (if u_5 < 0 then (some 0) else (some 1)))))))
set_option maxHeartbeats 4000000 in
set_option maxRecDepth 100000 in
theorem c_Stacks_canMove (l : Launch) (dC : Nat → ClassId) (dI : Nat → Nat → Nat) (kA : Nat → ClassId) (sz : Nat) (a0 a1 a2 a3 a4 a5 : Nat) (v0_0 v3_0 v3_4 : Value) (p1 : Int32) (p2 : Int32) (f1 : (Nat → Int32)) (f2 : (Nat → Int32)) (x3_3 : Int32) (f4 : (Nat → Int32)) (f5 : (Nat → Int32)) (r : Int32) (hF : S_Stacks_canMove p1 p2 f1 f2 x3_3 f4 f5 = some r) : Met l y_Stacks_canMove w_Stacks_canMove rm_Stacks_canMove (va_Pc [.ref a0, .int p1, .int p2] (fun U => U.heap.size = sz ∧ va_P (dC, dI) classes (wd_Stacks_canMove kA a0 a1 a2 a3 a4 a5 v0_0 v3_0 v3_4 f1 f2 x3_3 f4 f5) U.heap ∧ va_K (dC, dI) classes (tys_ kA) U ∧ va_D (fun _ => True) (wd_Stacks_canMove kA a0 a1 a2 a3 a4 a5 v0_0 v3_0 v3_4 f1 f2 x3_3 f4 f5))) (va_Qi (fun (r1 : Int32) (_ : Unit) => r1 = r) (fun _ t => va_P (dC, dI) classes (wd_Stacks_canMove kA a0 a1 a2 a3 a4 a5 v0_0 v3_0 v3_4 f1 f2 x3_3 f4 f5) t.heap ∧ va_K (dC, dI) classes (tys_ kA) t ∧ va_D (va_A (wd_Stacks_canMove kA a0 a1 a2 a3 a4 a5 v0_0 v3_0 v3_4 f1 f2 x3_3 f4 f5) sz) (wd_Stacks_canMove kA a0 a1 a2 a3 a4 a5 v0_0 v3_0 v3_4 f1 f2 x3_3 f4 f5)) (va_A (wd_Stacks_canMove kA a0 a1 a2 a3 a4 a5 v0_0 v3_0 v3_4 f1 f2 x3_3 f4 f5) sz)) 0 0 (va_A (wd_Stacks_canMove kA a0 a1 a2 a3 a4 a5 v0_0 v3_0 v3_4 f1 f2 x3_3 f4 f5) sz) := by
  refine Met.ofW (cc := b_Stacks_canMove) (maxL := 4) (ret := some .boolean) (by decide) rfl ?_
  intro p e s m args below meth c s₁ B hml hv
  obtain ⟨rfl, hsz, hP, hK, hD0⟩ := hv
  have hx := B.exec
  have hb := B.bytes
  have hr := B.returns
  have hts := atoms_spec (ws := w_Stacks_canMove) B.pre
  have hown : s.vm.findClass R_Stacks = some m.cls := findClass_of_methodNamed B.named
  have hg := fun (w : Cond) (h : w ∈ gw) => hts w (List.mem_cons_of_mem _ h)
  have hlocks := B.notSynchronized
  subst hsz
  have hD := hD0.self (sz := s.heap.size)
  generalize hAe : va_A (wd_Stacks_canMove kA a0 a1 a2 a3 a4 a5 v0_0 v3_0 v3_4 f1 f2 x3_3 f4 f5) s.heap.size = A at hD ⊢
  have hA : ∀ q : Nat, s.heap.size ≤ q → A q := fun q h => by rw [← hAe]; exact Or.inr h
  have hS : va_S A s.heap s.heap [] := va_S.rf
  have hl := lv_entry ([.ref a0, .int p1, .int p2]) (n := 4) (Nat.le_of_ble_eq_true rfl)
  rw [lg_entry_eq]
  generalize (lg_sl ([.ref a0, .int p1, .int p2]) ++ List.replicate (4 - (lg_sl ([.ref a0, .int p1, .int p2])).length) Slot.unset).toArray = ls at hl ⊢
  have hl : lv_has ls 4 [(0, .ref a0), (1, .int p1), (2, .int p2)] := hl
  unfold S_Stacks_canMove at hF
  refine lv_aload_n hx hb d_Stacks_canMove_0 rfl (lv_at hl 0 rfl) ?_
  refine lv_iload_n hx hb d_Stacks_canMove_1 rfl (lv_at hl 1 rfl) ?_
  obtain ⟨u_1, hS_1, hF⟩ := rd_bind hF
  have hPc := hP.sub (ws' := (wd_Stacks_topOf kA a0 a1 a2 v0_0 (.ref a3) f1 f2)) [0, 1, 2] rfl
  have hDc := hD.sub (ws' := (wd_Stacks_topOf kA a0 a1 a2 v0_0 (.ref a3) f1 f2)) [0, 1, 2] (by decide) rfl
  have hFc := va_free (wc := (wd_Stacks_topOf kA a0 a1 a2 v0_0 (.ref a3) f1 f2)) hD hS hA [0, 1, 2] rfl
  refine va_calli (va_runV (As := [.int p1]) (rest := []) ⟨hx, hb, hml, hown, hts⟩ (c_Stacks_topOf l dC dI kA s.heap.size a0 a1 a2 v0_0 (.ref a3) p1 f1 f2 u_1 hS_1) (cwV 1 hts (gw_V gw_82 gw_83 gw_84 gw_85 gw_86) rfl rfl rfl (by decide +kernel) ⟨Nat.le_of_ble_eq_true rfl, Nat.le_of_ble_eq_true rfl⟩) ⟨fun a U g mk q => by obtain ⟨q0, q1, qP, qK, qD⟩ := q; exact ⟨q0, q1, qP, va_K.moved (u := U) (U := U.calling g mk a) (Vm.Alike.refl U.vm) qK, qD⟩, va_recv hK hP (ci := 5) (q0 := 0) rfl rfl, fun U hU hW => ⟨rfl, by rw [hU], by rw [hU]; exact hPc, va_K.moved hW.alike hK, hDc.weaken (fun _ _ _ _ => trivial)⟩⟩ rfl rfl hl.1 rfl (lv_room (Nat.le_of_ble_eq_true rfl)) d_Stacks_canMove_2 ⟨Nat.zero_le _, Nat.zero_le _⟩) hS (fun q _ h => hFc q h) hFc (fun r1 u t H1 locs ht hvm hw hB hz1 hk1 hS => ?_)
  rw [show r1 = _ from hw]
  obtain ⟨hP1, hK1, hD1⟩ := hB
  rw [ht] at hP1
  obtain ⟨hP, hD⟩ := va_join (wr := [(a3, .inr (6, [v3_0, .ref a5, .ref a4, .int x3_3, v3_4])), (a4, .inl (kA 0, 280, .inl f4)), (a5, .inl (kA 0, 480, .inl f5))]) (w1 := (wd_Stacks_topOf kA a0 a1 a2 v0_0 (.ref a3) f1 f2)) hP hD [0, 1, 2] [3, 4, 5] rfl rfl (by decide) (by decide) hk1 hFc hP1 hD1
  have hP := hP.sub (ws' := (wd_Stacks_canMove kA a0 a1 a2 a3 a4 a5 v0_0 v3_0 v3_4 f1 f2 x3_3 f4 f5)) [3, 4, 5, 0, 1, 2] rfl
  have hD := hD.sub (ws' := (wd_Stacks_canMove kA a0 a1 a2 a3 a4 a5 v0_0 v3_0 v3_4 f1 f2 x3_3 f4 f5)) [3, 4, 5, 0, 1, 2] (by decide) rfl
  clear hPc hDc hFc hP1 hK1 hD1
  generalize H1 = H at hP hS ⊢
  refine lv_istore_n (lv' := [(3, .int u_1), (0, .ref a0), (1, .int p1), (2, .int p2)]) hx hb d_Stacks_canMove_5 rfl hl (by decide) rfl (fun ls hl => ?_)
  refine lv_aload_n hx hb d_Stacks_canMove_6 rfl (lv_at hl 1 rfl) ?_
  refine va_get (D := (dC, dI)) (ci := 5) (v := .ref a3) (C := R_Stacks) (T := F_Stacks) (N := 4) hx hb hg iw_Stacks hown hK hP 0 rfl rfl 1 (by decide) (hg _ gw_87) (fun _ h9 => h9) rfl d_Stacks_canMove_7 ?_
  refine lv_iload_n hx hb d_Stacks_canMove_10 rfl (lv_at hl 0 rfl) ?_
  refine lv_iload_n hx hb d_Stacks_canMove_11 rfl (lv_at hl 3 rfl) ?_
  obtain ⟨u_2, hS_2, hF⟩ := rd_bind hF
  have hPc := hP.sub (ws' := (wd_States_reducedBy kA a3 a4 v3_0 (.ref a5) v3_4 x3_3 f4)) [3, 4] rfl
  have hDc := hD.sub (ws' := (wd_States_reducedBy kA a3 a4 v3_0 (.ref a5) v3_4 x3_3 f4)) [3, 4] (by decide) rfl
  have hFc := va_free (wc := (wd_States_reducedBy kA a3 a4 v3_0 (.ref a5) v3_4 x3_3 f4)) hD hS hA [3, 4] rfl
  refine va_calli (va_runV (As := [.int u_1, .int p2]) (rest := []) ⟨hx, hb, hml, hown, hts⟩ (c_States_reducedBy l dC dI kA H.size a3 a4 v3_0 (.ref a5) v3_4 u_1 p2 x3_3 f4 u_2 hS_2) (cwV 2 hts (gw_V gw_88 gw_89 gw_90 gw_91 gw_92) rfl rfl rfl (by decide +kernel) ⟨Nat.le_of_ble_eq_true rfl, Nat.le_of_ble_eq_true rfl⟩) ⟨fun a U g mk q => by obtain ⟨q0, q1, qP, qK, qD⟩ := q; exact ⟨q0, q1, qP, va_K.moved (u := U) (U := U.calling g mk a) (Vm.Alike.refl U.vm) qK, qD⟩, va_recv hK hP (ci := 6) (q0 := 3) rfl rfl, fun U hU hW => ⟨rfl, by rw [hU], by rw [hU]; exact hPc, va_K.moved hW.alike hK, hDc.weaken (fun _ _ _ _ => trivial)⟩⟩ rfl rfl hl.1 rfl (lv_room (Nat.le_of_ble_eq_true rfl)) d_Stacks_canMove_12 ⟨Nat.zero_le _, Nat.zero_le _⟩) hS (fun q _ h => hFc q h) hFc (fun r1 u t H1 locs ht hvm hw hB hz1 hk1 hS => ?_)
  rw [show r1 = _ from hw]
  obtain ⟨hP1, hK1, hD1⟩ := hB
  rw [ht] at hP1
  obtain ⟨hP, hD⟩ := va_join (wr := [(a0, .inr (5, [v0_0, .ref a3, .ref a1, .ref a2])), (a1, .inl (kA 0, 4096, .inl f1)), (a2, .inl (kA 0, 8, .inl f2)), (a5, .inl (kA 0, 480, .inl f5))]) (w1 := (wd_States_reducedBy kA a3 a4 v3_0 (.ref a5) v3_4 x3_3 f4)) hP hD [3, 4] [0, 1, 2, 5] rfl rfl (by decide) (by decide) hk1 hFc hP1 hD1
  have hP := hP.sub (ws' := (wd_Stacks_canMove kA a0 a1 a2 a3 a4 a5 v0_0 v3_0 v3_4 f1 f2 x3_3 f4 f5)) [0, 1, 2, 4, 5, 3] rfl
  have hD := hD.sub (ws' := (wd_Stacks_canMove kA a0 a1 a2 a3 a4 a5 v0_0 v3_0 v3_4 f1 f2 x3_3 f4 f5)) [0, 1, 2, 4, 5, 3] (by decide) rfl
  clear hPc hDc hFc hP1 hK1 hD1
  generalize H1 = H at hP hS ⊢
  refine lv_if_ge (tgt := 36) hx hb d_Stacks_canMove_15 (by decide) (fun c_3 => ?_) (fun c_3 => ?_)
  · rw [if_pos c_3] at hF
    refine lv_iconst (v := 1) hx hb d_Stacks_canMove_36 (by decide) ?_
    refine lv_goto (tgt := 41) hx hb d_Stacks_canMove_37 (by decide) ?_
    have e0 := Option.some.inj hF
    exact W.zret (v := 1) hx hb hr rfl (fun t ht hW => ⟨⟨1, (), rfl, e0, by rw [ht]; exact hP, va_K.moved hW.alike hK, (by exact hD)⟩, hS.F ht⟩) hS.2.2 d_Stacks_canMove_41 hlocks
  · rw [if_neg c_3] at hF
    refine lv_iload_n hx hb d_Stacks_canMove_18 rfl (lv_at hl 3 rfl) ?_
    refine lv_bipush (v := 6) hx hb d_Stacks_canMove_19 (by decide) ?_
    refine lv_icmp_eq (tgt := 40) hx hb d_Stacks_canMove_21 (by decide) (fun c_4 => ?_) (fun c_4 => ?_)
    · rw [if_pos c_4] at hF
      refine lv_iconst (v := 0) hx hb d_Stacks_canMove_40 (by decide) ?_
      have e0 := Option.some.inj hF
      exact W.zret (v := 0) hx hb hr rfl (fun t ht hW => ⟨⟨0, (), rfl, e0, by rw [ht]; exact hP, va_K.moved hW.alike hK, (by exact hD)⟩, hS.F ht⟩) hS.2.2 d_Stacks_canMove_41 hlocks
    · rw [if_neg c_4] at hF
      refine lv_aload_n hx hb d_Stacks_canMove_24 rfl (lv_at hl 1 rfl) ?_
      refine va_get (D := (dC, dI)) (ci := 5) (v := .ref a3) (C := R_Stacks) (T := F_Stacks) (N := 4) hx hb hg iw_Stacks hown hK hP 0 rfl rfl 1 (by decide) (hg _ gw_87) (fun _ h9 => h9) rfl d_Stacks_canMove_25 ?_
      refine lv_iload_n hx hb d_Stacks_canMove_28 rfl (lv_at hl 0 rfl) ?_
      refine lv_iload_n hx hb d_Stacks_canMove_29 rfl (lv_at hl 3 rfl) ?_
      obtain ⟨u_5, hS_5, hF⟩ := rd_bind hF
      have hPc := hP.sub (ws' := (wd_States_targetOf kA a3 a5 v3_0 (.ref a4) v3_4 x3_3 f5)) [3, 5] rfl
      have hDc := hD.sub (ws' := (wd_States_targetOf kA a3 a5 v3_0 (.ref a4) v3_4 x3_3 f5)) [3, 5] (by decide) rfl
      have hFc := va_free (wc := (wd_States_targetOf kA a3 a5 v3_0 (.ref a4) v3_4 x3_3 f5)) hD hS hA [3, 5] rfl
      refine va_calli (va_runV (As := [.int u_1, .int p2]) (rest := []) ⟨hx, hb, hml, hown, hts⟩ (c_States_targetOf l dC dI kA H.size a3 a5 v3_0 (.ref a4) v3_4 u_1 p2 x3_3 f5 u_5 hS_5) (cwV 2 hts (gw_V gw_93 gw_94 gw_95 gw_91 gw_96) rfl rfl rfl (by decide +kernel) ⟨Nat.le_of_ble_eq_true rfl, Nat.le_of_ble_eq_true rfl⟩) ⟨fun a U g mk q => by obtain ⟨q0, q1, qP, qK, qD⟩ := q; exact ⟨q0, q1, qP, va_K.moved (u := U) (U := U.calling g mk a) (Vm.Alike.refl U.vm) qK, qD⟩, va_recv hK hP (ci := 6) (q0 := 3) rfl rfl, fun U hU hW => ⟨rfl, by rw [hU], by rw [hU]; exact hPc, va_K.moved hW.alike hK, hDc.weaken (fun _ _ _ _ => trivial)⟩⟩ rfl rfl hl.1 rfl (lv_room (Nat.le_of_ble_eq_true rfl)) d_Stacks_canMove_30 ⟨Nat.zero_le _, Nat.zero_le _⟩) hS (fun q _ h => hFc q h) hFc (fun r1 u t H1 locs ht hvm hw hB hz1 hk1 hS => ?_)
      rw [show r1 = _ from hw]
      obtain ⟨hP1, hK1, hD1⟩ := hB
      rw [ht] at hP1
      obtain ⟨hP, hD⟩ := va_join (wr := [(a0, .inr (5, [v0_0, .ref a3, .ref a1, .ref a2])), (a1, .inl (kA 0, 4096, .inl f1)), (a2, .inl (kA 0, 8, .inl f2)), (a4, .inl (kA 0, 280, .inl f4))]) (w1 := (wd_States_targetOf kA a3 a5 v3_0 (.ref a4) v3_4 x3_3 f5)) hP hD [3, 5] [0, 1, 2, 4] rfl rfl (by decide) (by decide) hk1 hFc hP1 hD1
      have hP := hP.sub (ws' := (wd_Stacks_canMove kA a0 a1 a2 a3 a4 a5 v0_0 v3_0 v3_4 f1 f2 x3_3 f4 f5)) [0, 1, 2, 4, 3, 5] rfl
      have hD := hD.sub (ws' := (wd_Stacks_canMove kA a0 a1 a2 a3 a4 a5 v0_0 v3_0 v3_4 f1 f2 x3_3 f4 f5)) [0, 1, 2, 4, 3, 5] (by decide) rfl
      clear hPc hDc hFc hP1 hK1 hD1
      generalize H1 = H at hP hS ⊢
      refine lv_if_lt (tgt := 40) hx hb d_Stacks_canMove_33 (by decide) (fun c_6 => ?_) (fun c_6 => ?_)
      · rw [if_pos c_6] at hF
        refine lv_iconst (v := 0) hx hb d_Stacks_canMove_40 (by decide) ?_
        have e0 := Option.some.inj hF
        exact W.zret (v := 0) hx hb hr rfl (fun t ht hW => ⟨⟨0, (), rfl, e0, by rw [ht]; exact hP, va_K.moved hW.alike hK, (by exact hD)⟩, hS.F ht⟩) hS.2.2 d_Stacks_canMove_41 hlocks
      · rw [if_neg c_6] at hF
        refine lv_iconst (v := 1) hx hb d_Stacks_canMove_36 (by decide) ?_
        refine lv_goto (tgt := 41) hx hb d_Stacks_canMove_37 (by decide) ?_
        have e0 := Option.some.inj hF
        exact W.zret (v := 1) hx hb hr rfl (fun t ht hW => ⟨⟨1, (), rfl, e0, by rw [ht]; exact hP, va_K.moved hW.alike hK, (by exact hD)⟩, hS.F ht⟩) hS.2.2 d_Stacks_canMove_41 hlocks
-- ===== RepairDesk$Stacks.copy(II)V
abbrev wd_Stacks_copy (kA : Nat → ClassId) (a0 a1 a2 : Nat) (v0_0 v0_1 : Value) (f1 : (Nat → Int32)) (f2 : (Nat → Int32)) : va_W := [(a0, .inr (5, [v0_0, v0_1, .ref a1, .ref a2])), (a1, .inl (kA 0, 4096, .inl f1)), (a2, .inl (kA 0, 8, .inl f2))]
abbrev rm_Stacks_copy : Room := { frames := 1, cells := 0, slots := 0, locals := 60 }
def S_Stacks_copy (p1 : Int32) (p2 : Int32) (f1 : (Nat → Int32)) (f2 : (Nat → Int32)) : Option ((Nat → Int32) × (Nat → Int32)) := (if p1 < 0 then (some (f1, f2)) else (if 8 ≤ p1 then (some (f1, f2)) else (if p2 < 0 then (some (f1, f2)) else (if 8 ≤ p2 then (some (f1, f2)) else (if ¬ p1 = p2 then (if (p1 : Int32) < 0 ∨ 8 ≤ (Int32.toNatClampNeg p1) then none else (if ((p1 * 512) : Int32) < 0 ∨ (p2 * 512) < 0 ∨ (f2 (Int32.toNatClampNeg p1)) < 0 ∨ 4096 < (Int32.toNatClampNeg (p1 * 512)) + (Int32.toNatClampNeg (f2 (Int32.toNatClampNeg p1))) ∨ 4096 < (Int32.toNatClampNeg (p2 * 512)) + (Int32.toNatClampNeg (f2 (Int32.toNatClampNeg p1))) then none else (if (p1 : Int32) < 0 ∨ 8 ≤ (Int32.toNatClampNeg p1) then none else (if (p2 : Int32) < 0 ∨ 8 ≤ (Int32.toNatClampNeg p2) then none else (some ((va_cpy f1 f1 (Int32.toNatClampNeg (p1 * 512)) (Int32.toNatClampNeg (p2 * 512)) (Int32.toNatClampNeg (f2 (Int32.toNatClampNeg p1)))), (upd f2 (Int32.toNatClampNeg p2) (f2 (Int32.toNatClampNeg p1))))))))) else (some (f1, f2)))))))
set_option maxHeartbeats 4000000 in
set_option maxRecDepth 100000 in
theorem c_Stacks_copy (l : Launch) (dC : Nat → ClassId) (dI : Nat → Nat → Nat) (kA : Nat → ClassId) (sz : Nat) (a0 a1 a2 : Nat) (v0_0 v0_1 : Value) (p1 : Int32) (p2 : Int32) (f1 : (Nat → Int32)) (f2 : (Nat → Int32)) (of1 : (Nat → Int32)) (of2 : (Nat → Int32)) (hF : S_Stacks_copy p1 p2 f1 f2 = some (of1, of2)) : Met l y_Stacks_copy w_Stacks_copy rm_Stacks_copy (va_Pc [.ref a0, .int p1, .int p2] (fun U => U.heap.size = sz ∧ va_P (dC, dI) classes (wd_Stacks_copy kA a0 a1 a2 v0_0 v0_1 f1 f2) U.heap ∧ va_K (dC, dI) classes (tys_ kA) U ∧ va_D (fun _ => True) (wd_Stacks_copy kA a0 a1 a2 v0_0 v0_1 f1 f2))) (va_Qv (fun (_ : Unit) => True) (fun _ t => va_P (dC, dI) classes (wd_Stacks_copy kA a0 a1 a2 v0_0 v0_1 of1 of2) t.heap ∧ va_K (dC, dI) classes (tys_ kA) t ∧ va_D (va_A (wd_Stacks_copy kA a0 a1 a2 v0_0 v0_1 f1 f2) sz) (wd_Stacks_copy kA a0 a1 a2 v0_0 v0_1 of1 of2)) (va_A (wd_Stacks_copy kA a0 a1 a2 v0_0 v0_1 f1 f2) sz)) 0 0 (va_A (wd_Stacks_copy kA a0 a1 a2 v0_0 v0_1 f1 f2) sz) := by
  refine Met.ofW (cc := b_Stacks_copy) (maxL := 3) (ret := none) (by decide) rfl ?_
  intro p e s m args below meth c s₁ B hml hv
  obtain ⟨rfl, hsz, hP, hK, hD0⟩ := hv
  have hx := B.exec
  have hb := B.bytes
  have hr := B.returns
  have hts := atoms_spec (ws := w_Stacks_copy) B.pre
  have hown : s.vm.findClass R_Stacks = some m.cls := findClass_of_methodNamed B.named
  have hg := fun (w : Cond) (h : w ∈ gw) => hts w (List.mem_cons_of_mem _ h)
  have hlocks := B.notSynchronized
  subst hsz
  have hD := hD0.self (sz := s.heap.size)
  generalize hAe : va_A (wd_Stacks_copy kA a0 a1 a2 v0_0 v0_1 f1 f2) s.heap.size = A at hD ⊢
  have hA : ∀ q : Nat, s.heap.size ≤ q → A q := fun q h => by rw [← hAe]; exact Or.inr h
  have hS : va_S A s.heap s.heap [] := va_S.rf
  have hl := lv_entry ([.ref a0, .int p1, .int p2]) (n := 3) (Nat.le_of_ble_eq_true rfl)
  rw [lg_entry_eq]
  generalize (lg_sl ([.ref a0, .int p1, .int p2]) ++ List.replicate (3 - (lg_sl ([.ref a0, .int p1, .int p2])).length) Slot.unset).toArray = ls at hl ⊢
  have hl : lv_has ls 3 [(0, .ref a0), (1, .int p1), (2, .int p2)] := hl
  unfold S_Stacks_copy at hF
  refine lv_iload_n hx hb d_Stacks_copy_0 rfl (lv_at hl 1 rfl) ?_
  refine lv_if_lt (tgt := 25) hx hb d_Stacks_copy_1 (by decide) (fun c_1 => ?_) (fun c_1 => ?_)
  · rw [if_pos c_1] at hF
    have e0 := Option.some.inj hF
    have q0 := Prod.mk.inj e0
    exact W.vret hx hb hr (fun t ht hW => ⟨⟨(), rfl, trivial, by rw [ht, ← q0.1, ← q0.2]; exact hP, va_K.moved hW.alike hK, (by rw [← q0.1, ← q0.2]; exact hD)⟩, hS.F ht⟩) hS.2.2 d_Stacks_copy_25 hlocks
  · rw [if_neg c_1] at hF
    refine lv_iload_n hx hb d_Stacks_copy_4 rfl (lv_at hl 1 rfl) ?_
    refine lv_bipush (v := 8) hx hb d_Stacks_copy_5 (by decide) ?_
    refine lv_icmp_ge (tgt := 25) hx hb d_Stacks_copy_7 (by decide) (fun c_2 => ?_) (fun c_2 => ?_)
    · rw [if_pos c_2] at hF
      have e0 := Option.some.inj hF
      have q0 := Prod.mk.inj e0
      exact W.vret hx hb hr (fun t ht hW => ⟨⟨(), rfl, trivial, by rw [ht, ← q0.1, ← q0.2]; exact hP, va_K.moved hW.alike hK, (by rw [← q0.1, ← q0.2]; exact hD)⟩, hS.F ht⟩) hS.2.2 d_Stacks_copy_25 hlocks
    · rw [if_neg c_2] at hF
      refine lv_iload_n hx hb d_Stacks_copy_10 rfl (lv_at hl 2 rfl) ?_
      refine lv_if_lt (tgt := 25) hx hb d_Stacks_copy_11 (by decide) (fun c_3 => ?_) (fun c_3 => ?_)
      · rw [if_pos c_3] at hF
        have e0 := Option.some.inj hF
        have q0 := Prod.mk.inj e0
        exact W.vret hx hb hr (fun t ht hW => ⟨⟨(), rfl, trivial, by rw [ht, ← q0.1, ← q0.2]; exact hP, va_K.moved hW.alike hK, (by rw [← q0.1, ← q0.2]; exact hD)⟩, hS.F ht⟩) hS.2.2 d_Stacks_copy_25 hlocks
      · rw [if_neg c_3] at hF
        refine lv_iload_n hx hb d_Stacks_copy_14 rfl (lv_at hl 2 rfl) ?_
        refine lv_bipush (v := 8) hx hb d_Stacks_copy_15 (by decide) ?_
        refine lv_icmp_ge (tgt := 25) hx hb d_Stacks_copy_17 (by decide) (fun c_4 => ?_) (fun c_4 => ?_)
        · rw [if_pos c_4] at hF
          have e0 := Option.some.inj hF
          have q0 := Prod.mk.inj e0
          exact W.vret hx hb hr (fun t ht hW => ⟨⟨(), rfl, trivial, by rw [ht, ← q0.1, ← q0.2]; exact hP, va_K.moved hW.alike hK, (by rw [← q0.1, ← q0.2]; exact hD)⟩, hS.F ht⟩) hS.2.2 d_Stacks_copy_25 hlocks
        · rw [if_neg c_4] at hF
          refine lv_iload_n hx hb d_Stacks_copy_20 rfl (lv_at hl 1 rfl) ?_
          refine lv_iload_n hx hb d_Stacks_copy_21 rfl (lv_at hl 2 rfl) ?_
          refine lv_icmp_ne (tgt := 26) hx hb d_Stacks_copy_22 (by decide) (fun c_5 => ?_) (fun c_5 => ?_)
          · rw [if_pos c_5] at hF
            refine lv_aload_n hx hb d_Stacks_copy_26 rfl (lv_at hl 0 rfl) ?_
            refine va_get (D := (dC, dI)) (ci := 5) (v := .ref a1) (C := R_Stacks) (T := F_Stacks) (N := 4) hx hb hg iw_Stacks hown hK hP 0 rfl rfl 2 (by decide) (hg _ gw_78) (fun _ h9 => h9) rfl d_Stacks_copy_27 ?_
            refine lv_iload_n hx hb d_Stacks_copy_30 rfl (lv_at hl 1 rfl) ?_
            refine lv_sipush (v := 512) hx hb d_Stacks_copy_31 (by decide) ?_
            refine lv_imul hx hb d_Stacks_copy_34 ?_
            refine lv_aload_n hx hb d_Stacks_copy_35 rfl (lv_at hl 0 rfl) ?_
            refine va_get (D := (dC, dI)) (ci := 5) (v := .ref a1) (C := R_Stacks) (T := F_Stacks) (N := 4) hx hb hg iw_Stacks hown hK hP 0 rfl rfl 2 (by decide) (hg _ gw_78) (fun _ h9 => h9) rfl d_Stacks_copy_36 ?_
            refine lv_iload_n hx hb d_Stacks_copy_39 rfl (lv_at hl 2 rfl) ?_
            refine lv_sipush (v := 512) hx hb d_Stacks_copy_40 (by decide) ?_
            refine lv_imul hx hb d_Stacks_copy_43 ?_
            refine lv_aload_n hx hb d_Stacks_copy_44 rfl (lv_at hl 0 rfl) ?_
            refine va_get (D := (dC, dI)) (ci := 5) (v := .ref a2) (C := R_Stacks) (T := F_Stacks) (N := 4) hx hb hg iw_Stacks hown hK hP 0 rfl rfl 3 (by decide) (hg _ gw_77) (fun _ h9 => h9) rfl d_Stacks_copy_45 ?_
            refine lv_iload_n hx hb d_Stacks_copy_48 rfl (lv_at hl 1 rfl) ?_
            obtain ⟨h_6, hF⟩ := rd_chk hF
            refine va_iald hx hb hK hP 2 0 rfl rfl h_6 d_Stacks_copy_49 ?_
            obtain ⟨h_7, hF⟩ := rd_chk hF
            refine va_copyi (ty := .int) hx hb (hml.trans hl.1.symm) hown (hg _ gw_97) (hg _ gw_98) (hg _ gw_99) (hg _ gw_100) hK hP hD hS 1 1 0 0 rfl rfl rfl rfl rfl (rd_c1 h_7) (rd_c2 h_7) (rd_c3 h_7) (rd_c4 h_7) (rd_c5 h_7) (fun _ _ => rfl) (Nat.le_of_ble_eq_true rfl) (Nat.le_of_ble_eq_true rfl) d_Stacks_copy_50 (fun H locs hP hD hS => ?_)
            have hP : va_P (dC, dI) classes (wd_Stacks_copy kA a0 a1 a2 v0_0 v0_1 (va_cpy f1 f1 (Int32.toNatClampNeg (p1 * 512)) (Int32.toNatClampNeg (p2 * 512)) (Int32.toNatClampNeg (f2 (Int32.toNatClampNeg p1)))) f2) H := hP
            have hD : va_D A (wd_Stacks_copy kA a0 a1 a2 v0_0 v0_1 (va_cpy f1 f1 (Int32.toNatClampNeg (p1 * 512)) (Int32.toNatClampNeg (p2 * 512)) (Int32.toNatClampNeg (f2 (Int32.toNatClampNeg p1)))) f2) := hD
            refine lv_aload_n hx hb d_Stacks_copy_53 rfl (lv_at hl 0 rfl) ?_
            refine va_get (D := (dC, dI)) (ci := 5) (v := .ref a2) (C := R_Stacks) (T := F_Stacks) (N := 4) hx hb hg iw_Stacks hown hK hP 0 rfl rfl 3 (by decide) (hg _ gw_77) (fun _ h9 => h9) rfl d_Stacks_copy_54 ?_
            refine lv_iload_n hx hb d_Stacks_copy_57 rfl (lv_at hl 2 rfl) ?_
            refine lv_aload_n hx hb d_Stacks_copy_58 rfl (lv_at hl 0 rfl) ?_
            refine va_get (D := (dC, dI)) (ci := 5) (v := .ref a2) (C := R_Stacks) (T := F_Stacks) (N := 4) hx hb hg iw_Stacks hown hK hP 0 rfl rfl 3 (by decide) (hg _ gw_77) (fun _ h9 => h9) rfl d_Stacks_copy_59 ?_
            refine lv_iload_n hx hb d_Stacks_copy_62 rfl (lv_at hl 1 rfl) ?_
            obtain ⟨h_8, hF⟩ := rd_chk hF
            refine va_iald hx hb hK hP 2 0 rfl rfl h_8 d_Stacks_copy_63 ?_
            obtain ⟨h_9, hF⟩ := rd_chk hF
            refine va_iast hx hb hK hP hD hS 2 0 rfl rfl h_9 d_Stacks_copy_64 (fun H locs hP hD hS => ?_)
            have hP : va_P (dC, dI) classes (wd_Stacks_copy kA a0 a1 a2 v0_0 v0_1 (va_cpy f1 f1 (Int32.toNatClampNeg (p1 * 512)) (Int32.toNatClampNeg (p2 * 512)) (Int32.toNatClampNeg (f2 (Int32.toNatClampNeg p1)))) (upd f2 (Int32.toNatClampNeg p2) (f2 (Int32.toNatClampNeg p1)))) H := hP
            have hD : va_D A (wd_Stacks_copy kA a0 a1 a2 v0_0 v0_1 (va_cpy f1 f1 (Int32.toNatClampNeg (p1 * 512)) (Int32.toNatClampNeg (p2 * 512)) (Int32.toNatClampNeg (f2 (Int32.toNatClampNeg p1)))) (upd f2 (Int32.toNatClampNeg p2) (f2 (Int32.toNatClampNeg p1)))) := hD
            have e0 := Option.some.inj hF
            have q0 := Prod.mk.inj e0
            exact W.vret hx hb hr (fun t ht hW => ⟨⟨(), rfl, trivial, by rw [ht, ← q0.1, ← q0.2]; exact hP, va_K.moved hW.alike hK, (by rw [← q0.1, ← q0.2]; exact hD)⟩, hS.F ht⟩) hS.2.2 d_Stacks_copy_65 hlocks
          · rw [if_neg (fun z => z c_5)] at hF
            have e0 := Option.some.inj hF
            have q0 := Prod.mk.inj e0
            exact W.vret hx hb hr (fun t ht hW => ⟨⟨(), rfl, trivial, by rw [ht, ← q0.1, ← q0.2]; exact hP, va_K.moved hW.alike hK, (by rw [← q0.1, ← q0.2]; exact hD)⟩, hS.F ht⟩) hS.2.2 d_Stacks_copy_25 hlocks
-- ===== RepairDesk$Stacks.replace(III)Z
abbrev wd_Stacks_replace (kA : Nat → ClassId) (a0 a1 a2 a3 a4 : Nat) (v0_0 v3_0 v3_2 v3_4 : Value) (f1 : (Nat → Int32)) (f2 : (Nat → Int32)) (x3_3 : Int32) (f4 : (Nat → Int32)) : va_W := [(a0, .inr (5, [v0_0, .ref a3, .ref a1, .ref a2])), (a1, .inl (kA 0, 4096, .inl f1)), (a2, .inl (kA 0, 8, .inl f2)), (a3, .inr (6, [v3_0, .ref a4, v3_2, .int x3_3, v3_4])), (a4, .inl (kA 0, 480, .inl f4))]
abbrev rm_Stacks_replace : Room := { frames := 1, cells := 0, slots := 0, locals := 22 }
def S_Stacks_replace (p1 : Int32) (p2 : Int32) (p3 : Int32) (f1 : (Nat → Int32)) (f2 : (Nat → Int32)) (x3_3 : Int32) (f4 : (Nat → Int32)) : Option (Int32 × (Nat → Int32) × (Nat → Int32)) := (if (p1 : Int32) < 0 ∨ 8 ≤ (Int32.toNatClampNeg p1) then none else (if ((f2 (Int32.toNatClampNeg p1)) - p2) < 1 then (some (0, f1, f2)) else (if ((f2 (Int32.toNatClampNeg p1)) - p2) < 512 then (if ((((p1 * 512) + ((f2 (Int32.toNatClampNeg p1)) - p2)) - 1) : Int32) < 0 ∨ 4096 ≤ (Int32.toNatClampNeg (((p1 * 512) + ((f2 (Int32.toNatClampNeg p1)) - p2)) - 1)) then none else ((S_States_targetOf (f1 (Int32.toNatClampNeg (((p1 * 512) + ((f2 (Int32.toNatClampNeg p1)) - p2)) - 1))) p3 x3_3 f4).bind fun u_5 => (if 0 ≤ u_5 then (if (((p1 * 512) + ((f2 (Int32.toNatClampNeg p1)) - p2)) : Int32) < 0 ∨ 4096 ≤ (Int32.toNatClampNeg ((p1 * 512) + ((f2 (Int32.toNatClampNeg p1)) - p2))) then none else (if (p1 : Int32) < 0 ∨ 8 ≤ (Int32.toNatClampNeg p1) then none else (some (1, (upd f1 (Int32.toNatClampNeg ((p1 * 512) + ((f2 (Int32.toNatClampNeg p1)) - p2))) u_5), (upd f2 (Int32.toNatClampNeg p1) (((f2 (Int32.toNatClampNeg p1)) - p2) + 1)))))) else (some (0, f1, f2))))) else (some (0, f1, f2)))))
set_option maxHeartbeats 4000000 in
set_option maxRecDepth 100000 in
theorem c_Stacks_replace (l : Launch) (dC : Nat → ClassId) (dI : Nat → Nat → Nat) (kA : Nat → ClassId) (sz : Nat) (a0 a1 a2 a3 a4 : Nat) (v0_0 v3_0 v3_2 v3_4 : Value) (p1 : Int32) (p2 : Int32) (p3 : Int32) (f1 : (Nat → Int32)) (f2 : (Nat → Int32)) (x3_3 : Int32) (f4 : (Nat → Int32)) (r : Int32) (of1 : (Nat → Int32)) (of2 : (Nat → Int32)) (hF : S_Stacks_replace p1 p2 p3 f1 f2 x3_3 f4 = some (r, of1, of2)) : Met l y_Stacks_replace w_Stacks_replace rm_Stacks_replace (va_Pc [.ref a0, .int p1, .int p2, .int p3] (fun U => U.heap.size = sz ∧ va_P (dC, dI) classes (wd_Stacks_replace kA a0 a1 a2 a3 a4 v0_0 v3_0 v3_2 v3_4 f1 f2 x3_3 f4) U.heap ∧ va_K (dC, dI) classes (tys_ kA) U ∧ va_D (fun _ => True) (wd_Stacks_replace kA a0 a1 a2 a3 a4 v0_0 v3_0 v3_2 v3_4 f1 f2 x3_3 f4))) (va_Qi (fun (r1 : Int32) (_ : Unit) => r1 = r) (fun _ t => va_P (dC, dI) classes (wd_Stacks_replace kA a0 a1 a2 a3 a4 v0_0 v3_0 v3_2 v3_4 of1 of2 x3_3 f4) t.heap ∧ va_K (dC, dI) classes (tys_ kA) t ∧ va_D (va_A (wd_Stacks_replace kA a0 a1 a2 a3 a4 v0_0 v3_0 v3_2 v3_4 f1 f2 x3_3 f4) sz) (wd_Stacks_replace kA a0 a1 a2 a3 a4 v0_0 v3_0 v3_2 v3_4 of1 of2 x3_3 f4)) (va_A (wd_Stacks_replace kA a0 a1 a2 a3 a4 v0_0 v3_0 v3_2 v3_4 f1 f2 x3_3 f4) sz)) 0 0 (va_A (wd_Stacks_replace kA a0 a1 a2 a3 a4 v0_0 v3_0 v3_2 v3_4 f1 f2 x3_3 f4) sz) := by
  refine Met.ofW (cc := b_Stacks_replace) (maxL := 6) (ret := some .boolean) (by decide) rfl ?_
  intro p e s m args below meth c s₁ B hml hv
  obtain ⟨rfl, hsz, hP, hK, hD0⟩ := hv
  have hx := B.exec
  have hb := B.bytes
  have hr := B.returns
  have hts := atoms_spec (ws := w_Stacks_replace) B.pre
  have hown : s.vm.findClass R_Stacks = some m.cls := findClass_of_methodNamed B.named
  have hg := fun (w : Cond) (h : w ∈ gw) => hts w (List.mem_cons_of_mem _ h)
  have hlocks := B.notSynchronized
  subst hsz
  have hD := hD0.self (sz := s.heap.size)
  generalize hAe : va_A (wd_Stacks_replace kA a0 a1 a2 a3 a4 v0_0 v3_0 v3_2 v3_4 f1 f2 x3_3 f4) s.heap.size = A at hD ⊢
  have hA : ∀ q : Nat, s.heap.size ≤ q → A q := fun q h => by rw [← hAe]; exact Or.inr h
  have hS : va_S A s.heap s.heap [] := va_S.rf
  have hl := lv_entry ([.ref a0, .int p1, .int p2, .int p3]) (n := 6) (Nat.le_of_ble_eq_true rfl)
  rw [lg_entry_eq]
  generalize (lg_sl ([.ref a0, .int p1, .int p2, .int p3]) ++ List.replicate (6 - (lg_sl ([.ref a0, .int p1, .int p2, .int p3])).length) Slot.unset).toArray = ls at hl ⊢
  have hl : lv_has ls 6 [(0, .ref a0), (1, .int p1), (2, .int p2), (3, .int p3)] := hl
  unfold S_Stacks_replace at hF
  refine lv_aload_n hx hb d_Stacks_replace_0 rfl (lv_at hl 0 rfl) ?_
  refine va_get (D := (dC, dI)) (ci := 5) (v := .ref a2) (C := R_Stacks) (T := F_Stacks) (N := 4) hx hb hg iw_Stacks hown hK hP 0 rfl rfl 3 (by decide) (hg _ gw_77) (fun _ h9 => h9) rfl d_Stacks_replace_1 ?_
  refine lv_iload_n hx hb d_Stacks_replace_4 rfl (lv_at hl 1 rfl) ?_
  obtain ⟨h_1, hF⟩ := rd_chk hF
  refine va_iald hx hb hK hP 2 0 rfl rfl h_1 d_Stacks_replace_5 ?_
  refine lv_iload_n hx hb d_Stacks_replace_6 rfl (lv_at hl 2 rfl) ?_
  refine lv_isub hx hb d_Stacks_replace_7 ?_
  refine lv_istore (lv' := [(4, .int ((f2 (Int32.toNatClampNeg p1)) - p2)), (0, .ref a0), (1, .int p1), (2, .int p2), (3, .int p3)]) hx hb d_Stacks_replace_8 hl (by decide) rfl (fun ls hl => ?_)
  refine lv_iload hx hb d_Stacks_replace_10 (lv_at hl 0 rfl) ?_
  refine lv_iconst (v := 1) hx hb d_Stacks_replace_12 (by decide) ?_
  refine lv_icmp_lt (tgt := 24) hx hb d_Stacks_replace_13 (by decide) (fun c_2 => ?_) (fun c_2 => ?_)
  · rw [if_pos c_2] at hF
    refine lv_iconst (v := 0) hx hb d_Stacks_replace_24 (by decide) ?_
    have e0 := Option.some.inj hF
    have q0 := Prod.mk.inj e0
    have q1 := Prod.mk.inj q0.2
    exact W.zret (v := 0) hx hb hr rfl (fun t ht hW => ⟨⟨0, (), rfl, q0.1, by rw [ht, ← q1.1, ← q1.2]; exact hP, va_K.moved hW.alike hK, (by rw [← q1.1, ← q1.2]; exact hD)⟩, hS.F ht⟩) hS.2.2 d_Stacks_replace_25 hlocks
  · rw [if_neg c_2] at hF
    refine lv_iload hx hb d_Stacks_replace_16 (lv_at hl 0 rfl) ?_
    refine lv_sipush (v := 512) hx hb d_Stacks_replace_18 (by decide) ?_
    refine lv_icmp_lt (tgt := 26) hx hb d_Stacks_replace_21 (by decide) (fun c_3 => ?_) (fun c_3 => ?_)
    · rw [if_pos c_3] at hF
      refine lv_aload_n hx hb d_Stacks_replace_26 rfl (lv_at hl 1 rfl) ?_
      refine va_get (D := (dC, dI)) (ci := 5) (v := .ref a3) (C := R_Stacks) (T := F_Stacks) (N := 4) hx hb hg iw_Stacks hown hK hP 0 rfl rfl 1 (by decide) (hg _ gw_87) (fun _ h9 => h9) rfl d_Stacks_replace_27 ?_
      refine lv_aload_n hx hb d_Stacks_replace_30 rfl (lv_at hl 1 rfl) ?_
      refine va_get (D := (dC, dI)) (ci := 5) (v := .ref a1) (C := R_Stacks) (T := F_Stacks) (N := 4) hx hb hg iw_Stacks hown hK hP 0 rfl rfl 2 (by decide) (hg _ gw_78) (fun _ h9 => h9) rfl d_Stacks_replace_31 ?_
      refine lv_iload_n hx hb d_Stacks_replace_34 rfl (lv_at hl 2 rfl) ?_
      refine lv_sipush (v := 512) hx hb d_Stacks_replace_35 (by decide) ?_
      refine lv_imul hx hb d_Stacks_replace_38 ?_
      refine lv_iload hx hb d_Stacks_replace_39 (lv_at hl 0 rfl) ?_
      refine lv_iadd hx hb d_Stacks_replace_41 ?_
      refine lv_iconst (v := 1) hx hb d_Stacks_replace_42 (by decide) ?_
      refine lv_isub hx hb d_Stacks_replace_43 ?_
      obtain ⟨h_4, hF⟩ := rd_chk hF
      refine va_iald hx hb hK hP 1 0 rfl rfl h_4 d_Stacks_replace_44 ?_
      refine lv_iload_n hx hb d_Stacks_replace_45 rfl (lv_at hl 4 rfl) ?_
      obtain ⟨u_5, hS_5, hF⟩ := rd_bind hF
      have hPc := hP.sub (ws' := (wd_States_targetOf kA a3 a4 v3_0 v3_2 v3_4 x3_3 f4)) [3, 4] rfl
      have hDc := hD.sub (ws' := (wd_States_targetOf kA a3 a4 v3_0 v3_2 v3_4 x3_3 f4)) [3, 4] (by decide) rfl
      have hFc := va_free (wc := (wd_States_targetOf kA a3 a4 v3_0 v3_2 v3_4 x3_3 f4)) hD hS hA [3, 4] rfl
      refine va_calli (va_runV (As := [.int (f1 (Int32.toNatClampNeg (((p1 * 512) + ((f2 (Int32.toNatClampNeg p1)) - p2)) - 1))), .int p3]) (rest := []) ⟨hx, hb, hml, hown, hts⟩ (c_States_targetOf l dC dI kA s.heap.size a3 a4 v3_0 v3_2 v3_4 (f1 (Int32.toNatClampNeg (((p1 * 512) + ((f2 (Int32.toNatClampNeg p1)) - p2)) - 1))) p3 x3_3 f4 u_5 hS_5) (cwV 2 hts (gw_V gw_93 gw_94 gw_95 gw_91 gw_96) rfl rfl rfl (by decide +kernel) ⟨Nat.le_of_ble_eq_true rfl, Nat.le_of_ble_eq_true rfl⟩) ⟨fun a U g mk q => by obtain ⟨q0, q1, qP, qK, qD⟩ := q; exact ⟨q0, q1, qP, va_K.moved (u := U) (U := U.calling g mk a) (Vm.Alike.refl U.vm) qK, qD⟩, va_recv hK hP (ci := 6) (q0 := 3) rfl rfl, fun U hU hW => ⟨rfl, by rw [hU], by rw [hU]; exact hPc, va_K.moved hW.alike hK, hDc.weaken (fun _ _ _ _ => trivial)⟩⟩ rfl rfl hl.1 rfl (lv_room (Nat.le_of_ble_eq_true rfl)) d_Stacks_replace_46 ⟨Nat.zero_le _, Nat.zero_le _⟩) hS (fun q _ h => hFc q h) hFc (fun r1 u t H1 locs ht hvm hw hB hz1 hk1 hS => ?_)
      rw [show r1 = _ from hw]
      obtain ⟨hP1, hK1, hD1⟩ := hB
      rw [ht] at hP1
      obtain ⟨hP, hD⟩ := va_join (wr := [(a0, .inr (5, [v0_0, .ref a3, .ref a1, .ref a2])), (a1, .inl (kA 0, 4096, .inl f1)), (a2, .inl (kA 0, 8, .inl f2))]) (w1 := (wd_States_targetOf kA a3 a4 v3_0 v3_2 v3_4 x3_3 f4)) hP hD [3, 4] [0, 1, 2] rfl rfl (by decide) (by decide) hk1 hFc hP1 hD1
      have hP := hP.sub (ws' := (wd_Stacks_replace kA a0 a1 a2 a3 a4 v0_0 v3_0 v3_2 v3_4 f1 f2 x3_3 f4)) [0, 1, 2, 3, 4] rfl
      have hD := hD.sub (ws' := (wd_Stacks_replace kA a0 a1 a2 a3 a4 v0_0 v3_0 v3_2 v3_4 f1 f2 x3_3 f4)) [0, 1, 2, 3, 4] (by decide) rfl
      clear hPc hDc hFc hP1 hK1 hD1
      generalize H1 = H at hP hS ⊢
      refine lv_istore (lv' := [(5, .int u_5), (4, .int ((f2 (Int32.toNatClampNeg p1)) - p2)), (0, .ref a0), (1, .int p1), (2, .int p2), (3, .int p3)]) hx hb d_Stacks_replace_49 hl (by decide) rfl (fun ls hl => ?_)
      refine lv_iload hx hb d_Stacks_replace_51 (lv_at hl 0 rfl) ?_
      refine lv_if_ge (tgt := 58) hx hb d_Stacks_replace_53 (by decide) (fun c_6 => ?_) (fun c_6 => ?_)
      · rw [if_pos c_6] at hF
        refine lv_aload_n hx hb d_Stacks_replace_58 rfl (lv_at hl 2 rfl) ?_
        refine va_get (D := (dC, dI)) (ci := 5) (v := .ref a1) (C := R_Stacks) (T := F_Stacks) (N := 4) hx hb hg iw_Stacks hown hK hP 0 rfl rfl 2 (by decide) (hg _ gw_78) (fun _ h9 => h9) rfl d_Stacks_replace_59 ?_
        refine lv_iload_n hx hb d_Stacks_replace_62 rfl (lv_at hl 3 rfl) ?_
        refine lv_sipush (v := 512) hx hb d_Stacks_replace_63 (by decide) ?_
        refine lv_imul hx hb d_Stacks_replace_66 ?_
        refine lv_iload hx hb d_Stacks_replace_67 (lv_at hl 1 rfl) ?_
        refine lv_iadd hx hb d_Stacks_replace_69 ?_
        refine lv_iload hx hb d_Stacks_replace_70 (lv_at hl 0 rfl) ?_
        obtain ⟨h_7, hF⟩ := rd_chk hF
        refine va_iast hx hb hK hP hD hS 1 0 rfl rfl h_7 d_Stacks_replace_72 (fun H locs hP hD hS => ?_)
        have hP : va_P (dC, dI) classes (wd_Stacks_replace kA a0 a1 a2 a3 a4 v0_0 v3_0 v3_2 v3_4 (upd f1 (Int32.toNatClampNeg ((p1 * 512) + ((f2 (Int32.toNatClampNeg p1)) - p2))) u_5) f2 x3_3 f4) H := hP
        have hD : va_D A (wd_Stacks_replace kA a0 a1 a2 a3 a4 v0_0 v3_0 v3_2 v3_4 (upd f1 (Int32.toNatClampNeg ((p1 * 512) + ((f2 (Int32.toNatClampNeg p1)) - p2))) u_5) f2 x3_3 f4) := hD
        refine lv_aload_n hx hb d_Stacks_replace_73 rfl (lv_at hl 2 rfl) ?_
        refine va_get (D := (dC, dI)) (ci := 5) (v := .ref a2) (C := R_Stacks) (T := F_Stacks) (N := 4) hx hb hg iw_Stacks hown hK hP 0 rfl rfl 3 (by decide) (hg _ gw_77) (fun _ h9 => h9) rfl d_Stacks_replace_74 ?_
        refine lv_iload_n hx hb d_Stacks_replace_77 rfl (lv_at hl 3 rfl) ?_
        refine lv_iload hx hb d_Stacks_replace_78 (lv_at hl 1 rfl) ?_
        refine lv_iconst (v := 1) hx hb d_Stacks_replace_80 (by decide) ?_
        refine lv_iadd hx hb d_Stacks_replace_81 ?_
        obtain ⟨h_8, hF⟩ := rd_chk hF
        refine va_iast hx hb hK hP hD hS 2 0 rfl rfl h_8 d_Stacks_replace_82 (fun H locs hP hD hS => ?_)
        have hP : va_P (dC, dI) classes (wd_Stacks_replace kA a0 a1 a2 a3 a4 v0_0 v3_0 v3_2 v3_4 (upd f1 (Int32.toNatClampNeg ((p1 * 512) + ((f2 (Int32.toNatClampNeg p1)) - p2))) u_5) (upd f2 (Int32.toNatClampNeg p1) (((f2 (Int32.toNatClampNeg p1)) - p2) + 1)) x3_3 f4) H := hP
        have hD : va_D A (wd_Stacks_replace kA a0 a1 a2 a3 a4 v0_0 v3_0 v3_2 v3_4 (upd f1 (Int32.toNatClampNeg ((p1 * 512) + ((f2 (Int32.toNatClampNeg p1)) - p2))) u_5) (upd f2 (Int32.toNatClampNeg p1) (((f2 (Int32.toNatClampNeg p1)) - p2) + 1)) x3_3 f4) := hD
        refine lv_iconst (v := 1) hx hb d_Stacks_replace_83 (by decide) ?_
        have e0 := Option.some.inj hF
        have q0 := Prod.mk.inj e0
        have q1 := Prod.mk.inj q0.2
        exact W.zret (v := 1) hx hb hr rfl (fun t ht hW => ⟨⟨1, (), rfl, q0.1, by rw [ht, ← q1.1, ← q1.2]; exact hP, va_K.moved hW.alike hK, (by rw [← q1.1, ← q1.2]; exact hD)⟩, hS.F ht⟩) hS.2.2 d_Stacks_replace_84 hlocks
      · rw [if_neg c_6] at hF
        refine lv_iconst (v := 0) hx hb d_Stacks_replace_56 (by decide) ?_
        have e0 := Option.some.inj hF
        have q0 := Prod.mk.inj e0
        have q1 := Prod.mk.inj q0.2
        exact W.zret (v := 0) hx hb hr rfl (fun t ht hW => ⟨⟨0, (), rfl, q0.1, by rw [ht, ← q1.1, ← q1.2]; exact hP, va_K.moved hW.alike hK, (by rw [← q1.1, ← q1.2]; exact hD)⟩, hS.F ht⟩) hS.2.2 d_Stacks_replace_57 hlocks
    · rw [if_neg c_3] at hF
      refine lv_iconst (v := 0) hx hb d_Stacks_replace_24 (by decide) ?_
      have e0 := Option.some.inj hF
      have q0 := Prod.mk.inj e0
      have q1 := Prod.mk.inj q0.2
      exact W.zret (v := 0) hx hb hr rfl (fun t ht hW => ⟨⟨0, (), rfl, q0.1, by rw [ht, ← q1.1, ← q1.2]; exact hP, va_K.moved hW.alike hK, (by rw [← q1.1, ← q1.2]; exact hD)⟩, hS.F ht⟩) hS.2.2 d_Stacks_replace_25 hlocks
-- ===== RepairDesk$Stacks.feed(III)Z
abbrev wd_Stacks_feed (kA : Nat → ClassId) (a0 a1 a2 a3 a4 a5 a6 a7 a8 : Nat) (v2_2 v2_3 v2_4 v2_5 v2_6 v4_0 v4_4 : Value) (f1 : (Nat → Int32)) (f3 : (Nat → Int32)) (x4_3 : Int32) (f5 : (Nat → Int32)) (f6 : (Nat → Int32)) (f7 : (Nat → Int32)) (f8 : (Nat → Int32)) : va_W := [(a0, .inr (5, [.ref a2, .ref a4, .ref a1, .ref a3])), (a1, .inl (kA 0, 4096, .inl f1)), (a2, .inr (2, [.ref a5, .ref a6, v2_2, v2_3, v2_4, v2_5, v2_6])), (a3, .inl (kA 0, 8, .inl f3)), (a4, .inr (6, [v4_0, .ref a8, .ref a7, .int x4_3, v4_4])), (a5, .inl (kA 0, 12, .inl f5)), (a6, .inl (kA 0, 12, .inl f6)), (a7, .inl (kA 0, 280, .inl f7)), (a8, .inl (kA 0, 480, .inl f8))]
abbrev rm_Stacks_feed : Room := { frames := 2, cells := 0, slots := 0, locals := 82 }
def B_Stacks_feed_0 (K : Nat → Int32 → Int32 → Int32 → Int32 → Int32 → (Nat → Int32) → (Nat → Int32) → Option (Int32 × (Nat → Int32) × (Nat → Int32))) (x4_3 : Int32) (f5 : (Nat → Int32)) (f6 : (Nat → Int32)) (f7 : (Nat → Int32)) (f8 : (Nat → Int32)) (l1 : Int32) (l2 : Int32) (l3 : Int32) (l4 : Int32) (l5 : Int32) (f1 : (Nat → Int32)) (f3 : (Nat → Int32)) : Option (Int32 × (Nat → Int32) × (Nat → Int32)) := (if (0 : Int32) = 0 then (some (0, f1, f3)) else ((S_Stacks_canMove l1 l3 f1 f3 x4_3 f7 f8).bind fun u_2 => (if ¬ u_2 = 0 then ((S_Stacks_copy l1 l2 f1 f3).bind fun u_4 => (K 1 l1 l2 l3 0 0 u_4.1 u_4.2)) else (some (0, f1, f3)))))
def B_Stacks_feed_1 (K : Nat → Int32 → Int32 → Int32 → Int32 → Int32 → (Nat → Int32) → (Nat → Int32) → Option (Int32 × (Nat → Int32) × (Nat → Int32))) (x4_3 : Int32) (f5 : (Nat → Int32)) (f6 : (Nat → Int32)) (f7 : (Nat → Int32)) (f8 : (Nat → Int32)) (l1 : Int32) (l2 : Int32) (l3 : Int32) (l4 : Int32) (l5 : Int32) (f1 : (Nat → Int32)) (f3 : (Nat → Int32)) : Option (Int32 × (Nat → Int32) × (Nat → Int32)) := (if 1000000 ≤ l5 then (some (0, f1, f3)) else ((S_Stacks_topOf l2 f1 f3).bind fun u_6 => ((S_States_reducedBy u_6 l3 x4_3 f7).bind fun u_7 => (if 0 ≤ u_7 then ((S_Grammar_sizeOf u_7 f6).bind fun u_9 => ((S_Grammar_nameOf u_7 f5).bind fun u_10 => ((S_Stacks_replace l2 u_9 u_10 f1 f3 x4_3 f8).bind fun u_11 => (if ¬ u_11.1 = 0 then (K 1 l1 l2 l3 l4 (l5 + 1) u_11.2.1 u_11.2.2) else (some (0, u_11.2.1, u_11.2.2)))))) else ((S_Stacks_replace l2 0 l3 f1 f3 x4_3 f8).bind fun u_13 => (if u_13.1 = 0 ∨ u_13.1 = 1 then some (u_13.1, u_13.2.1, u_13.2.2) else none))))))
def F_Stacks_feed (x4_3 : Int32) (f5 : (Nat → Int32)) (f6 : (Nat → Int32)) (f7 : (Nat → Int32)) (f8 : (Nat → Int32)) : Nat → Nat → Int32 → Int32 → Int32 → Int32 → Int32 → (Nat → Int32) → (Nat → Int32) → Option (Int32 × (Nat → Int32) × (Nat → Int32))
  | 0 => fun _ _ _ _ _ _ _ _ => none
  | n + 1 => fun hd l1 l2 l3 l4 l5 f1 f3 => match hd with
    | 0 => B_Stacks_feed_0 (F_Stacks_feed x4_3 f5 f6 f7 f8 n) x4_3 f5 f6 f7 f8 l1 l2 l3 l4 l5 f1 f3
    | 1 => B_Stacks_feed_1 (F_Stacks_feed x4_3 f5 f6 f7 f8 n) x4_3 f5 f6 f7 f8 l1 l2 l3 l4 l5 f1 f3
    | _ => none
set_option maxHeartbeats 4000000 in
set_option maxRecDepth 100000 in
theorem L_Stacks_feed {p : Program} {l : Launch} {e : Env} {s : State} {m : MethodId} {args : Array Value} {below : List Frame} {meth : Method} {c : Code} {A : Nat → Prop} {dC : Nat → ClassId} {dI : Nat → Nat → Nat} {kA : Nat → ClassId} (hx : p.tables.exec = Jvm.exec) (hb : c.code = b_Stacks_feed) (hr : meth.sig.returnType = some .boolean) (hlocks : meth.locks = false) (hml : c.maxLocals = 7) (hown : s.vm.findClass R_Stacks = some m.cls) (hts : ∀ w ∈ w_Stacks_feed, w.before args s = true) (hA : ∀ q : Nat, s.heap.size ≤ q → A q) (hK : va_K (dC, dI) classes (tys_ kA) s) (a0 a1 a2 a3 a4 a5 a6 a7 a8 : Nat) (v2_2 v2_3 v2_4 v2_5 v2_6 v4_0 v4_4 : Value) (x4_3 : Int32) (f5 : (Nat → Int32)) (f6 : (Nat → Int32)) (f7 : (Nat → Int32)) (f8 : (Nat → Int32)) (r : Int32) (of1 : (Nat → Int32)) (of3 : (Nat → Int32)) : ∀ n : Nat, (∀ (l1 l2 l3 l4 l5 : Int32) (f1 : (Nat → Int32)) (f3 : (Nat → Int32)), F_Stacks_feed x4_3 f5 f6 f7 f8 n 0 l1 l2 l3 l4 l5 f1 f3 = some (r, of1, of3) → ∀ (H : Heap) (locs : List Loc) (ls : Array Slot), va_P (dC, dI) classes (wd_Stacks_feed kA a0 a1 a2 a3 a4 a5 a6 a7 a8 v2_2 v2_3 v2_4 v2_5 v2_6 v4_0 v4_4 f1 f3 x4_3 f5 f6 f7 f8) H → va_D A (wd_Stacks_feed kA a0 a1 a2 a3 a4 a5 a6 a7 a8 v2_2 v2_3 v2_4 v2_5 v2_6 v4_0 v4_4 f1 f3 x4_3 f5 f6 f7 f8) → va_S A s.heap H locs → lv_has ls 7 [(0, .ref a0), (1, .int l1), (2, .int l2), (3, .int l3)] → W p l e (headSpec w_Stacks_feed rm_Stacks_feed).room s m args below meth c H locs 0 0 (MQ below (va_Qi (fun (r1 : Int32) (_ : Unit) => r1 = r) (fun _ t => va_P (dC, dI) classes (wd_Stacks_feed kA a0 a1 a2 a3 a4 a5 a6 a7 a8 v2_2 v2_3 v2_4 v2_5 v2_6 v4_0 v4_4 of1 of3 x4_3 f5 f6 f7 f8) t.heap ∧ va_K (dC, dI) classes (tys_ kA) t ∧ va_D A (wd_Stacks_feed kA a0 a1 a2 a3 a4 a5 a6 a7 a8 v2_2 v2_3 v2_4 v2_5 v2_6 v4_0 v4_4 of1 of3 x4_3 f5 f6 f7 f8)) A) args s 0 0 A) (F0 m 24 ls [])) ∧ (∀ (l1 l2 l3 l4 l5 : Int32) (f1 : (Nat → Int32)) (f3 : (Nat → Int32)), F_Stacks_feed x4_3 f5 f6 f7 f8 n 1 l1 l2 l3 l4 l5 f1 f3 = some (r, of1, of3) → ∀ (H : Heap) (locs : List Loc) (ls : Array Slot), va_P (dC, dI) classes (wd_Stacks_feed kA a0 a1 a2 a3 a4 a5 a6 a7 a8 v2_2 v2_3 v2_4 v2_5 v2_6 v4_0 v4_4 f1 f3 x4_3 f5 f6 f7 f8) H → va_D A (wd_Stacks_feed kA a0 a1 a2 a3 a4 a5 a6 a7 a8 v2_2 v2_3 v2_4 v2_5 v2_6 v4_0 v4_4 f1 f3 x4_3 f5 f6 f7 f8) → va_S A s.heap H locs → lv_has ls 7 [(0, .ref a0), (1, .int l1), (2, .int l2), (3, .int l3), (4, .int l4), (5, .int l5)] → W p l e (headSpec w_Stacks_feed rm_Stacks_feed).room s m args below meth c H locs 0 0 (MQ below (va_Qi (fun (r1 : Int32) (_ : Unit) => r1 = r) (fun _ t => va_P (dC, dI) classes (wd_Stacks_feed kA a0 a1 a2 a3 a4 a5 a6 a7 a8 v2_2 v2_3 v2_4 v2_5 v2_6 v4_0 v4_4 of1 of3 x4_3 f5 f6 f7 f8) t.heap ∧ va_K (dC, dI) classes (tys_ kA) t ∧ va_D A (wd_Stacks_feed kA a0 a1 a2 a3 a4 a5 a6 a7 a8 v2_2 v2_3 v2_4 v2_5 v2_6 v4_0 v4_4 of1 of3 x4_3 f5 f6 f7 f8)) A) args s 0 0 A) (F0 m 52 ls [])) := by
  have hg := fun (w : Cond) (h : w ∈ gw) => hts w (List.mem_cons_of_mem _ h)
  intro n
  induction n with
  | zero =>
    exact ⟨fun _ _ _ _ _ _ _ hF => absurd (show (none : Option _) = some _ from hF) (fun z => by cases z), fun _ _ _ _ _ _ _ hF => absurd (show (none : Option _) = some _ from hF) (fun z => by cases z)⟩
  | succ n ih =>
    refine ⟨?_, ?_⟩
    · intro l1 l2 l3 l4 l5 f1 f3 hF H locs ls hP hD hS hl
      have hF : B_Stacks_feed_0 (F_Stacks_feed x4_3 f5 f6 f7 f8 n) x4_3 f5 f6 f7 f8 l1 l2 l3 l4 l5 f1 f3 = some (r, of1, of3) := hF
      unfold B_Stacks_feed_0 at hF
      refine lv_iconst (v := 0) hx hb d_Stacks_feed_24 (by decide) ?_
      refine lv_istore (lv' := [(4, .int 0), (0, .ref a0), (1, .int l1), (2, .int l2), (3, .int l3)]) hx hb d_Stacks_feed_25 hl (by decide) rfl (fun ls hl => ?_)
      refine lv_iload hx hb d_Stacks_feed_27 (lv_at hl 0 rfl) ?_
      refine lv_if_eq (tgt := 41) hx hb d_Stacks_feed_29 (by decide) (fun c_1 => ?_) (fun c_1 => ?_)
      · rw [if_pos c_1] at hF
        refine lv_iconst (v := 0) hx hb d_Stacks_feed_41 (by decide) ?_
        have e0 := Option.some.inj hF
        have q0 := Prod.mk.inj e0
        have q1 := Prod.mk.inj q0.2
        exact W.zret (v := 0) hx hb hr rfl (fun t ht hW => ⟨⟨0, (), rfl, q0.1, by rw [ht, ← q1.1, ← q1.2]; exact hP, va_K.moved hW.alike hK, (by rw [← q1.1, ← q1.2]; exact hD)⟩, hS.F ht⟩) hS.2.2 d_Stacks_feed_42 hlocks
      · rw [if_neg c_1] at hF
        refine lv_aload_n hx hb d_Stacks_feed_32 rfl (lv_at hl 1 rfl) ?_
        refine lv_iload_n hx hb d_Stacks_feed_33 rfl (lv_at hl 2 rfl) ?_
        refine lv_iload_n hx hb d_Stacks_feed_34 rfl (lv_at hl 4 rfl) ?_
        obtain ⟨u_2, hS_2, hF⟩ := rd_bind hF
        have hPc := hP.sub (ws' := (wd_Stacks_canMove kA a0 a1 a3 a4 a7 a8 (.ref a2) v4_0 v4_4 f1 f3 x4_3 f7 f8)) [0, 1, 3, 4, 7, 8] rfl
        have hDc := hD.sub (ws' := (wd_Stacks_canMove kA a0 a1 a3 a4 a7 a8 (.ref a2) v4_0 v4_4 f1 f3 x4_3 f7 f8)) [0, 1, 3, 4, 7, 8] (by decide) rfl
        have hFc := va_free (wc := (wd_Stacks_canMove kA a0 a1 a3 a4 a7 a8 (.ref a2) v4_0 v4_4 f1 f3 x4_3 f7 f8)) hD hS hA [0, 1, 3, 4, 7, 8] rfl
        refine va_calli (va_runV (As := [.int l1, .int l3]) (rest := []) ⟨hx, hb, hml, hown, hts⟩ (c_Stacks_canMove l dC dI kA H.size a0 a1 a3 a4 a7 a8 (.ref a2) v4_0 v4_4 l1 l3 f1 f3 x4_3 f7 f8 u_2 hS_2) (cwV 2 hts (gw_V gw_101 gw_102 gw_103 gw_85 gw_104) rfl rfl rfl (by decide +kernel) ⟨Nat.le_of_ble_eq_true rfl, Nat.le_of_ble_eq_true rfl⟩) ⟨fun a U g mk q => by obtain ⟨q0, q1, qP, qK, qD⟩ := q; exact ⟨q0, q1, qP, va_K.moved (u := U) (U := U.calling g mk a) (Vm.Alike.refl U.vm) qK, qD⟩, va_recv hK hP (ci := 5) (q0 := 0) rfl rfl, fun U hU hW => ⟨rfl, by rw [hU], by rw [hU]; exact hPc, va_K.moved hW.alike hK, hDc.weaken (fun _ _ _ _ => trivial)⟩⟩ rfl rfl hl.1 rfl (lv_room (Nat.le_of_ble_eq_true rfl)) d_Stacks_feed_35 ⟨Nat.zero_le _, Nat.zero_le _⟩) hS (fun q _ h => hFc q h) hFc (fun r1 u t H1 locs ht hvm hw hB hz1 hk1 hS => ?_)
        rw [show r1 = _ from hw]
        obtain ⟨hP1, hK1, hD1⟩ := hB
        rw [ht] at hP1
        obtain ⟨hP, hD⟩ := va_join (wr := [(a2, .inr (2, [.ref a5, .ref a6, v2_2, v2_3, v2_4, v2_5, v2_6])), (a5, .inl (kA 0, 12, .inl f5)), (a6, .inl (kA 0, 12, .inl f6))]) (w1 := (wd_Stacks_canMove kA a0 a1 a3 a4 a7 a8 (.ref a2) v4_0 v4_4 f1 f3 x4_3 f7 f8)) hP hD [0, 1, 3, 4, 7, 8] [2, 5, 6] rfl rfl (by decide) (by decide) hk1 hFc hP1 hD1
        have hP := hP.sub (ws' := (wd_Stacks_feed kA a0 a1 a2 a3 a4 a5 a6 a7 a8 v2_2 v2_3 v2_4 v2_5 v2_6 v4_0 v4_4 f1 f3 x4_3 f5 f6 f7 f8)) [3, 4, 0, 5, 6, 1, 2, 7, 8] rfl
        have hD := hD.sub (ws' := (wd_Stacks_feed kA a0 a1 a2 a3 a4 a5 a6 a7 a8 v2_2 v2_3 v2_4 v2_5 v2_6 v4_0 v4_4 f1 f3 x4_3 f5 f6 f7 f8)) [3, 4, 0, 5, 6, 1, 2, 7, 8] (by decide) rfl
        clear hPc hDc hFc hP1 hK1 hD1
        generalize H1 = H at hP hS ⊢
        refine lv_if_ne (tgt := 43) hx hb d_Stacks_feed_38 (by decide) (fun c_3 => ?_) (fun c_3 => ?_)
        · rw [if_pos c_3] at hF
          refine lv_aload_n hx hb d_Stacks_feed_43 rfl (lv_at hl 1 rfl) ?_
          refine lv_iload_n hx hb d_Stacks_feed_44 rfl (lv_at hl 2 rfl) ?_
          refine lv_iload_n hx hb d_Stacks_feed_45 rfl (lv_at hl 3 rfl) ?_
          obtain ⟨u_4, hS_4, hF⟩ := rd_bind hF
          have hPc := hP.sub (ws' := (wd_Stacks_copy kA a0 a1 a3 (.ref a2) (.ref a4) f1 f3)) [0, 1, 3] rfl
          have hDc := hD.sub (ws' := (wd_Stacks_copy kA a0 a1 a3 (.ref a2) (.ref a4) f1 f3)) [0, 1, 3] (by decide) rfl
          have hFc := va_free (wc := (wd_Stacks_copy kA a0 a1 a3 (.ref a2) (.ref a4) f1 f3)) hD hS hA [0, 1, 3] rfl
          refine va_callv (va_runV (As := [.int l1, .int l2]) (rest := []) ⟨hx, hb, hml, hown, hts⟩ (c_Stacks_copy l dC dI kA H.size a0 a1 a3 (.ref a2) (.ref a4) l1 l2 f1 f3 u_4.1 u_4.2 hS_4) (cwV 2 hts (gw_V gw_105 gw_106 gw_107 gw_85 gw_108) rfl rfl rfl (by decide +kernel) ⟨Nat.le_of_ble_eq_true rfl, Nat.le_of_ble_eq_true rfl⟩) ⟨fun a U g mk q => by obtain ⟨q0, q1, qP, qK, qD⟩ := q; exact ⟨q0, q1, qP, va_K.moved (u := U) (U := U.calling g mk a) (Vm.Alike.refl U.vm) qK, qD⟩, va_recv hK hP (ci := 5) (q0 := 0) rfl rfl, fun U hU hW => ⟨rfl, by rw [hU], by rw [hU]; exact hPc, va_K.moved hW.alike hK, hDc.weaken (fun _ _ _ _ => trivial)⟩⟩ rfl rfl hl.1 rfl (lv_room (Nat.le_of_ble_eq_true rfl)) d_Stacks_feed_46 ⟨Nat.zero_le _, Nat.zero_le _⟩) hS (fun q _ h => hFc q h) hFc (fun u t H1 locs ht hvm hw hB hz1 hk1 hS => ?_)
          obtain ⟨hP1, hK1, hD1⟩ := hB
          rw [ht] at hP1
          obtain ⟨hP, hD⟩ := va_join (wr := [(a2, .inr (2, [.ref a5, .ref a6, v2_2, v2_3, v2_4, v2_5, v2_6])), (a4, .inr (6, [v4_0, .ref a8, .ref a7, .int x4_3, v4_4])), (a5, .inl (kA 0, 12, .inl f5)), (a6, .inl (kA 0, 12, .inl f6)), (a7, .inl (kA 0, 280, .inl f7)), (a8, .inl (kA 0, 480, .inl f8))]) (w1 := (wd_Stacks_copy kA a0 a1 a3 (.ref a2) (.ref a4) u_4.1 u_4.2)) hP hD [0, 1, 3] [2, 4, 5, 6, 7, 8] rfl rfl (by decide) (by decide) hk1 hFc hP1 hD1
          have hP := hP.sub (ws' := (wd_Stacks_feed kA a0 a1 a2 a3 a4 a5 a6 a7 a8 v2_2 v2_3 v2_4 v2_5 v2_6 v4_0 v4_4 u_4.1 u_4.2 x4_3 f5 f6 f7 f8)) [6, 7, 0, 8, 1, 2, 3, 4, 5] rfl
          have hD := hD.sub (ws' := (wd_Stacks_feed kA a0 a1 a2 a3 a4 a5 a6 a7 a8 v2_2 v2_3 v2_4 v2_5 v2_6 v4_0 v4_4 u_4.1 u_4.2 x4_3 f5 f6 f7 f8)) [6, 7, 0, 8, 1, 2, 3, 4, 5] (by decide) rfl
          clear hPc hDc hFc hP1 hK1 hD1
          generalize H1 = H at hP hS ⊢
          refine lv_iconst (v := 0) hx hb d_Stacks_feed_49 (by decide) ?_
          refine lv_istore (lv' := [(5, .int 0), (4, .int 0), (0, .ref a0), (1, .int l1), (2, .int l2), (3, .int l3)]) hx hb d_Stacks_feed_50 hl (by decide) rfl (fun ls hl => ?_)
          exact ih.2 l1 l2 l3 0 0 u_4.1 u_4.2 hF _ _ _ hP hD hS (lv_sub hl [2, 3, 4, 5, 1, 0] rfl)
        · rw [if_neg (fun z => z c_3)] at hF
          refine lv_iconst (v := 0) hx hb d_Stacks_feed_41 (by decide) ?_
          have e0 := Option.some.inj hF
          have q0 := Prod.mk.inj e0
          have q1 := Prod.mk.inj q0.2
          exact W.zret (v := 0) hx hb hr rfl (fun t ht hW => ⟨⟨0, (), rfl, q0.1, by rw [ht, ← q1.1, ← q1.2]; exact hP, va_K.moved hW.alike hK, (by rw [← q1.1, ← q1.2]; exact hD)⟩, hS.F ht⟩) hS.2.2 d_Stacks_feed_42 hlocks
    · intro l1 l2 l3 l4 l5 f1 f3 hF H locs ls hP hD hS hl
      have hF : B_Stacks_feed_1 (F_Stacks_feed x4_3 f5 f6 f7 f8 n) x4_3 f5 f6 f7 f8 l1 l2 l3 l4 l5 f1 f3 = some (r, of1, of3) := hF
      unfold B_Stacks_feed_1 at hF
      refine lv_iload hx hb d_Stacks_feed_52 (lv_at hl 5 rfl) ?_
      refine lv_ldc (own := R_Stacks) (v := 1000000) hx hb hown (hg _ gw_109) d_Stacks_feed_54 ?_
      refine lv_icmp_ge (tgt := 121) hx hb d_Stacks_feed_56 (by decide) (fun c_5 => ?_) (fun c_5 => ?_)
      · rw [if_pos c_5] at hF
        refine lv_iconst (v := 0) hx hb d_Stacks_feed_121 (by decide) ?_
        have e0 := Option.some.inj hF
        have q0 := Prod.mk.inj e0
        have q1 := Prod.mk.inj q0.2
        exact W.zret (v := 0) hx hb hr rfl (fun t ht hW => ⟨⟨0, (), rfl, q0.1, by rw [ht, ← q1.1, ← q1.2]; exact hP, va_K.moved hW.alike hK, (by rw [← q1.1, ← q1.2]; exact hD)⟩, hS.F ht⟩) hS.2.2 d_Stacks_feed_122 hlocks
      · rw [if_neg c_5] at hF
        refine lv_aload_n hx hb d_Stacks_feed_59 rfl (lv_at hl 0 rfl) ?_
        refine va_get (D := (dC, dI)) (ci := 5) (v := .ref a4) (C := R_Stacks) (T := F_Stacks) (N := 4) hx hb hg iw_Stacks hown hK hP 0 rfl rfl 1 (by decide) (hg _ gw_87) (fun _ h9 => h9) rfl d_Stacks_feed_60 ?_
        refine lv_aload_n hx hb d_Stacks_feed_63 rfl (lv_at hl 0 rfl) ?_
        refine lv_iload_n hx hb d_Stacks_feed_64 rfl (lv_at hl 2 rfl) ?_
        obtain ⟨u_6, hS_6, hF⟩ := rd_bind hF
        have hPc := hP.sub (ws' := (wd_Stacks_topOf kA a0 a1 a3 (.ref a2) (.ref a4) f1 f3)) [0, 1, 3] rfl
        have hDc := hD.sub (ws' := (wd_Stacks_topOf kA a0 a1 a3 (.ref a2) (.ref a4) f1 f3)) [0, 1, 3] (by decide) rfl
        have hFc := va_free (wc := (wd_Stacks_topOf kA a0 a1 a3 (.ref a2) (.ref a4) f1 f3)) hD hS hA [0, 1, 3] rfl
        refine va_calli (va_runV (As := [.int l2]) (rest := [.ref a4]) ⟨hx, hb, hml, hown, hts⟩ (c_Stacks_topOf l dC dI kA H.size a0 a1 a3 (.ref a2) (.ref a4) l2 f1 f3 u_6 hS_6) (cwV 1 hts (gw_V gw_82 gw_83 gw_84 gw_85 gw_86) rfl rfl rfl (by decide +kernel) ⟨Nat.le_of_ble_eq_true rfl, Nat.le_of_ble_eq_true rfl⟩) ⟨fun a U g mk q => by obtain ⟨q0, q1, qP, qK, qD⟩ := q; exact ⟨q0, q1, qP, va_K.moved (u := U) (U := U.calling g mk a) (Vm.Alike.refl U.vm) qK, qD⟩, va_recv hK hP (ci := 5) (q0 := 0) rfl rfl, fun U hU hW => ⟨rfl, by rw [hU], by rw [hU]; exact hPc, va_K.moved hW.alike hK, hDc.weaken (fun _ _ _ _ => trivial)⟩⟩ rfl rfl hl.1 rfl (lv_room (Nat.le_of_ble_eq_true rfl)) d_Stacks_feed_65 ⟨Nat.zero_le _, Nat.zero_le _⟩) hS (fun q _ h => hFc q h) hFc (fun r1 u t H1 locs ht hvm hw hB hz1 hk1 hS => ?_)
        rw [show r1 = _ from hw]
        obtain ⟨hP1, hK1, hD1⟩ := hB
        rw [ht] at hP1
        obtain ⟨hP, hD⟩ := va_join (wr := [(a2, .inr (2, [.ref a5, .ref a6, v2_2, v2_3, v2_4, v2_5, v2_6])), (a4, .inr (6, [v4_0, .ref a8, .ref a7, .int x4_3, v4_4])), (a5, .inl (kA 0, 12, .inl f5)), (a6, .inl (kA 0, 12, .inl f6)), (a7, .inl (kA 0, 280, .inl f7)), (a8, .inl (kA 0, 480, .inl f8))]) (w1 := (wd_Stacks_topOf kA a0 a1 a3 (.ref a2) (.ref a4) f1 f3)) hP hD [0, 1, 3] [2, 4, 5, 6, 7, 8] rfl rfl (by decide) (by decide) hk1 hFc hP1 hD1
        have hP := hP.sub (ws' := (wd_Stacks_feed kA a0 a1 a2 a3 a4 a5 a6 a7 a8 v2_2 v2_3 v2_4 v2_5 v2_6 v4_0 v4_4 f1 f3 x4_3 f5 f6 f7 f8)) [6, 7, 0, 8, 1, 2, 3, 4, 5] rfl
        have hD := hD.sub (ws' := (wd_Stacks_feed kA a0 a1 a2 a3 a4 a5 a6 a7 a8 v2_2 v2_3 v2_4 v2_5 v2_6 v4_0 v4_4 f1 f3 x4_3 f5 f6 f7 f8)) [6, 7, 0, 8, 1, 2, 3, 4, 5] (by decide) rfl
        clear hPc hDc hFc hP1 hK1 hD1
        generalize H1 = H at hP hS ⊢
        refine lv_iload_n hx hb d_Stacks_feed_68 rfl (lv_at hl 3 rfl) ?_
        obtain ⟨u_7, hS_7, hF⟩ := rd_bind hF
        have hPc := hP.sub (ws' := (wd_States_reducedBy kA a4 a7 v4_0 (.ref a8) v4_4 x4_3 f7)) [4, 7] rfl
        have hDc := hD.sub (ws' := (wd_States_reducedBy kA a4 a7 v4_0 (.ref a8) v4_4 x4_3 f7)) [4, 7] (by decide) rfl
        have hFc := va_free (wc := (wd_States_reducedBy kA a4 a7 v4_0 (.ref a8) v4_4 x4_3 f7)) hD hS hA [4, 7] rfl
        refine va_calli (va_runV (As := [.int u_6, .int l3]) (rest := []) ⟨hx, hb, hml, hown, hts⟩ (c_States_reducedBy l dC dI kA H.size a4 a7 v4_0 (.ref a8) v4_4 u_6 l3 x4_3 f7 u_7 hS_7) (cwV 2 hts (gw_V gw_88 gw_89 gw_90 gw_91 gw_92) rfl rfl rfl (by decide +kernel) ⟨Nat.le_of_ble_eq_true rfl, Nat.le_of_ble_eq_true rfl⟩) ⟨fun a U g mk q => by obtain ⟨q0, q1, qP, qK, qD⟩ := q; exact ⟨q0, q1, qP, va_K.moved (u := U) (U := U.calling g mk a) (Vm.Alike.refl U.vm) qK, qD⟩, va_recv hK hP (ci := 6) (q0 := 4) rfl rfl, fun U hU hW => ⟨rfl, by rw [hU], by rw [hU]; exact hPc, va_K.moved hW.alike hK, hDc.weaken (fun _ _ _ _ => trivial)⟩⟩ rfl rfl hl.1 rfl (lv_room (Nat.le_of_ble_eq_true rfl)) d_Stacks_feed_69 ⟨Nat.zero_le _, Nat.zero_le _⟩) hS (fun q _ h => hFc q h) hFc (fun r1 u t H1 locs ht hvm hw hB hz1 hk1 hS => ?_)
        rw [show r1 = _ from hw]
        obtain ⟨hP1, hK1, hD1⟩ := hB
        rw [ht] at hP1
        obtain ⟨hP, hD⟩ := va_join (wr := [(a0, .inr (5, [.ref a2, .ref a4, .ref a1, .ref a3])), (a1, .inl (kA 0, 4096, .inl f1)), (a2, .inr (2, [.ref a5, .ref a6, v2_2, v2_3, v2_4, v2_5, v2_6])), (a3, .inl (kA 0, 8, .inl f3)), (a5, .inl (kA 0, 12, .inl f5)), (a6, .inl (kA 0, 12, .inl f6)), (a8, .inl (kA 0, 480, .inl f8))]) (w1 := (wd_States_reducedBy kA a4 a7 v4_0 (.ref a8) v4_4 x4_3 f7)) hP hD [4, 7] [0, 1, 2, 3, 5, 6, 8] rfl rfl (by decide) (by decide) hk1 hFc hP1 hD1
        have hP := hP.sub (ws' := (wd_Stacks_feed kA a0 a1 a2 a3 a4 a5 a6 a7 a8 v2_2 v2_3 v2_4 v2_5 v2_6 v4_0 v4_4 f1 f3 x4_3 f5 f6 f7 f8)) [0, 1, 2, 3, 7, 4, 5, 8, 6] rfl
        have hD := hD.sub (ws' := (wd_Stacks_feed kA a0 a1 a2 a3 a4 a5 a6 a7 a8 v2_2 v2_3 v2_4 v2_5 v2_6 v4_0 v4_4 f1 f3 x4_3 f5 f6 f7 f8)) [0, 1, 2, 3, 7, 4, 5, 8, 6] (by decide) rfl
        clear hPc hDc hFc hP1 hK1 hD1
        generalize H1 = H at hP hS ⊢
        refine lv_istore (lv' := [(6, .int u_7), (0, .ref a0), (1, .int l1), (2, .int l2), (3, .int l3), (4, .int l4), (5, .int l5)]) hx hb d_Stacks_feed_72 hl (by decide) rfl (fun ls hl => ?_)
        refine lv_iload hx hb d_Stacks_feed_74 (lv_at hl 0 rfl) ?_
        refine lv_if_ge (tgt := 87) hx hb d_Stacks_feed_76 (by decide) (fun c_8 => ?_) (fun c_8 => ?_)
        · rw [if_pos c_8] at hF
          refine lv_aload_n hx hb d_Stacks_feed_87 rfl (lv_at hl 1 rfl) ?_
          refine lv_iload_n hx hb d_Stacks_feed_88 rfl (lv_at hl 3 rfl) ?_
          refine lv_aload_n hx hb d_Stacks_feed_89 rfl (lv_at hl 1 rfl) ?_
          refine va_get (D := (dC, dI)) (ci := 5) (v := .ref a2) (C := R_Stacks) (T := F_Stacks) (N := 4) hx hb hg iw_Stacks hown hK hP 0 rfl rfl 0 (by decide) (hg _ gw_110) (fun _ h9 => h9) rfl d_Stacks_feed_90 ?_
          refine lv_iload hx hb d_Stacks_feed_93 (lv_at hl 0 rfl) ?_
          obtain ⟨u_9, hS_9, hF⟩ := rd_bind hF
          have hPc := hP.sub (ws' := (wd_Grammar_sizeOf kA a2 a6 (.ref a5) v2_2 v2_3 v2_4 v2_5 v2_6 f6)) [2, 6] rfl
          have hDc := hD.sub (ws' := (wd_Grammar_sizeOf kA a2 a6 (.ref a5) v2_2 v2_3 v2_4 v2_5 v2_6 f6)) [2, 6] (by decide) rfl
          have hFc := va_free (wc := (wd_Grammar_sizeOf kA a2 a6 (.ref a5) v2_2 v2_3 v2_4 v2_5 v2_6 f6)) hD hS hA [2, 6] rfl
          refine va_calli (va_runV (As := [.int u_7]) (rest := [.int l2, .ref a0]) ⟨hx, hb, hml, hown, hts⟩ (c_Grammar_sizeOf l dC dI kA H.size a2 a6 (.ref a5) v2_2 v2_3 v2_4 v2_5 v2_6 u_7 f6 u_9 hS_9) (cwV 1 hts (gw_V gw_111 gw_55 gw_56 gw_42 gw_57) rfl rfl rfl (by decide +kernel) ⟨Nat.le_of_ble_eq_true rfl, Nat.le_of_ble_eq_true rfl⟩) ⟨fun a U g mk q => by obtain ⟨q0, q1, qP, qK, qD⟩ := q; exact ⟨q0, q1, qP, va_K.moved (u := U) (U := U.calling g mk a) (Vm.Alike.refl U.vm) qK, qD⟩, va_recv hK hP (ci := 2) (q0 := 2) rfl rfl, fun U hU hW => ⟨rfl, by rw [hU], by rw [hU]; exact hPc, va_K.moved hW.alike hK, hDc.weaken (fun _ _ _ _ => trivial)⟩⟩ rfl rfl hl.1 rfl (lv_room (Nat.le_of_ble_eq_true rfl)) d_Stacks_feed_95 ⟨Nat.zero_le _, Nat.zero_le _⟩) hS (fun q _ h => hFc q h) hFc (fun r1 u t H1 locs ht hvm hw hB hz1 hk1 hS => ?_)
          rw [show r1 = _ from hw]
          obtain ⟨hP1, hK1, hD1⟩ := hB
          rw [ht] at hP1
          obtain ⟨hP, hD⟩ := va_join (wr := [(a0, .inr (5, [.ref a2, .ref a4, .ref a1, .ref a3])), (a1, .inl (kA 0, 4096, .inl f1)), (a3, .inl (kA 0, 8, .inl f3)), (a4, .inr (6, [v4_0, .ref a8, .ref a7, .int x4_3, v4_4])), (a5, .inl (kA 0, 12, .inl f5)), (a7, .inl (kA 0, 280, .inl f7)), (a8, .inl (kA 0, 480, .inl f8))]) (w1 := (wd_Grammar_sizeOf kA a2 a6 (.ref a5) v2_2 v2_3 v2_4 v2_5 v2_6 f6)) hP hD [2, 6] [0, 1, 3, 4, 5, 7, 8] rfl rfl (by decide) (by decide) hk1 hFc hP1 hD1
          have hP := hP.sub (ws' := (wd_Stacks_feed kA a0 a1 a2 a3 a4 a5 a6 a7 a8 v2_2 v2_3 v2_4 v2_5 v2_6 v4_0 v4_4 f1 f3 x4_3 f5 f6 f7 f8)) [0, 1, 7, 2, 3, 4, 8, 5, 6] rfl
          have hD := hD.sub (ws' := (wd_Stacks_feed kA a0 a1 a2 a3 a4 a5 a6 a7 a8 v2_2 v2_3 v2_4 v2_5 v2_6 v4_0 v4_4 f1 f3 x4_3 f5 f6 f7 f8)) [0, 1, 7, 2, 3, 4, 8, 5, 6] (by decide) rfl
          clear hPc hDc hFc hP1 hK1 hD1
          generalize H1 = H at hP hS ⊢
          refine lv_aload_n hx hb d_Stacks_feed_98 rfl (lv_at hl 1 rfl) ?_
          refine va_get (D := (dC, dI)) (ci := 5) (v := .ref a2) (C := R_Stacks) (T := F_Stacks) (N := 4) hx hb hg iw_Stacks hown hK hP 0 rfl rfl 0 (by decide) (hg _ gw_110) (fun _ h9 => h9) rfl d_Stacks_feed_99 ?_
          refine lv_iload hx hb d_Stacks_feed_102 (lv_at hl 0 rfl) ?_
          obtain ⟨u_10, hS_10, hF⟩ := rd_bind hF
          have hPc := hP.sub (ws' := (wd_Grammar_nameOf kA a2 a5 (.ref a6) v2_2 v2_3 v2_4 v2_5 v2_6 f5)) [2, 5] rfl
          have hDc := hD.sub (ws' := (wd_Grammar_nameOf kA a2 a5 (.ref a6) v2_2 v2_3 v2_4 v2_5 v2_6 f5)) [2, 5] (by decide) rfl
          have hFc := va_free (wc := (wd_Grammar_nameOf kA a2 a5 (.ref a6) v2_2 v2_3 v2_4 v2_5 v2_6 f5)) hD hS hA [2, 5] rfl
          refine va_calli (va_runV (As := [.int u_7]) (rest := [.int u_9, .int l2, .ref a0]) ⟨hx, hb, hml, hown, hts⟩ (c_Grammar_nameOf l dC dI kA H.size a2 a5 (.ref a6) v2_2 v2_3 v2_4 v2_5 v2_6 u_7 f5 u_10 hS_10) (cwV 1 hts (gw_V gw_112 gw_113 gw_114 gw_42 gw_115) rfl rfl rfl (by decide +kernel) ⟨Nat.le_of_ble_eq_true rfl, Nat.le_of_ble_eq_true rfl⟩) ⟨fun a U g mk q => by obtain ⟨q0, q1, qP, qK, qD⟩ := q; exact ⟨q0, q1, qP, va_K.moved (u := U) (U := U.calling g mk a) (Vm.Alike.refl U.vm) qK, qD⟩, va_recv hK hP (ci := 2) (q0 := 2) rfl rfl, fun U hU hW => ⟨rfl, by rw [hU], by rw [hU]; exact hPc, va_K.moved hW.alike hK, hDc.weaken (fun _ _ _ _ => trivial)⟩⟩ rfl rfl hl.1 rfl (lv_room (Nat.le_of_ble_eq_true rfl)) d_Stacks_feed_104 ⟨Nat.zero_le _, Nat.zero_le _⟩) hS (fun q _ h => hFc q h) hFc (fun r1 u t H1 locs ht hvm hw hB hz1 hk1 hS => ?_)
          rw [show r1 = _ from hw]
          obtain ⟨hP1, hK1, hD1⟩ := hB
          rw [ht] at hP1
          obtain ⟨hP, hD⟩ := va_join (wr := [(a0, .inr (5, [.ref a2, .ref a4, .ref a1, .ref a3])), (a1, .inl (kA 0, 4096, .inl f1)), (a3, .inl (kA 0, 8, .inl f3)), (a4, .inr (6, [v4_0, .ref a8, .ref a7, .int x4_3, v4_4])), (a6, .inl (kA 0, 12, .inl f6)), (a7, .inl (kA 0, 280, .inl f7)), (a8, .inl (kA 0, 480, .inl f8))]) (w1 := (wd_Grammar_nameOf kA a2 a5 (.ref a6) v2_2 v2_3 v2_4 v2_5 v2_6 f5)) hP hD [2, 5] [0, 1, 3, 4, 6, 7, 8] rfl rfl (by decide) (by decide) hk1 hFc hP1 hD1
          have hP := hP.sub (ws' := (wd_Stacks_feed kA a0 a1 a2 a3 a4 a5 a6 a7 a8 v2_2 v2_3 v2_4 v2_5 v2_6 v4_0 v4_4 f1 f3 x4_3 f5 f6 f7 f8)) [0, 1, 7, 2, 3, 8, 4, 5, 6] rfl
          have hD := hD.sub (ws' := (wd_Stacks_feed kA a0 a1 a2 a3 a4 a5 a6 a7 a8 v2_2 v2_3 v2_4 v2_5 v2_6 v4_0 v4_4 f1 f3 x4_3 f5 f6 f7 f8)) [0, 1, 7, 2, 3, 8, 4, 5, 6] (by decide) rfl
          clear hPc hDc hFc hP1 hK1 hD1
          generalize H1 = H at hP hS ⊢
          obtain ⟨u_11, hS_11, hF⟩ := rd_bind hF
          have hPc := hP.sub (ws' := (wd_Stacks_replace kA a0 a1 a3 a4 a8 (.ref a2) v4_0 (.ref a7) v4_4 f1 f3 x4_3 f8)) [0, 1, 3, 4, 8] rfl
          have hDc := hD.sub (ws' := (wd_Stacks_replace kA a0 a1 a3 a4 a8 (.ref a2) v4_0 (.ref a7) v4_4 f1 f3 x4_3 f8)) [0, 1, 3, 4, 8] (by decide) rfl
          have hFc := va_free (wc := (wd_Stacks_replace kA a0 a1 a3 a4 a8 (.ref a2) v4_0 (.ref a7) v4_4 f1 f3 x4_3 f8)) hD hS hA [0, 1, 3, 4, 8] rfl
          refine va_calli (va_runV (As := [.int l2, .int u_9, .int u_10]) (rest := []) ⟨hx, hb, hml, hown, hts⟩ (c_Stacks_replace l dC dI kA H.size a0 a1 a3 a4 a8 (.ref a2) v4_0 (.ref a7) v4_4 l2 u_9 u_10 f1 f3 x4_3 f8 u_11.1 u_11.2.1 u_11.2.2 hS_11) (cwV 3 hts (gw_V gw_116 gw_117 gw_118 gw_85 gw_119) rfl rfl rfl (by decide +kernel) ⟨Nat.le_of_ble_eq_true rfl, Nat.le_of_ble_eq_true rfl⟩) ⟨fun a U g mk q => by obtain ⟨q0, q1, qP, qK, qD⟩ := q; exact ⟨q0, q1, qP, va_K.moved (u := U) (U := U.calling g mk a) (Vm.Alike.refl U.vm) qK, qD⟩, va_recv hK hP (ci := 5) (q0 := 0) rfl rfl, fun U hU hW => ⟨rfl, by rw [hU], by rw [hU]; exact hPc, va_K.moved hW.alike hK, hDc.weaken (fun _ _ _ _ => trivial)⟩⟩ rfl rfl hl.1 rfl (lv_room (Nat.le_of_ble_eq_true rfl)) d_Stacks_feed_107 ⟨Nat.zero_le _, Nat.zero_le _⟩) hS (fun q _ h => hFc q h) hFc (fun r1 u t H1 locs ht hvm hw hB hz1 hk1 hS => ?_)
          rw [show r1 = _ from hw]
          obtain ⟨hP1, hK1, hD1⟩ := hB
          rw [ht] at hP1
          obtain ⟨hP, hD⟩ := va_join (wr := [(a2, .inr (2, [.ref a5, .ref a6, v2_2, v2_3, v2_4, v2_5, v2_6])), (a5, .inl (kA 0, 12, .inl f5)), (a6, .inl (kA 0, 12, .inl f6)), (a7, .inl (kA 0, 280, .inl f7))]) (w1 := (wd_Stacks_replace kA a0 a1 a3 a4 a8 (.ref a2) v4_0 (.ref a7) v4_4 u_11.2.1 u_11.2.2 x4_3 f8)) hP hD [0, 1, 3, 4, 8] [2, 5, 6, 7] rfl rfl (by decide) (by decide) hk1 hFc hP1 hD1
          have hP := hP.sub (ws' := (wd_Stacks_feed kA a0 a1 a2 a3 a4 a5 a6 a7 a8 v2_2 v2_3 v2_4 v2_5 v2_6 v4_0 v4_4 u_11.2.1 u_11.2.2 x4_3 f5 f6 f7 f8)) [4, 5, 0, 6, 7, 1, 2, 3, 8] rfl
          have hD := hD.sub (ws' := (wd_Stacks_feed kA a0 a1 a2 a3 a4 a5 a6 a7 a8 v2_2 v2_3 v2_4 v2_5 v2_6 v4_0 v4_4 u_11.2.1 u_11.2.2 x4_3 f5 f6 f7 f8)) [4, 5, 0, 6, 7, 1, 2, 3, 8] (by decide) rfl
          clear hPc hDc hFc hP1 hK1 hD1
          generalize H1 = H at hP hS ⊢
          refine lv_if_ne (tgt := 115) hx hb d_Stacks_feed_110 (by decide) (fun c_12 => ?_) (fun c_12 => ?_)
          · rw [if_pos c_12] at hF
            refine lv_iinc (v := (l5 + 1)) (lv' := [(5, .int (l5 + 1)), (6, .int u_7), (0, .ref a0), (1, .int l1), (2, .int l2), (3, .int l3), (4, .int l4)]) hx hb d_Stacks_feed_115 hl (k := 6) rfl (by rfl) (by decide) rfl (fun ls hl => ?_)
            refine lv_goto (tgt := 52) hx hb d_Stacks_feed_118 (by decide) ?_
            exact ih.2 l1 l2 l3 l4 (l5 + 1) u_11.2.1 u_11.2.2 hF _ _ _ hP hD hS (lv_sub hl [2, 3, 4, 5, 6, 0] rfl)
          · rw [if_neg (fun z => z c_12)] at hF
            refine lv_iconst (v := 0) hx hb d_Stacks_feed_113 (by decide) ?_
            have e0 := Option.some.inj hF
            have q0 := Prod.mk.inj e0
            have q1 := Prod.mk.inj q0.2
            exact W.zret (v := 0) hx hb hr rfl (fun t ht hW => ⟨⟨0, (), rfl, q0.1, by rw [ht, ← q1.1, ← q1.2]; exact hP, va_K.moved hW.alike hK, (by rw [← q1.1, ← q1.2]; exact hD)⟩, hS.F ht⟩) hS.2.2 d_Stacks_feed_114 hlocks
        · rw [if_neg c_8] at hF
          refine lv_aload_n hx hb d_Stacks_feed_79 rfl (lv_at hl 1 rfl) ?_
          refine lv_iload_n hx hb d_Stacks_feed_80 rfl (lv_at hl 3 rfl) ?_
          refine lv_iconst (v := 0) hx hb d_Stacks_feed_81 (by decide) ?_
          refine lv_iload_n hx hb d_Stacks_feed_82 rfl (lv_at hl 4 rfl) ?_
          obtain ⟨u_13, hS_13, hF⟩ := rd_bind hF
          have hPc := hP.sub (ws' := (wd_Stacks_replace kA a0 a1 a3 a4 a8 (.ref a2) v4_0 (.ref a7) v4_4 f1 f3 x4_3 f8)) [0, 1, 3, 4, 8] rfl
          have hDc := hD.sub (ws' := (wd_Stacks_replace kA a0 a1 a3 a4 a8 (.ref a2) v4_0 (.ref a7) v4_4 f1 f3 x4_3 f8)) [0, 1, 3, 4, 8] (by decide) rfl
          have hFc := va_free (wc := (wd_Stacks_replace kA a0 a1 a3 a4 a8 (.ref a2) v4_0 (.ref a7) v4_4 f1 f3 x4_3 f8)) hD hS hA [0, 1, 3, 4, 8] rfl
          refine va_calli (va_runV (As := [.int l2, .int 0, .int l3]) (rest := []) ⟨hx, hb, hml, hown, hts⟩ (c_Stacks_replace l dC dI kA H.size a0 a1 a3 a4 a8 (.ref a2) v4_0 (.ref a7) v4_4 l2 0 l3 f1 f3 x4_3 f8 u_13.1 u_13.2.1 u_13.2.2 hS_13) (cwV 3 hts (gw_V gw_116 gw_117 gw_118 gw_85 gw_119) rfl rfl rfl (by decide +kernel) ⟨Nat.le_of_ble_eq_true rfl, Nat.le_of_ble_eq_true rfl⟩) ⟨fun a U g mk q => by obtain ⟨q0, q1, qP, qK, qD⟩ := q; exact ⟨q0, q1, qP, va_K.moved (u := U) (U := U.calling g mk a) (Vm.Alike.refl U.vm) qK, qD⟩, va_recv hK hP (ci := 5) (q0 := 0) rfl rfl, fun U hU hW => ⟨rfl, by rw [hU], by rw [hU]; exact hPc, va_K.moved hW.alike hK, hDc.weaken (fun _ _ _ _ => trivial)⟩⟩ rfl rfl hl.1 rfl (lv_room (Nat.le_of_ble_eq_true rfl)) d_Stacks_feed_83 ⟨Nat.zero_le _, Nat.zero_le _⟩) hS (fun q _ h => hFc q h) hFc (fun r1 u t H1 locs ht hvm hw hB hz1 hk1 hS => ?_)
          rw [show r1 = _ from hw]
          obtain ⟨hP1, hK1, hD1⟩ := hB
          rw [ht] at hP1
          obtain ⟨hP, hD⟩ := va_join (wr := [(a2, .inr (2, [.ref a5, .ref a6, v2_2, v2_3, v2_4, v2_5, v2_6])), (a5, .inl (kA 0, 12, .inl f5)), (a6, .inl (kA 0, 12, .inl f6)), (a7, .inl (kA 0, 280, .inl f7))]) (w1 := (wd_Stacks_replace kA a0 a1 a3 a4 a8 (.ref a2) v4_0 (.ref a7) v4_4 u_13.2.1 u_13.2.2 x4_3 f8)) hP hD [0, 1, 3, 4, 8] [2, 5, 6, 7] rfl rfl (by decide) (by decide) hk1 hFc hP1 hD1
          have hP := hP.sub (ws' := (wd_Stacks_feed kA a0 a1 a2 a3 a4 a5 a6 a7 a8 v2_2 v2_3 v2_4 v2_5 v2_6 v4_0 v4_4 u_13.2.1 u_13.2.2 x4_3 f5 f6 f7 f8)) [4, 5, 0, 6, 7, 1, 2, 3, 8] rfl
          have hD := hD.sub (ws' := (wd_Stacks_feed kA a0 a1 a2 a3 a4 a5 a6 a7 a8 v2_2 v2_3 v2_4 v2_5 v2_6 v4_0 v4_4 u_13.2.1 u_13.2.2 x4_3 f5 f6 f7 f8)) [4, 5, 0, 6, 7, 1, 2, 3, 8] (by decide) rfl
          clear hPc hDc hFc hP1 hK1 hD1
          generalize H1 = H at hP hS ⊢
          obtain ⟨b_14, hF⟩ := rd_bool hF
          have e0 := Option.some.inj hF
          have q0 := Prod.mk.inj e0
          have q1 := Prod.mk.inj q0.2
          exact W.zret (v := u_13.1) hx hb hr (rd_nb b_14) (fun t ht hW => ⟨⟨u_13.1, (), rfl, q0.1, by rw [ht, ← q1.1, ← q1.2]; exact hP, va_K.moved hW.alike hK, (by rw [← q1.1, ← q1.2]; exact hD)⟩, hS.F ht⟩) hS.2.2 d_Stacks_feed_86 hlocks
def S_Stacks_feed (p1 : Int32) (p2 : Int32) (p3 : Int32) (f1 : (Nat → Int32)) (f3 : (Nat → Int32)) (x4_3 : Int32) (f5 : (Nat → Int32)) (f6 : (Nat → Int32)) (f7 : (Nat → Int32)) (f8 : (Nat → Int32)) : Option (Int32 × (Nat → Int32) × (Nat → Int32)) := (if p3 < 0 then (F_Stacks_feed x4_3 f5 f6 f7 f8 fuel_ 0 p1 p2 p3 0 0 f1 f3) else (if 6 ≤ p3 then (F_Stacks_feed x4_3 f5 f6 f7 f8 fuel_ 0 p1 p2 p3 0 0 f1 f3) else (if p2 < 0 then (F_Stacks_feed x4_3 f5 f6 f7 f8 fuel_ 0 p1 p2 p3 0 0 f1 f3) else (if 8 ≤ p2 then (F_Stacks_feed x4_3 f5 f6 f7 f8 fuel_ 0 p1 p2 p3 0 0 f1 f3) else (if (1 : Int32) = 0 then (some (0, f1, f3)) else ((S_Stacks_canMove p1 p3 f1 f3 x4_3 f7 f8).bind fun u_20 => (if ¬ u_20 = 0 then ((S_Stacks_copy p1 p2 f1 f3).bind fun u_22 => (F_Stacks_feed x4_3 f5 f6 f7 f8 fuel_ 1 p1 p2 p3 1 0 u_22.1 u_22.2)) else (some (0, f1, f3)))))))))
set_option maxHeartbeats 4000000 in
set_option maxRecDepth 100000 in
theorem c_Stacks_feed (l : Launch) (dC : Nat → ClassId) (dI : Nat → Nat → Nat) (kA : Nat → ClassId) (sz : Nat) (a0 a1 a2 a3 a4 a5 a6 a7 a8 : Nat) (v2_2 v2_3 v2_4 v2_5 v2_6 v4_0 v4_4 : Value) (p1 : Int32) (p2 : Int32) (p3 : Int32) (f1 : (Nat → Int32)) (f3 : (Nat → Int32)) (x4_3 : Int32) (f5 : (Nat → Int32)) (f6 : (Nat → Int32)) (f7 : (Nat → Int32)) (f8 : (Nat → Int32)) (r : Int32) (of1 : (Nat → Int32)) (of3 : (Nat → Int32)) (hF : S_Stacks_feed p1 p2 p3 f1 f3 x4_3 f5 f6 f7 f8 = some (r, of1, of3)) : Met l y_Stacks_feed w_Stacks_feed rm_Stacks_feed (va_Pc [.ref a0, .int p1, .int p2, .int p3] (fun U => U.heap.size = sz ∧ va_P (dC, dI) classes (wd_Stacks_feed kA a0 a1 a2 a3 a4 a5 a6 a7 a8 v2_2 v2_3 v2_4 v2_5 v2_6 v4_0 v4_4 f1 f3 x4_3 f5 f6 f7 f8) U.heap ∧ va_K (dC, dI) classes (tys_ kA) U ∧ va_D (fun _ => True) (wd_Stacks_feed kA a0 a1 a2 a3 a4 a5 a6 a7 a8 v2_2 v2_3 v2_4 v2_5 v2_6 v4_0 v4_4 f1 f3 x4_3 f5 f6 f7 f8))) (va_Qi (fun (r1 : Int32) (_ : Unit) => r1 = r) (fun _ t => va_P (dC, dI) classes (wd_Stacks_feed kA a0 a1 a2 a3 a4 a5 a6 a7 a8 v2_2 v2_3 v2_4 v2_5 v2_6 v4_0 v4_4 of1 of3 x4_3 f5 f6 f7 f8) t.heap ∧ va_K (dC, dI) classes (tys_ kA) t ∧ va_D (va_A (wd_Stacks_feed kA a0 a1 a2 a3 a4 a5 a6 a7 a8 v2_2 v2_3 v2_4 v2_5 v2_6 v4_0 v4_4 f1 f3 x4_3 f5 f6 f7 f8) sz) (wd_Stacks_feed kA a0 a1 a2 a3 a4 a5 a6 a7 a8 v2_2 v2_3 v2_4 v2_5 v2_6 v4_0 v4_4 of1 of3 x4_3 f5 f6 f7 f8)) (va_A (wd_Stacks_feed kA a0 a1 a2 a3 a4 a5 a6 a7 a8 v2_2 v2_3 v2_4 v2_5 v2_6 v4_0 v4_4 f1 f3 x4_3 f5 f6 f7 f8) sz)) 0 0 (va_A (wd_Stacks_feed kA a0 a1 a2 a3 a4 a5 a6 a7 a8 v2_2 v2_3 v2_4 v2_5 v2_6 v4_0 v4_4 f1 f3 x4_3 f5 f6 f7 f8) sz) := by
  refine Met.ofW (cc := b_Stacks_feed) (maxL := 7) (ret := some .boolean) (by decide) rfl ?_
  intro p e s m args below meth c s₁ B hml hv
  obtain ⟨rfl, hsz, hP, hK, hD0⟩ := hv
  have hx := B.exec
  have hb := B.bytes
  have hr := B.returns
  have hts := atoms_spec (ws := w_Stacks_feed) B.pre
  have hown : s.vm.findClass R_Stacks = some m.cls := findClass_of_methodNamed B.named
  have hg := fun (w : Cond) (h : w ∈ gw) => hts w (List.mem_cons_of_mem _ h)
  have hlocks := B.notSynchronized
  subst hsz
  have hD := hD0.self (sz := s.heap.size)
  generalize hAe : va_A (wd_Stacks_feed kA a0 a1 a2 a3 a4 a5 a6 a7 a8 v2_2 v2_3 v2_4 v2_5 v2_6 v4_0 v4_4 f1 f3 x4_3 f5 f6 f7 f8) s.heap.size = A at hD ⊢
  have hA : ∀ q : Nat, s.heap.size ≤ q → A q := fun q h => by rw [← hAe]; exact Or.inr h
  have hS : va_S A s.heap s.heap [] := va_S.rf
  have hl := lv_entry ([.ref a0, .int p1, .int p2, .int p3]) (n := 7) (Nat.le_of_ble_eq_true rfl)
  rw [lg_entry_eq]
  generalize (lg_sl ([.ref a0, .int p1, .int p2, .int p3]) ++ List.replicate (7 - (lg_sl ([.ref a0, .int p1, .int p2, .int p3])).length) Slot.unset).toArray = ls at hl ⊢
  have hl : lv_has ls 7 [(0, .ref a0), (1, .int p1), (2, .int p2), (3, .int p3)] := hl
  unfold S_Stacks_feed at hF
  have ih := L_Stacks_feed (l := l) (e := e) (below := below) hx hb hr hlocks hml hown hts hA hK a0 a1 a2 a3 a4 a5 a6 a7 a8 v2_2 v2_3 v2_4 v2_5 v2_6 v4_0 v4_4 x4_3 f5 f6 f7 f8 r of1 of3 fuel_
  refine lv_iload_n hx hb d_Stacks_feed_0 rfl (lv_at hl 3 rfl) ?_
  refine lv_if_lt (tgt := 24) hx hb d_Stacks_feed_1 (by decide) (fun c_15 => ?_) (fun c_15 => ?_)
  · rw [if_pos c_15] at hF
    exact ih.1 p1 p2 p3 0 0 f1 f3 hF _ _ _ hP hD hS (lv_sub hl [0, 1, 2, 3] rfl)
  · rw [if_neg c_15] at hF
    refine lv_iload_n hx hb d_Stacks_feed_4 rfl (lv_at hl 3 rfl) ?_
    refine lv_bipush (v := 6) hx hb d_Stacks_feed_5 (by decide) ?_
    refine lv_icmp_ge (tgt := 24) hx hb d_Stacks_feed_7 (by decide) (fun c_16 => ?_) (fun c_16 => ?_)
    · rw [if_pos c_16] at hF
      exact ih.1 p1 p2 p3 0 0 f1 f3 hF _ _ _ hP hD hS (lv_sub hl [0, 1, 2, 3] rfl)
    · rw [if_neg c_16] at hF
      refine lv_iload_n hx hb d_Stacks_feed_10 rfl (lv_at hl 2 rfl) ?_
      refine lv_if_lt (tgt := 24) hx hb d_Stacks_feed_11 (by decide) (fun c_17 => ?_) (fun c_17 => ?_)
      · rw [if_pos c_17] at hF
        exact ih.1 p1 p2 p3 0 0 f1 f3 hF _ _ _ hP hD hS (lv_sub hl [0, 1, 2, 3] rfl)
      · rw [if_neg c_17] at hF
        refine lv_iload_n hx hb d_Stacks_feed_14 rfl (lv_at hl 2 rfl) ?_
        refine lv_bipush (v := 8) hx hb d_Stacks_feed_15 (by decide) ?_
        refine lv_icmp_ge (tgt := 24) hx hb d_Stacks_feed_17 (by decide) (fun c_18 => ?_) (fun c_18 => ?_)
        · rw [if_pos c_18] at hF
          exact ih.1 p1 p2 p3 0 0 f1 f3 hF _ _ _ hP hD hS (lv_sub hl [0, 1, 2, 3] rfl)
        · rw [if_neg c_18] at hF
          refine lv_iconst (v := 1) hx hb d_Stacks_feed_20 (by decide) ?_
          refine lv_goto (tgt := 25) hx hb d_Stacks_feed_21 (by decide) ?_
          refine lv_istore (lv' := [(4, .int 1), (0, .ref a0), (1, .int p1), (2, .int p2), (3, .int p3)]) hx hb d_Stacks_feed_25 hl (by decide) rfl (fun ls hl => ?_)
          refine lv_iload hx hb d_Stacks_feed_27 (lv_at hl 0 rfl) ?_
          refine lv_if_eq (tgt := 41) hx hb d_Stacks_feed_29 (by decide) (fun c_19 => ?_) (fun c_19 => ?_)
          · rw [if_pos c_19] at hF
            refine lv_iconst (v := 0) hx hb d_Stacks_feed_41 (by decide) ?_
            have e0 := Option.some.inj hF
            have q0 := Prod.mk.inj e0
            have q1 := Prod.mk.inj q0.2
            exact W.zret (v := 0) hx hb hr rfl (fun t ht hW => ⟨⟨0, (), rfl, q0.1, by rw [ht, ← q1.1, ← q1.2]; exact hP, va_K.moved hW.alike hK, (by rw [← q1.1, ← q1.2]; exact hD)⟩, hS.F ht⟩) hS.2.2 d_Stacks_feed_42 hlocks
          · rw [if_neg c_19] at hF
            refine lv_aload_n hx hb d_Stacks_feed_32 rfl (lv_at hl 1 rfl) ?_
            refine lv_iload_n hx hb d_Stacks_feed_33 rfl (lv_at hl 2 rfl) ?_
            refine lv_iload_n hx hb d_Stacks_feed_34 rfl (lv_at hl 4 rfl) ?_
            obtain ⟨u_20, hS_20, hF⟩ := rd_bind hF
            have hPc := hP.sub (ws' := (wd_Stacks_canMove kA a0 a1 a3 a4 a7 a8 (.ref a2) v4_0 v4_4 f1 f3 x4_3 f7 f8)) [0, 1, 3, 4, 7, 8] rfl
            have hDc := hD.sub (ws' := (wd_Stacks_canMove kA a0 a1 a3 a4 a7 a8 (.ref a2) v4_0 v4_4 f1 f3 x4_3 f7 f8)) [0, 1, 3, 4, 7, 8] (by decide) rfl
            have hFc := va_free (wc := (wd_Stacks_canMove kA a0 a1 a3 a4 a7 a8 (.ref a2) v4_0 v4_4 f1 f3 x4_3 f7 f8)) hD hS hA [0, 1, 3, 4, 7, 8] rfl
            refine va_calli (va_runV (As := [.int p1, .int p3]) (rest := []) ⟨hx, hb, hml, hown, hts⟩ (c_Stacks_canMove l dC dI kA s.heap.size a0 a1 a3 a4 a7 a8 (.ref a2) v4_0 v4_4 p1 p3 f1 f3 x4_3 f7 f8 u_20 hS_20) (cwV 2 hts (gw_V gw_101 gw_102 gw_103 gw_85 gw_104) rfl rfl rfl (by decide +kernel) ⟨Nat.le_of_ble_eq_true rfl, Nat.le_of_ble_eq_true rfl⟩) ⟨fun a U g mk q => by obtain ⟨q0, q1, qP, qK, qD⟩ := q; exact ⟨q0, q1, qP, va_K.moved (u := U) (U := U.calling g mk a) (Vm.Alike.refl U.vm) qK, qD⟩, va_recv hK hP (ci := 5) (q0 := 0) rfl rfl, fun U hU hW => ⟨rfl, by rw [hU], by rw [hU]; exact hPc, va_K.moved hW.alike hK, hDc.weaken (fun _ _ _ _ => trivial)⟩⟩ rfl rfl hl.1 rfl (lv_room (Nat.le_of_ble_eq_true rfl)) d_Stacks_feed_35 ⟨Nat.zero_le _, Nat.zero_le _⟩) hS (fun q _ h => hFc q h) hFc (fun r1 u t H1 locs ht hvm hw hB hz1 hk1 hS => ?_)
            rw [show r1 = _ from hw]
            obtain ⟨hP1, hK1, hD1⟩ := hB
            rw [ht] at hP1
            obtain ⟨hP, hD⟩ := va_join (wr := [(a2, .inr (2, [.ref a5, .ref a6, v2_2, v2_3, v2_4, v2_5, v2_6])), (a5, .inl (kA 0, 12, .inl f5)), (a6, .inl (kA 0, 12, .inl f6))]) (w1 := (wd_Stacks_canMove kA a0 a1 a3 a4 a7 a8 (.ref a2) v4_0 v4_4 f1 f3 x4_3 f7 f8)) hP hD [0, 1, 3, 4, 7, 8] [2, 5, 6] rfl rfl (by decide) (by decide) hk1 hFc hP1 hD1
            have hP := hP.sub (ws' := (wd_Stacks_feed kA a0 a1 a2 a3 a4 a5 a6 a7 a8 v2_2 v2_3 v2_4 v2_5 v2_6 v4_0 v4_4 f1 f3 x4_3 f5 f6 f7 f8)) [3, 4, 0, 5, 6, 1, 2, 7, 8] rfl
            have hD := hD.sub (ws' := (wd_Stacks_feed kA a0 a1 a2 a3 a4 a5 a6 a7 a8 v2_2 v2_3 v2_4 v2_5 v2_6 v4_0 v4_4 f1 f3 x4_3 f5 f6 f7 f8)) [3, 4, 0, 5, 6, 1, 2, 7, 8] (by decide) rfl
            clear hPc hDc hFc hP1 hK1 hD1
            generalize H1 = H at hP hS ⊢
            refine lv_if_ne (tgt := 43) hx hb d_Stacks_feed_38 (by decide) (fun c_21 => ?_) (fun c_21 => ?_)
            · rw [if_pos c_21] at hF
              refine lv_aload_n hx hb d_Stacks_feed_43 rfl (lv_at hl 1 rfl) ?_
              refine lv_iload_n hx hb d_Stacks_feed_44 rfl (lv_at hl 2 rfl) ?_
              refine lv_iload_n hx hb d_Stacks_feed_45 rfl (lv_at hl 3 rfl) ?_
              obtain ⟨u_22, hS_22, hF⟩ := rd_bind hF
              have hPc := hP.sub (ws' := (wd_Stacks_copy kA a0 a1 a3 (.ref a2) (.ref a4) f1 f3)) [0, 1, 3] rfl
              have hDc := hD.sub (ws' := (wd_Stacks_copy kA a0 a1 a3 (.ref a2) (.ref a4) f1 f3)) [0, 1, 3] (by decide) rfl
              have hFc := va_free (wc := (wd_Stacks_copy kA a0 a1 a3 (.ref a2) (.ref a4) f1 f3)) hD hS hA [0, 1, 3] rfl
              refine va_callv (va_runV (As := [.int p1, .int p2]) (rest := []) ⟨hx, hb, hml, hown, hts⟩ (c_Stacks_copy l dC dI kA H.size a0 a1 a3 (.ref a2) (.ref a4) p1 p2 f1 f3 u_22.1 u_22.2 hS_22) (cwV 2 hts (gw_V gw_105 gw_106 gw_107 gw_85 gw_108) rfl rfl rfl (by decide +kernel) ⟨Nat.le_of_ble_eq_true rfl, Nat.le_of_ble_eq_true rfl⟩) ⟨fun a U g mk q => by obtain ⟨q0, q1, qP, qK, qD⟩ := q; exact ⟨q0, q1, qP, va_K.moved (u := U) (U := U.calling g mk a) (Vm.Alike.refl U.vm) qK, qD⟩, va_recv hK hP (ci := 5) (q0 := 0) rfl rfl, fun U hU hW => ⟨rfl, by rw [hU], by rw [hU]; exact hPc, va_K.moved hW.alike hK, hDc.weaken (fun _ _ _ _ => trivial)⟩⟩ rfl rfl hl.1 rfl (lv_room (Nat.le_of_ble_eq_true rfl)) d_Stacks_feed_46 ⟨Nat.zero_le _, Nat.zero_le _⟩) hS (fun q _ h => hFc q h) hFc (fun u t H1 locs ht hvm hw hB hz1 hk1 hS => ?_)
              obtain ⟨hP1, hK1, hD1⟩ := hB
              rw [ht] at hP1
              obtain ⟨hP, hD⟩ := va_join (wr := [(a2, .inr (2, [.ref a5, .ref a6, v2_2, v2_3, v2_4, v2_5, v2_6])), (a4, .inr (6, [v4_0, .ref a8, .ref a7, .int x4_3, v4_4])), (a5, .inl (kA 0, 12, .inl f5)), (a6, .inl (kA 0, 12, .inl f6)), (a7, .inl (kA 0, 280, .inl f7)), (a8, .inl (kA 0, 480, .inl f8))]) (w1 := (wd_Stacks_copy kA a0 a1 a3 (.ref a2) (.ref a4) u_22.1 u_22.2)) hP hD [0, 1, 3] [2, 4, 5, 6, 7, 8] rfl rfl (by decide) (by decide) hk1 hFc hP1 hD1
              have hP := hP.sub (ws' := (wd_Stacks_feed kA a0 a1 a2 a3 a4 a5 a6 a7 a8 v2_2 v2_3 v2_4 v2_5 v2_6 v4_0 v4_4 u_22.1 u_22.2 x4_3 f5 f6 f7 f8)) [6, 7, 0, 8, 1, 2, 3, 4, 5] rfl
              have hD := hD.sub (ws' := (wd_Stacks_feed kA a0 a1 a2 a3 a4 a5 a6 a7 a8 v2_2 v2_3 v2_4 v2_5 v2_6 v4_0 v4_4 u_22.1 u_22.2 x4_3 f5 f6 f7 f8)) [6, 7, 0, 8, 1, 2, 3, 4, 5] (by decide) rfl
              clear hPc hDc hFc hP1 hK1 hD1
              generalize H1 = H at hP hS ⊢
              refine lv_iconst (v := 0) hx hb d_Stacks_feed_49 (by decide) ?_
              refine lv_istore (lv' := [(5, .int 0), (4, .int 1), (0, .ref a0), (1, .int p1), (2, .int p2), (3, .int p3)]) hx hb d_Stacks_feed_50 hl (by decide) rfl (fun ls hl => ?_)
              exact ih.2 p1 p2 p3 1 0 u_22.1 u_22.2 hF _ _ _ hP hD hS (lv_sub hl [2, 3, 4, 5, 1, 0] rfl)
            · rw [if_neg (fun z => z c_21)] at hF
              refine lv_iconst (v := 0) hx hb d_Stacks_feed_41 (by decide) ?_
              have e0 := Option.some.inj hF
              have q0 := Prod.mk.inj e0
              have q1 := Prod.mk.inj q0.2
              exact W.zret (v := 0) hx hb hr rfl (fun t ht hW => ⟨⟨0, (), rfl, q0.1, by rw [ht, ← q1.1, ← q1.2]; exact hP, va_K.moved hW.alike hK, (by rw [← q1.1, ← q1.2]; exact hD)⟩, hS.F ht⟩) hS.2.2 d_Stacks_feed_42 hlocks
-- ===== RepairDesk$Stacks.isSentence(I)Z
abbrev wd_Stacks_isSentence (kA : Nat → ClassId) (a0 a1 a2 a3 a4 a5 : Nat) (v0_0 v3_0 v3_4 : Value) (f1 : (Nat → Int32)) (f2 : (Nat → Int32)) (x3_3 : Int32) (f4 : (Nat → Int32)) (f5 : (Nat → Int32)) : va_W := [(a0, .inr (5, [v0_0, .ref a3, .ref a1, .ref a2])), (a1, .inl (kA 0, 4096, .inl f1)), (a2, .inl (kA 0, 8, .inl f2)), (a3, .inr (6, [v3_0, .ref a5, .ref a4, .int x3_3, v3_4])), (a4, .inl (kA 0, 280, .inl f4)), (a5, .inl (kA 0, 480, .inl f5))]
abbrev rm_Stacks_isSentence : Room := { frames := 2, cells := 0, slots := 0, locals := 45 }
def S_Stacks_isSentence (p1 : Int32) (f1 : (Nat → Int32)) (f2 : (Nat → Int32)) (x3_3 : Int32) (f4 : (Nat → Int32)) (f5 : (Nat → Int32)) : Option (Int32) := ((S_Stacks_canMove p1 6 f1 f2 x3_3 f4 f5).bind fun u_1 => (if u_1 = 0 ∨ u_1 = 1 then some u_1 else none))
set_option maxHeartbeats 4000000 in
set_option maxRecDepth 100000 in
theorem c_Stacks_isSentence (l : Launch) (dC : Nat → ClassId) (dI : Nat → Nat → Nat) (kA : Nat → ClassId) (sz : Nat) (a0 a1 a2 a3 a4 a5 : Nat) (v0_0 v3_0 v3_4 : Value) (p1 : Int32) (f1 : (Nat → Int32)) (f2 : (Nat → Int32)) (x3_3 : Int32) (f4 : (Nat → Int32)) (f5 : (Nat → Int32)) (r : Int32) (hF : S_Stacks_isSentence p1 f1 f2 x3_3 f4 f5 = some r) : Met l y_Stacks_isSentence w_Stacks_isSentence rm_Stacks_isSentence (va_Pc [.ref a0, .int p1] (fun U => U.heap.size = sz ∧ va_P (dC, dI) classes (wd_Stacks_isSentence kA a0 a1 a2 a3 a4 a5 v0_0 v3_0 v3_4 f1 f2 x3_3 f4 f5) U.heap ∧ va_K (dC, dI) classes (tys_ kA) U ∧ va_D (fun _ => True) (wd_Stacks_isSentence kA a0 a1 a2 a3 a4 a5 v0_0 v3_0 v3_4 f1 f2 x3_3 f4 f5))) (va_Qi (fun (r1 : Int32) (_ : Unit) => r1 = r) (fun _ t => va_P (dC, dI) classes (wd_Stacks_isSentence kA a0 a1 a2 a3 a4 a5 v0_0 v3_0 v3_4 f1 f2 x3_3 f4 f5) t.heap ∧ va_K (dC, dI) classes (tys_ kA) t ∧ va_D (va_A (wd_Stacks_isSentence kA a0 a1 a2 a3 a4 a5 v0_0 v3_0 v3_4 f1 f2 x3_3 f4 f5) sz) (wd_Stacks_isSentence kA a0 a1 a2 a3 a4 a5 v0_0 v3_0 v3_4 f1 f2 x3_3 f4 f5)) (va_A (wd_Stacks_isSentence kA a0 a1 a2 a3 a4 a5 v0_0 v3_0 v3_4 f1 f2 x3_3 f4 f5) sz)) 0 0 (va_A (wd_Stacks_isSentence kA a0 a1 a2 a3 a4 a5 v0_0 v3_0 v3_4 f1 f2 x3_3 f4 f5) sz) := by
  refine Met.ofW (cc := b_Stacks_isSentence) (maxL := 2) (ret := some .boolean) (by decide) rfl ?_
  intro p e s m args below meth c s₁ B hml hv
  obtain ⟨rfl, hsz, hP, hK, hD0⟩ := hv
  have hx := B.exec
  have hb := B.bytes
  have hr := B.returns
  have hts := atoms_spec (ws := w_Stacks_isSentence) B.pre
  have hown : s.vm.findClass R_Stacks = some m.cls := findClass_of_methodNamed B.named
  have hg := fun (w : Cond) (h : w ∈ gw) => hts w (List.mem_cons_of_mem _ h)
  have hlocks := B.notSynchronized
  subst hsz
  have hD := hD0.self (sz := s.heap.size)
  generalize hAe : va_A (wd_Stacks_isSentence kA a0 a1 a2 a3 a4 a5 v0_0 v3_0 v3_4 f1 f2 x3_3 f4 f5) s.heap.size = A at hD ⊢
  have hA : ∀ q : Nat, s.heap.size ≤ q → A q := fun q h => by rw [← hAe]; exact Or.inr h
  have hS : va_S A s.heap s.heap [] := va_S.rf
  have hl := lv_entry ([.ref a0, .int p1]) (n := 2) (Nat.le_of_ble_eq_true rfl)
  rw [lg_entry_eq]
  generalize (lg_sl ([.ref a0, .int p1]) ++ List.replicate (2 - (lg_sl ([.ref a0, .int p1])).length) Slot.unset).toArray = ls at hl ⊢
  have hl : lv_has ls 2 [(0, .ref a0), (1, .int p1)] := hl
  unfold S_Stacks_isSentence at hF
  refine lv_aload_n hx hb d_Stacks_isSentence_0 rfl (lv_at hl 0 rfl) ?_
  refine lv_iload_n hx hb d_Stacks_isSentence_1 rfl (lv_at hl 1 rfl) ?_
  refine lv_bipush (v := 6) hx hb d_Stacks_isSentence_2 (by decide) ?_
  obtain ⟨u_1, hS_1, hF⟩ := rd_bind hF
  have hPc := hP.sub (ws' := (wd_Stacks_canMove kA a0 a1 a2 a3 a4 a5 v0_0 v3_0 v3_4 f1 f2 x3_3 f4 f5)) [0, 1, 2, 3, 4, 5] rfl
  have hDc := hD.sub (ws' := (wd_Stacks_canMove kA a0 a1 a2 a3 a4 a5 v0_0 v3_0 v3_4 f1 f2 x3_3 f4 f5)) [0, 1, 2, 3, 4, 5] (by decide) rfl
  have hFc := va_free (wc := (wd_Stacks_canMove kA a0 a1 a2 a3 a4 a5 v0_0 v3_0 v3_4 f1 f2 x3_3 f4 f5)) hD hS hA [0, 1, 2, 3, 4, 5] rfl
  refine va_calli (va_runV (As := [.int p1, .int 6]) (rest := []) ⟨hx, hb, hml, hown, hts⟩ (c_Stacks_canMove l dC dI kA s.heap.size a0 a1 a2 a3 a4 a5 v0_0 v3_0 v3_4 p1 6 f1 f2 x3_3 f4 f5 u_1 hS_1) (cwV 2 hts (gw_V gw_101 gw_102 gw_103 gw_85 gw_104) rfl rfl rfl (by decide +kernel) ⟨Nat.le_of_ble_eq_true rfl, Nat.le_of_ble_eq_true rfl⟩) ⟨fun a U g mk q => by obtain ⟨q0, q1, qP, qK, qD⟩ := q; exact ⟨q0, q1, qP, va_K.moved (u := U) (U := U.calling g mk a) (Vm.Alike.refl U.vm) qK, qD⟩, va_recv hK hP (ci := 5) (q0 := 0) rfl rfl, fun U hU hW => ⟨rfl, by rw [hU], by rw [hU]; exact hPc, va_K.moved hW.alike hK, hDc.weaken (fun _ _ _ _ => trivial)⟩⟩ rfl rfl hl.1 rfl (lv_room (Nat.le_of_ble_eq_true rfl)) d_Stacks_isSentence_4 ⟨Nat.zero_le _, Nat.zero_le _⟩) hS (fun q _ h => hFc q h) hFc (fun r1 u t H1 locs ht hvm hw hB hz1 hk1 hS => ?_)
  rw [show r1 = _ from hw]
  obtain ⟨hP1, hK1, hD1⟩ := hB
  rw [ht] at hP1
  obtain ⟨hP, hD⟩ := va_join (wr := []) (w1 := (wd_Stacks_canMove kA a0 a1 a2 a3 a4 a5 v0_0 v3_0 v3_4 f1 f2 x3_3 f4 f5)) hP hD [0, 1, 2, 3, 4, 5] [] rfl rfl (by decide) (by decide) hk1 hFc hP1 hD1
  have hP := hP.sub (ws' := (wd_Stacks_isSentence kA a0 a1 a2 a3 a4 a5 v0_0 v3_0 v3_4 f1 f2 x3_3 f4 f5)) [0, 1, 2, 3, 4, 5] rfl
  have hD := hD.sub (ws' := (wd_Stacks_isSentence kA a0 a1 a2 a3 a4 a5 v0_0 v3_0 v3_4 f1 f2 x3_3 f4 f5)) [0, 1, 2, 3, 4, 5] (by decide) rfl
  clear hPc hDc hFc hP1 hK1 hD1
  generalize H1 = H at hP hS ⊢
  obtain ⟨b_2, hF⟩ := rd_bool hF
  have e0 := Option.some.inj hF
  exact W.zret (v := u_1) hx hb hr (rd_nb b_2) (fun t ht hW => ⟨⟨u_1, (), rfl, e0, by rw [ht]; exact hP, va_K.moved hW.alike hK, (by exact hD)⟩, hS.F ht⟩) hS.2.2 d_Stacks_isSentence_7 hlocks
-- ===== RepairDesk$Stacks.wrongPlace(LRepairDesk$Text;)I
abbrev wd_Stacks_wrongPlace (kA : Nat → ClassId) (a0 a1 a2 a3 a4 a5 a6 a7 a8 a9 a10 : Nat) (v2_2 v2_3 v2_4 v2_5 v2_6 v4_0 v4_4 v9_1 : Value) (f1 : (Nat → Int32)) (f3 : (Nat → Int32)) (x4_3 : Int32) (f5 : (Nat → Int32)) (f6 : (Nat → Int32)) (f7 : (Nat → Int32)) (f8 : (Nat → Int32)) (x9_2 : Int32) (f10 : (Nat → Int32)) : va_W := [(a0, .inr (5, [.ref a2, .ref a4, .ref a1, .ref a3])), (a1, .inl (kA 0, 4096, .inl f1)), (a2, .inr (2, [.ref a5, .ref a6, v2_2, v2_3, v2_4, v2_5, v2_6])), (a3, .inl (kA 0, 8, .inl f3)), (a4, .inr (6, [v4_0, .ref a8, .ref a7, .int x4_3, v4_4])), (a5, .inl (kA 0, 12, .inl f5)), (a6, .inl (kA 0, 12, .inl f6)), (a7, .inl (kA 0, 280, .inl f7)), (a8, .inl (kA 0, 480, .inl f8)), (a9, .inr (7, [.ref a10, v9_1, .int x9_2])), (a10, .inl (kA 0, 16, .inl f10))]
abbrev rm_Stacks_wrongPlace : Room := { frames := 3, cells := 0, slots := 0, locals := 108 }
def B_Stacks_wrongPlace_0 (K : Nat → Int32 → (Nat → Int32) → (Nat → Int32) → Option (Int32 × (Nat → Int32) × (Nat → Int32))) (x4_3 : Int32) (f5 : (Nat → Int32)) (f6 : (Nat → Int32)) (f7 : (Nat → Int32)) (f8 : (Nat → Int32)) (x9_2 : Int32) (f10 : (Nat → Int32)) (l2 : Int32) (f1 : (Nat → Int32)) (f3 : (Nat → Int32)) : Option (Int32 × (Nat → Int32) × (Nat → Int32)) := ((S_Text_size x9_2).bind fun u_1 => (if u_1 ≤ l2 then ((S_Text_size x9_2).bind fun u_3 => (if ¬ l2 = u_3 then (some (l2, f1, f3)) else ((S_Stacks_isSentence 0 f1 f3 x4_3 f7 f8).bind fun u_5 => (if u_5 = 0 then (some (l2, f1, f3)) else (some ((-1), f1, f3)))))) else ((S_Text_letterAt l2 x9_2 f10).bind fun u_7 => ((S_Stacks_feed 0 0 u_7 f1 f3 x4_3 f5 f6 f7 f8).bind fun u_8 => (if u_8.1 = 0 then ((S_Text_size x9_2).bind fun u_10 => (if ¬ l2 = u_10 then (some (l2, u_8.2.1, u_8.2.2)) else ((S_Stacks_isSentence 0 u_8.2.1 u_8.2.2 x4_3 f7 f8).bind fun u_12 => (if u_12 = 0 then (some (l2, u_8.2.1, u_8.2.2)) else (some ((-1), u_8.2.1, u_8.2.2)))))) else (K 0 (l2 + 1) u_8.2.1 u_8.2.2))))))
def F_Stacks_wrongPlace (x4_3 : Int32) (f5 : (Nat → Int32)) (f6 : (Nat → Int32)) (f7 : (Nat → Int32)) (f8 : (Nat → Int32)) (x9_2 : Int32) (f10 : (Nat → Int32)) : Nat → Nat → Int32 → (Nat → Int32) → (Nat → Int32) → Option (Int32 × (Nat → Int32) × (Nat → Int32))
  | 0 => fun _ _ _ _ => none
  | n + 1 => fun hd l2 f1 f3 => match hd with
    | 0 => B_Stacks_wrongPlace_0 (F_Stacks_wrongPlace x4_3 f5 f6 f7 f8 x9_2 f10 n) x4_3 f5 f6 f7 f8 x9_2 f10 l2 f1 f3
    | _ => none
set_option maxHeartbeats 4000000 in
set_option maxRecDepth 100000 in
theorem L_Stacks_wrongPlace {p : Program} {l : Launch} {e : Env} {s : State} {m : MethodId} {args : Array Value} {below : List Frame} {meth : Method} {c : Code} {A : Nat → Prop} {dC : Nat → ClassId} {dI : Nat → Nat → Nat} {kA : Nat → ClassId} (hx : p.tables.exec = Jvm.exec) (hb : c.code = b_Stacks_wrongPlace) (hr : meth.sig.returnType = some .int) (hlocks : meth.locks = false) (hml : c.maxLocals = 3) (hown : s.vm.findClass R_Stacks = some m.cls) (hts : ∀ w ∈ w_Stacks_wrongPlace, w.before args s = true) (hA : ∀ q : Nat, s.heap.size ≤ q → A q) (hK : va_K (dC, dI) classes (tys_ kA) s) (a0 a1 a2 a3 a4 a5 a6 a7 a8 a9 a10 : Nat) (v2_2 v2_3 v2_4 v2_5 v2_6 v4_0 v4_4 v9_1 : Value) (x4_3 : Int32) (f5 : (Nat → Int32)) (f6 : (Nat → Int32)) (f7 : (Nat → Int32)) (f8 : (Nat → Int32)) (x9_2 : Int32) (f10 : (Nat → Int32)) (r : Int32) (of1 : (Nat → Int32)) (of3 : (Nat → Int32)) : ∀ n : Nat, (∀ (l2 : Int32) (f1 : (Nat → Int32)) (f3 : (Nat → Int32)), F_Stacks_wrongPlace x4_3 f5 f6 f7 f8 x9_2 f10 n 0 l2 f1 f3 = some (r, of1, of3) → ∀ (H : Heap) (locs : List Loc) (ls : Array Slot), va_P (dC, dI) classes (wd_Stacks_wrongPlace kA a0 a1 a2 a3 a4 a5 a6 a7 a8 a9 a10 v2_2 v2_3 v2_4 v2_5 v2_6 v4_0 v4_4 v9_1 f1 f3 x4_3 f5 f6 f7 f8 x9_2 f10) H → va_D A (wd_Stacks_wrongPlace kA a0 a1 a2 a3 a4 a5 a6 a7 a8 a9 a10 v2_2 v2_3 v2_4 v2_5 v2_6 v4_0 v4_4 v9_1 f1 f3 x4_3 f5 f6 f7 f8 x9_2 f10) → va_S A s.heap H locs → lv_has ls 3 [(0, .ref a0), (1, .ref a9), (2, .int l2)] → W p l e (headSpec w_Stacks_wrongPlace rm_Stacks_wrongPlace).room s m args below meth c H locs 0 0 (MQ below (va_Qi (fun (r1 : Int32) (_ : Unit) => r1 = r) (fun _ t => va_P (dC, dI) classes (wd_Stacks_wrongPlace kA a0 a1 a2 a3 a4 a5 a6 a7 a8 a9 a10 v2_2 v2_3 v2_4 v2_5 v2_6 v4_0 v4_4 v9_1 of1 of3 x4_3 f5 f6 f7 f8 x9_2 f10) t.heap ∧ va_K (dC, dI) classes (tys_ kA) t ∧ va_D A (wd_Stacks_wrongPlace kA a0 a1 a2 a3 a4 a5 a6 a7 a8 a9 a10 v2_2 v2_3 v2_4 v2_5 v2_6 v4_0 v4_4 v9_1 of1 of3 x4_3 f5 f6 f7 f8 x9_2 f10)) A) args s 0 0 A) (F0 m 16 ls [])) := by
  have hg := fun (w : Cond) (h : w ∈ gw) => hts w (List.mem_cons_of_mem _ h)
  intro n
  induction n with
  | zero =>
    exact fun _ _ _ hF => absurd (show (none : Option _) = some _ from hF) (fun z => by cases z)
  | succ n ih =>
    intro l2 f1 f3 hF H locs ls hP hD hS hl
    have hF : B_Stacks_wrongPlace_0 (F_Stacks_wrongPlace x4_3 f5 f6 f7 f8 x9_2 f10 n) x4_3 f5 f6 f7 f8 x9_2 f10 l2 f1 f3 = some (r, of1, of3) := hF
    unfold B_Stacks_wrongPlace_0 at hF
    refine lv_iload_n hx hb d_Stacks_wrongPlace_16 rfl (lv_at hl 2 rfl) ?_
    refine lv_aload_n hx hb d_Stacks_wrongPlace_17 rfl (lv_at hl 1 rfl) ?_
    obtain ⟨u_1, hS_1, hF⟩ := rd_bind hF
    have hPc := hP.sub (ws' := (wd_Text_size kA a9 (.ref a10) v9_1 x9_2)) [9] rfl
    have hDc := hD.sub (ws' := (wd_Text_size kA a9 (.ref a10) v9_1 x9_2)) [9] (by decide) rfl
    have hFc := va_free (wc := (wd_Text_size kA a9 (.ref a10) v9_1 x9_2)) hD hS hA [9] rfl
    refine va_calli (va_runV (As := []) (rest := [.int l2]) ⟨hx, hb, hml, hown, hts⟩ (c_Text_size l dC dI kA H.size a9 (.ref a10) v9_1 x9_2 u_1 hS_1) (cwV 0 hts (gw_V gw_120 gw_121 gw_122 gw_123 gw_124) rfl rfl rfl (by decide +kernel) ⟨Nat.le_of_ble_eq_true rfl, Nat.le_of_ble_eq_true rfl⟩) ⟨fun a U g mk q => by obtain ⟨q0, q1, qP, qK, qD⟩ := q; exact ⟨q0, q1, qP, va_K.moved (u := U) (U := U.calling g mk a) (Vm.Alike.refl U.vm) qK, qD⟩, va_recv hK hP (ci := 7) (q0 := 9) rfl rfl, fun U hU hW => ⟨rfl, by rw [hU], by rw [hU]; exact hPc, va_K.moved hW.alike hK, hDc.weaken (fun _ _ _ _ => trivial)⟩⟩ rfl rfl hl.1 rfl (lv_room (Nat.le_of_ble_eq_true rfl)) d_Stacks_wrongPlace_18 ⟨Nat.zero_le _, Nat.zero_le _⟩) hS (fun q _ h => hFc q h) hFc (fun r1 u t H1 locs ht hvm hw hB hz1 hk1 hS => ?_)
    rw [show r1 = _ from hw]
    obtain ⟨hP1, hK1, hD1⟩ := hB
    rw [ht] at hP1
    obtain ⟨hP, hD⟩ := va_join (wr := [(a0, .inr (5, [.ref a2, .ref a4, .ref a1, .ref a3])), (a1, .inl (kA 0, 4096, .inl f1)), (a2, .inr (2, [.ref a5, .ref a6, v2_2, v2_3, v2_4, v2_5, v2_6])), (a3, .inl (kA 0, 8, .inl f3)), (a4, .inr (6, [v4_0, .ref a8, .ref a7, .int x4_3, v4_4])), (a5, .inl (kA 0, 12, .inl f5)), (a6, .inl (kA 0, 12, .inl f6)), (a7, .inl (kA 0, 280, .inl f7)), (a8, .inl (kA 0, 480, .inl f8)), (a10, .inl (kA 0, 16, .inl f10))]) (w1 := (wd_Text_size kA a9 (.ref a10) v9_1 x9_2)) hP hD [9] [0, 1, 2, 3, 4, 5, 6, 7, 8, 10] rfl rfl (by decide) (by decide) hk1 hFc hP1 hD1
    have hP := hP.sub (ws' := (wd_Stacks_wrongPlace kA a0 a1 a2 a3 a4 a5 a6 a7 a8 a9 a10 v2_2 v2_3 v2_4 v2_5 v2_6 v4_0 v4_4 v9_1 f1 f3 x4_3 f5 f6 f7 f8 x9_2 f10)) [0, 1, 2, 3, 4, 5, 6, 7, 8, 10, 9] rfl
    have hD := hD.sub (ws' := (wd_Stacks_wrongPlace kA a0 a1 a2 a3 a4 a5 a6 a7 a8 a9 a10 v2_2 v2_3 v2_4 v2_5 v2_6 v4_0 v4_4 v9_1 f1 f3 x4_3 f5 f6 f7 f8 x9_2 f10)) [0, 1, 2, 3, 4, 5, 6, 7, 8, 10, 9] (by decide) rfl
    clear hPc hDc hFc hP1 hK1 hD1
    generalize H1 = H at hP hS ⊢
    refine lv_icmp_ge (tgt := 44) hx hb d_Stacks_wrongPlace_21 (by decide) (fun c_2 => ?_) (fun c_2 => ?_)
    · rw [if_pos c_2] at hF
      refine lv_iload_n hx hb d_Stacks_wrongPlace_44 rfl (lv_at hl 2 rfl) ?_
      refine lv_aload_n hx hb d_Stacks_wrongPlace_45 rfl (lv_at hl 1 rfl) ?_
      obtain ⟨u_3, hS_3, hF⟩ := rd_bind hF
      have hPc := hP.sub (ws' := (wd_Text_size kA a9 (.ref a10) v9_1 x9_2)) [9] rfl
      have hDc := hD.sub (ws' := (wd_Text_size kA a9 (.ref a10) v9_1 x9_2)) [9] (by decide) rfl
      have hFc := va_free (wc := (wd_Text_size kA a9 (.ref a10) v9_1 x9_2)) hD hS hA [9] rfl
      refine va_calli (va_runV (As := []) (rest := [.int l2]) ⟨hx, hb, hml, hown, hts⟩ (c_Text_size l dC dI kA H.size a9 (.ref a10) v9_1 x9_2 u_3 hS_3) (cwV 0 hts (gw_V gw_120 gw_121 gw_122 gw_123 gw_124) rfl rfl rfl (by decide +kernel) ⟨Nat.le_of_ble_eq_true rfl, Nat.le_of_ble_eq_true rfl⟩) ⟨fun a U g mk q => by obtain ⟨q0, q1, qP, qK, qD⟩ := q; exact ⟨q0, q1, qP, va_K.moved (u := U) (U := U.calling g mk a) (Vm.Alike.refl U.vm) qK, qD⟩, va_recv hK hP (ci := 7) (q0 := 9) rfl rfl, fun U hU hW => ⟨rfl, by rw [hU], by rw [hU]; exact hPc, va_K.moved hW.alike hK, hDc.weaken (fun _ _ _ _ => trivial)⟩⟩ rfl rfl hl.1 rfl (lv_room (Nat.le_of_ble_eq_true rfl)) d_Stacks_wrongPlace_46 ⟨Nat.zero_le _, Nat.zero_le _⟩) hS (fun q _ h => hFc q h) hFc (fun r1 u t H1 locs ht hvm hw hB hz1 hk1 hS => ?_)
      rw [show r1 = _ from hw]
      obtain ⟨hP1, hK1, hD1⟩ := hB
      rw [ht] at hP1
      obtain ⟨hP, hD⟩ := va_join (wr := [(a0, .inr (5, [.ref a2, .ref a4, .ref a1, .ref a3])), (a1, .inl (kA 0, 4096, .inl f1)), (a2, .inr (2, [.ref a5, .ref a6, v2_2, v2_3, v2_4, v2_5, v2_6])), (a3, .inl (kA 0, 8, .inl f3)), (a4, .inr (6, [v4_0, .ref a8, .ref a7, .int x4_3, v4_4])), (a5, .inl (kA 0, 12, .inl f5)), (a6, .inl (kA 0, 12, .inl f6)), (a7, .inl (kA 0, 280, .inl f7)), (a8, .inl (kA 0, 480, .inl f8)), (a10, .inl (kA 0, 16, .inl f10))]) (w1 := (wd_Text_size kA a9 (.ref a10) v9_1 x9_2)) hP hD [9] [0, 1, 2, 3, 4, 5, 6, 7, 8, 10] rfl rfl (by decide) (by decide) hk1 hFc hP1 hD1
      have hP := hP.sub (ws' := (wd_Stacks_wrongPlace kA a0 a1 a2 a3 a4 a5 a6 a7 a8 a9 a10 v2_2 v2_3 v2_4 v2_5 v2_6 v4_0 v4_4 v9_1 f1 f3 x4_3 f5 f6 f7 f8 x9_2 f10)) [0, 1, 2, 3, 4, 5, 6, 7, 8, 10, 9] rfl
      have hD := hD.sub (ws' := (wd_Stacks_wrongPlace kA a0 a1 a2 a3 a4 a5 a6 a7 a8 a9 a10 v2_2 v2_3 v2_4 v2_5 v2_6 v4_0 v4_4 v9_1 f1 f3 x4_3 f5 f6 f7 f8 x9_2 f10)) [0, 1, 2, 3, 4, 5, 6, 7, 8, 10, 9] (by decide) rfl
      clear hPc hDc hFc hP1 hK1 hD1
      generalize H1 = H at hP hS ⊢
      refine lv_icmp_ne (tgt := 64) hx hb d_Stacks_wrongPlace_49 (by decide) (fun c_4 => ?_) (fun c_4 => ?_)
      · rw [if_pos c_4] at hF
        refine lv_iload_n hx hb d_Stacks_wrongPlace_64 rfl (lv_at hl 2 rfl) ?_
        have e0 := Option.some.inj hF
        have q0 := Prod.mk.inj e0
        have q1 := Prod.mk.inj q0.2
        exact W.iret (v := l2) hx hb hr (fun t ht hW => ⟨⟨l2, (), rfl, q0.1, by rw [ht, ← q1.1, ← q1.2]; exact hP, va_K.moved hW.alike hK, (by rw [← q1.1, ← q1.2]; exact hD)⟩, hS.F ht⟩) hS.2.2 d_Stacks_wrongPlace_65 hlocks
      · rw [if_neg (fun z => z c_4)] at hF
        refine lv_aload_n hx hb d_Stacks_wrongPlace_52 rfl (lv_at hl 0 rfl) ?_
        refine lv_iconst (v := 0) hx hb d_Stacks_wrongPlace_53 (by decide) ?_
        obtain ⟨u_5, hS_5, hF⟩ := rd_bind hF
        have hPc := hP.sub (ws' := (wd_Stacks_isSentence kA a0 a1 a3 a4 a7 a8 (.ref a2) v4_0 v4_4 f1 f3 x4_3 f7 f8)) [0, 1, 3, 4, 7, 8] rfl
        have hDc := hD.sub (ws' := (wd_Stacks_isSentence kA a0 a1 a3 a4 a7 a8 (.ref a2) v4_0 v4_4 f1 f3 x4_3 f7 f8)) [0, 1, 3, 4, 7, 8] (by decide) rfl
        have hFc := va_free (wc := (wd_Stacks_isSentence kA a0 a1 a3 a4 a7 a8 (.ref a2) v4_0 v4_4 f1 f3 x4_3 f7 f8)) hD hS hA [0, 1, 3, 4, 7, 8] rfl
        refine va_calli (va_runV (As := [.int 0]) (rest := []) ⟨hx, hb, hml, hown, hts⟩ (c_Stacks_isSentence l dC dI kA H.size a0 a1 a3 a4 a7 a8 (.ref a2) v4_0 v4_4 0 f1 f3 x4_3 f7 f8 u_5 hS_5) (cwV 1 hts (gw_V gw_125 gw_126 gw_127 gw_85 gw_128) rfl rfl rfl (by decide +kernel) ⟨Nat.le_of_ble_eq_true rfl, Nat.le_of_ble_eq_true rfl⟩) ⟨fun a U g mk q => by obtain ⟨q0, q1, qP, qK, qD⟩ := q; exact ⟨q0, q1, qP, va_K.moved (u := U) (U := U.calling g mk a) (Vm.Alike.refl U.vm) qK, qD⟩, va_recv hK hP (ci := 5) (q0 := 0) rfl rfl, fun U hU hW => ⟨rfl, by rw [hU], by rw [hU]; exact hPc, va_K.moved hW.alike hK, hDc.weaken (fun _ _ _ _ => trivial)⟩⟩ rfl rfl hl.1 rfl (lv_room (Nat.le_of_ble_eq_true rfl)) d_Stacks_wrongPlace_54 ⟨Nat.zero_le _, Nat.zero_le _⟩) hS (fun q _ h => hFc q h) hFc (fun r1 u t H1 locs ht hvm hw hB hz1 hk1 hS => ?_)
        rw [show r1 = _ from hw]
        obtain ⟨hP1, hK1, hD1⟩ := hB
        rw [ht] at hP1
        obtain ⟨hP, hD⟩ := va_join (wr := [(a2, .inr (2, [.ref a5, .ref a6, v2_2, v2_3, v2_4, v2_5, v2_6])), (a5, .inl (kA 0, 12, .inl f5)), (a6, .inl (kA 0, 12, .inl f6)), (a9, .inr (7, [.ref a10, v9_1, .int x9_2])), (a10, .inl (kA 0, 16, .inl f10))]) (w1 := (wd_Stacks_isSentence kA a0 a1 a3 a4 a7 a8 (.ref a2) v4_0 v4_4 f1 f3 x4_3 f7 f8)) hP hD [0, 1, 3, 4, 7, 8] [2, 5, 6, 9, 10] rfl rfl (by decide) (by decide) hk1 hFc hP1 hD1
        have hP := hP.sub (ws' := (wd_Stacks_wrongPlace kA a0 a1 a2 a3 a4 a5 a6 a7 a8 a9 a10 v2_2 v2_3 v2_4 v2_5 v2_6 v4_0 v4_4 v9_1 f1 f3 x4_3 f5 f6 f7 f8 x9_2 f10)) [5, 6, 0, 7, 8, 1, 2, 9, 10, 3, 4] rfl
        have hD := hD.sub (ws' := (wd_Stacks_wrongPlace kA a0 a1 a2 a3 a4 a5 a6 a7 a8 a9 a10 v2_2 v2_3 v2_4 v2_5 v2_6 v4_0 v4_4 v9_1 f1 f3 x4_3 f5 f6 f7 f8 x9_2 f10)) [5, 6, 0, 7, 8, 1, 2, 9, 10, 3, 4] (by decide) rfl
        clear hPc hDc hFc hP1 hK1 hD1
        generalize H1 = H at hP hS ⊢
        refine lv_if_eq (tgt := 64) hx hb d_Stacks_wrongPlace_57 (by decide) (fun c_6 => ?_) (fun c_6 => ?_)
        · rw [if_pos c_6] at hF
          refine lv_iload_n hx hb d_Stacks_wrongPlace_64 rfl (lv_at hl 2 rfl) ?_
          have e0 := Option.some.inj hF
          have q0 := Prod.mk.inj e0
          have q1 := Prod.mk.inj q0.2
          exact W.iret (v := l2) hx hb hr (fun t ht hW => ⟨⟨l2, (), rfl, q0.1, by rw [ht, ← q1.1, ← q1.2]; exact hP, va_K.moved hW.alike hK, (by rw [← q1.1, ← q1.2]; exact hD)⟩, hS.F ht⟩) hS.2.2 d_Stacks_wrongPlace_65 hlocks
        · rw [if_neg c_6] at hF
          refine lv_iconst (v := (-1)) hx hb d_Stacks_wrongPlace_60 (by decide) ?_
          refine lv_goto (tgt := 65) hx hb d_Stacks_wrongPlace_61 (by decide) ?_
          have e0 := Option.some.inj hF
          have q0 := Prod.mk.inj e0
          have q1 := Prod.mk.inj q0.2
          exact W.iret (v := (-1)) hx hb hr (fun t ht hW => ⟨⟨(-1), (), rfl, q0.1, by rw [ht, ← q1.1, ← q1.2]; exact hP, va_K.moved hW.alike hK, (by rw [← q1.1, ← q1.2]; exact hD)⟩, hS.F ht⟩) hS.2.2 d_Stacks_wrongPlace_65 hlocks
    · rw [if_neg c_2] at hF
      refine lv_aload_n hx hb d_Stacks_wrongPlace_24 rfl (lv_at hl 0 rfl) ?_
      refine lv_iconst (v := 0) hx hb d_Stacks_wrongPlace_25 (by decide) ?_
      refine lv_iconst (v := 0) hx hb d_Stacks_wrongPlace_26 (by decide) ?_
      refine lv_aload_n hx hb d_Stacks_wrongPlace_27 rfl (lv_at hl 1 rfl) ?_
      refine lv_iload_n hx hb d_Stacks_wrongPlace_28 rfl (lv_at hl 2 rfl) ?_
      obtain ⟨u_7, hS_7, hF⟩ := rd_bind hF
      have hPc := hP.sub (ws' := (wd_Text_letterAt kA a9 a10 v9_1 x9_2 f10)) [9, 10] rfl
      have hDc := hD.sub (ws' := (wd_Text_letterAt kA a9 a10 v9_1 x9_2 f10)) [9, 10] (by decide) rfl
      have hFc := va_free (wc := (wd_Text_letterAt kA a9 a10 v9_1 x9_2 f10)) hD hS hA [9, 10] rfl
      refine va_calli (va_runV (As := [.int l2]) (rest := [.int 0, .int 0, .ref a0]) ⟨hx, hb, hml, hown, hts⟩ (c_Text_letterAt l dC dI kA H.size a9 a10 v9_1 l2 x9_2 f10 u_7 hS_7) (cwV 1 hts (gw_V gw_129 gw_130 gw_131 gw_123 gw_132) rfl rfl rfl (by decide +kernel) ⟨Nat.le_of_ble_eq_true rfl, Nat.le_of_ble_eq_true rfl⟩) ⟨fun a U g mk q => by obtain ⟨q0, q1, qP, qK, qD⟩ := q; exact ⟨q0, q1, qP, va_K.moved (u := U) (U := U.calling g mk a) (Vm.Alike.refl U.vm) qK, qD⟩, va_recv hK hP (ci := 7) (q0 := 9) rfl rfl, fun U hU hW => ⟨rfl, by rw [hU], by rw [hU]; exact hPc, va_K.moved hW.alike hK, hDc.weaken (fun _ _ _ _ => trivial)⟩⟩ rfl rfl hl.1 rfl (lv_room (Nat.le_of_ble_eq_true rfl)) d_Stacks_wrongPlace_29 ⟨Nat.zero_le _, Nat.zero_le _⟩) hS (fun q _ h => hFc q h) hFc (fun r1 u t H1 locs ht hvm hw hB hz1 hk1 hS => ?_)
      rw [show r1 = _ from hw]
      obtain ⟨hP1, hK1, hD1⟩ := hB
      rw [ht] at hP1
      obtain ⟨hP, hD⟩ := va_join (wr := [(a0, .inr (5, [.ref a2, .ref a4, .ref a1, .ref a3])), (a1, .inl (kA 0, 4096, .inl f1)), (a2, .inr (2, [.ref a5, .ref a6, v2_2, v2_3, v2_4, v2_5, v2_6])), (a3, .inl (kA 0, 8, .inl f3)), (a4, .inr (6, [v4_0, .ref a8, .ref a7, .int x4_3, v4_4])), (a5, .inl (kA 0, 12, .inl f5)), (a6, .inl (kA 0, 12, .inl f6)), (a7, .inl (kA 0, 280, .inl f7)), (a8, .inl (kA 0, 480, .inl f8))]) (w1 := (wd_Text_letterAt kA a9 a10 v9_1 x9_2 f10)) hP hD [9, 10] [0, 1, 2, 3, 4, 5, 6, 7, 8] rfl rfl (by decide) (by decide) hk1 hFc hP1 hD1
      have hP := hP.sub (ws' := (wd_Stacks_wrongPlace kA a0 a1 a2 a3 a4 a5 a6 a7 a8 a9 a10 v2_2 v2_3 v2_4 v2_5 v2_6 v4_0 v4_4 v9_1 f1 f3 x4_3 f5 f6 f7 f8 x9_2 f10)) [0, 1, 2, 3, 4, 5, 6, 7, 8, 9, 10] rfl
      have hD := hD.sub (ws' := (wd_Stacks_wrongPlace kA a0 a1 a2 a3 a4 a5 a6 a7 a8 a9 a10 v2_2 v2_3 v2_4 v2_5 v2_6 v4_0 v4_4 v9_1 f1 f3 x4_3 f5 f6 f7 f8 x9_2 f10)) [0, 1, 2, 3, 4, 5, 6, 7, 8, 9, 10] (by decide) rfl
      clear hPc hDc hFc hP1 hK1 hD1
      generalize H1 = H at hP hS ⊢
      obtain ⟨u_8, hS_8, hF⟩ := rd_bind hF
      have hPc := hP.sub (ws' := (wd_Stacks_feed kA a0 a1 a2 a3 a4 a5 a6 a7 a8 v2_2 v2_3 v2_4 v2_5 v2_6 v4_0 v4_4 f1 f3 x4_3 f5 f6 f7 f8)) [0, 1, 2, 3, 4, 5, 6, 7, 8] rfl
      have hDc := hD.sub (ws' := (wd_Stacks_feed kA a0 a1 a2 a3 a4 a5 a6 a7 a8 v2_2 v2_3 v2_4 v2_5 v2_6 v4_0 v4_4 f1 f3 x4_3 f5 f6 f7 f8)) [0, 1, 2, 3, 4, 5, 6, 7, 8] (by decide) rfl
      have hFc := va_free (wc := (wd_Stacks_feed kA a0 a1 a2 a3 a4 a5 a6 a7 a8 v2_2 v2_3 v2_4 v2_5 v2_6 v4_0 v4_4 f1 f3 x4_3 f5 f6 f7 f8)) hD hS hA [0, 1, 2, 3, 4, 5, 6, 7, 8] rfl
      refine va_calli (va_runV (As := [.int 0, .int 0, .int u_7]) (rest := []) ⟨hx, hb, hml, hown, hts⟩ (c_Stacks_feed l dC dI kA H.size a0 a1 a2 a3 a4 a5 a6 a7 a8 v2_2 v2_3 v2_4 v2_5 v2_6 v4_0 v4_4 0 0 u_7 f1 f3 x4_3 f5 f6 f7 f8 u_8.1 u_8.2.1 u_8.2.2 hS_8) (cwV 3 hts (gw_V gw_133 gw_134 gw_135 gw_85 gw_136) rfl rfl rfl (by decide +kernel) ⟨Nat.le_of_ble_eq_true rfl, Nat.le_of_ble_eq_true rfl⟩) ⟨fun a U g mk q => by obtain ⟨q0, q1, qP, qK, qD⟩ := q; exact ⟨q0, q1, qP, va_K.moved (u := U) (U := U.calling g mk a) (Vm.Alike.refl U.vm) qK, qD⟩, va_recv hK hP (ci := 5) (q0 := 0) rfl rfl, fun U hU hW => ⟨rfl, by rw [hU], by rw [hU]; exact hPc, va_K.moved hW.alike hK, hDc.weaken (fun _ _ _ _ => trivial)⟩⟩ rfl rfl hl.1 rfl (lv_room (Nat.le_of_ble_eq_true rfl)) d_Stacks_wrongPlace_32 ⟨Nat.zero_le _, Nat.zero_le _⟩) hS (fun q _ h => hFc q h) hFc (fun r1 u t H1 locs ht hvm hw hB hz1 hk1 hS => ?_)
      rw [show r1 = _ from hw]
      obtain ⟨hP1, hK1, hD1⟩ := hB
      rw [ht] at hP1
      obtain ⟨hP, hD⟩ := va_join (wr := [(a9, .inr (7, [.ref a10, v9_1, .int x9_2])), (a10, .inl (kA 0, 16, .inl f10))]) (w1 := (wd_Stacks_feed kA a0 a1 a2 a3 a4 a5 a6 a7 a8 v2_2 v2_3 v2_4 v2_5 v2_6 v4_0 v4_4 u_8.2.1 u_8.2.2 x4_3 f5 f6 f7 f8)) hP hD [0, 1, 2, 3, 4, 5, 6, 7, 8] [9, 10] rfl rfl (by decide) (by decide) hk1 hFc hP1 hD1
      have hP := hP.sub (ws' := (wd_Stacks_wrongPlace kA a0 a1 a2 a3 a4 a5 a6 a7 a8 a9 a10 v2_2 v2_3 v2_4 v2_5 v2_6 v4_0 v4_4 v9_1 u_8.2.1 u_8.2.2 x4_3 f5 f6 f7 f8 x9_2 f10)) [2, 3, 4, 5, 6, 7, 8, 9, 10, 0, 1] rfl
      have hD := hD.sub (ws' := (wd_Stacks_wrongPlace kA a0 a1 a2 a3 a4 a5 a6 a7 a8 a9 a10 v2_2 v2_3 v2_4 v2_5 v2_6 v4_0 v4_4 v9_1 u_8.2.1 u_8.2.2 x4_3 f5 f6 f7 f8 x9_2 f10)) [2, 3, 4, 5, 6, 7, 8, 9, 10, 0, 1] (by decide) rfl
      clear hPc hDc hFc hP1 hK1 hD1
      generalize H1 = H at hP hS ⊢
      refine lv_if_eq (tgt := 44) hx hb d_Stacks_wrongPlace_35 (by decide) (fun c_9 => ?_) (fun c_9 => ?_)
      · rw [if_pos c_9] at hF
        refine lv_iload_n hx hb d_Stacks_wrongPlace_44 rfl (lv_at hl 2 rfl) ?_
        refine lv_aload_n hx hb d_Stacks_wrongPlace_45 rfl (lv_at hl 1 rfl) ?_
        obtain ⟨u_10, hS_10, hF⟩ := rd_bind hF
        have hPc := hP.sub (ws' := (wd_Text_size kA a9 (.ref a10) v9_1 x9_2)) [9] rfl
        have hDc := hD.sub (ws' := (wd_Text_size kA a9 (.ref a10) v9_1 x9_2)) [9] (by decide) rfl
        have hFc := va_free (wc := (wd_Text_size kA a9 (.ref a10) v9_1 x9_2)) hD hS hA [9] rfl
        refine va_calli (va_runV (As := []) (rest := [.int l2]) ⟨hx, hb, hml, hown, hts⟩ (c_Text_size l dC dI kA H.size a9 (.ref a10) v9_1 x9_2 u_10 hS_10) (cwV 0 hts (gw_V gw_120 gw_121 gw_122 gw_123 gw_124) rfl rfl rfl (by decide +kernel) ⟨Nat.le_of_ble_eq_true rfl, Nat.le_of_ble_eq_true rfl⟩) ⟨fun a U g mk q => by obtain ⟨q0, q1, qP, qK, qD⟩ := q; exact ⟨q0, q1, qP, va_K.moved (u := U) (U := U.calling g mk a) (Vm.Alike.refl U.vm) qK, qD⟩, va_recv hK hP (ci := 7) (q0 := 9) rfl rfl, fun U hU hW => ⟨rfl, by rw [hU], by rw [hU]; exact hPc, va_K.moved hW.alike hK, hDc.weaken (fun _ _ _ _ => trivial)⟩⟩ rfl rfl hl.1 rfl (lv_room (Nat.le_of_ble_eq_true rfl)) d_Stacks_wrongPlace_46 ⟨Nat.zero_le _, Nat.zero_le _⟩) hS (fun q _ h => hFc q h) hFc (fun r1 u t H1 locs ht hvm hw hB hz1 hk1 hS => ?_)
        rw [show r1 = _ from hw]
        obtain ⟨hP1, hK1, hD1⟩ := hB
        rw [ht] at hP1
        obtain ⟨hP, hD⟩ := va_join (wr := [(a0, .inr (5, [.ref a2, .ref a4, .ref a1, .ref a3])), (a1, .inl (kA 0, 4096, .inl u_8.2.1)), (a2, .inr (2, [.ref a5, .ref a6, v2_2, v2_3, v2_4, v2_5, v2_6])), (a3, .inl (kA 0, 8, .inl u_8.2.2)), (a4, .inr (6, [v4_0, .ref a8, .ref a7, .int x4_3, v4_4])), (a5, .inl (kA 0, 12, .inl f5)), (a6, .inl (kA 0, 12, .inl f6)), (a7, .inl (kA 0, 280, .inl f7)), (a8, .inl (kA 0, 480, .inl f8)), (a10, .inl (kA 0, 16, .inl f10))]) (w1 := (wd_Text_size kA a9 (.ref a10) v9_1 x9_2)) hP hD [9] [0, 1, 2, 3, 4, 5, 6, 7, 8, 10] rfl rfl (by decide) (by decide) hk1 hFc hP1 hD1
        have hP := hP.sub (ws' := (wd_Stacks_wrongPlace kA a0 a1 a2 a3 a4 a5 a6 a7 a8 a9 a10 v2_2 v2_3 v2_4 v2_5 v2_6 v4_0 v4_4 v9_1 u_8.2.1 u_8.2.2 x4_3 f5 f6 f7 f8 x9_2 f10)) [0, 1, 2, 3, 4, 5, 6, 7, 8, 10, 9] rfl
        have hD := hD.sub (ws' := (wd_Stacks_wrongPlace kA a0 a1 a2 a3 a4 a5 a6 a7 a8 a9 a10 v2_2 v2_3 v2_4 v2_5 v2_6 v4_0 v4_4 v9_1 u_8.2.1 u_8.2.2 x4_3 f5 f6 f7 f8 x9_2 f10)) [0, 1, 2, 3, 4, 5, 6, 7, 8, 10, 9] (by decide) rfl
        clear hPc hDc hFc hP1 hK1 hD1
        generalize H1 = H at hP hS ⊢
        refine lv_icmp_ne (tgt := 64) hx hb d_Stacks_wrongPlace_49 (by decide) (fun c_11 => ?_) (fun c_11 => ?_)
        · rw [if_pos c_11] at hF
          refine lv_iload_n hx hb d_Stacks_wrongPlace_64 rfl (lv_at hl 2 rfl) ?_
          have e0 := Option.some.inj hF
          have q0 := Prod.mk.inj e0
          have q1 := Prod.mk.inj q0.2
          exact W.iret (v := l2) hx hb hr (fun t ht hW => ⟨⟨l2, (), rfl, q0.1, by rw [ht, ← q1.1, ← q1.2]; exact hP, va_K.moved hW.alike hK, (by rw [← q1.1, ← q1.2]; exact hD)⟩, hS.F ht⟩) hS.2.2 d_Stacks_wrongPlace_65 hlocks
        · rw [if_neg (fun z => z c_11)] at hF
          refine lv_aload_n hx hb d_Stacks_wrongPlace_52 rfl (lv_at hl 0 rfl) ?_
          refine lv_iconst (v := 0) hx hb d_Stacks_wrongPlace_53 (by decide) ?_
          obtain ⟨u_12, hS_12, hF⟩ := rd_bind hF
          have hPc := hP.sub (ws' := (wd_Stacks_isSentence kA a0 a1 a3 a4 a7 a8 (.ref a2) v4_0 v4_4 u_8.2.1 u_8.2.2 x4_3 f7 f8)) [0, 1, 3, 4, 7, 8] rfl
          have hDc := hD.sub (ws' := (wd_Stacks_isSentence kA a0 a1 a3 a4 a7 a8 (.ref a2) v4_0 v4_4 u_8.2.1 u_8.2.2 x4_3 f7 f8)) [0, 1, 3, 4, 7, 8] (by decide) rfl
          have hFc := va_free (wc := (wd_Stacks_isSentence kA a0 a1 a3 a4 a7 a8 (.ref a2) v4_0 v4_4 u_8.2.1 u_8.2.2 x4_3 f7 f8)) hD hS hA [0, 1, 3, 4, 7, 8] rfl
          refine va_calli (va_runV (As := [.int 0]) (rest := []) ⟨hx, hb, hml, hown, hts⟩ (c_Stacks_isSentence l dC dI kA H.size a0 a1 a3 a4 a7 a8 (.ref a2) v4_0 v4_4 0 u_8.2.1 u_8.2.2 x4_3 f7 f8 u_12 hS_12) (cwV 1 hts (gw_V gw_125 gw_126 gw_127 gw_85 gw_128) rfl rfl rfl (by decide +kernel) ⟨Nat.le_of_ble_eq_true rfl, Nat.le_of_ble_eq_true rfl⟩) ⟨fun a U g mk q => by obtain ⟨q0, q1, qP, qK, qD⟩ := q; exact ⟨q0, q1, qP, va_K.moved (u := U) (U := U.calling g mk a) (Vm.Alike.refl U.vm) qK, qD⟩, va_recv hK hP (ci := 5) (q0 := 0) rfl rfl, fun U hU hW => ⟨rfl, by rw [hU], by rw [hU]; exact hPc, va_K.moved hW.alike hK, hDc.weaken (fun _ _ _ _ => trivial)⟩⟩ rfl rfl hl.1 rfl (lv_room (Nat.le_of_ble_eq_true rfl)) d_Stacks_wrongPlace_54 ⟨Nat.zero_le _, Nat.zero_le _⟩) hS (fun q _ h => hFc q h) hFc (fun r1 u t H1 locs ht hvm hw hB hz1 hk1 hS => ?_)
          rw [show r1 = _ from hw]
          obtain ⟨hP1, hK1, hD1⟩ := hB
          rw [ht] at hP1
          obtain ⟨hP, hD⟩ := va_join (wr := [(a2, .inr (2, [.ref a5, .ref a6, v2_2, v2_3, v2_4, v2_5, v2_6])), (a5, .inl (kA 0, 12, .inl f5)), (a6, .inl (kA 0, 12, .inl f6)), (a9, .inr (7, [.ref a10, v9_1, .int x9_2])), (a10, .inl (kA 0, 16, .inl f10))]) (w1 := (wd_Stacks_isSentence kA a0 a1 a3 a4 a7 a8 (.ref a2) v4_0 v4_4 u_8.2.1 u_8.2.2 x4_3 f7 f8)) hP hD [0, 1, 3, 4, 7, 8] [2, 5, 6, 9, 10] rfl rfl (by decide) (by decide) hk1 hFc hP1 hD1
          have hP := hP.sub (ws' := (wd_Stacks_wrongPlace kA a0 a1 a2 a3 a4 a5 a6 a7 a8 a9 a10 v2_2 v2_3 v2_4 v2_5 v2_6 v4_0 v4_4 v9_1 u_8.2.1 u_8.2.2 x4_3 f5 f6 f7 f8 x9_2 f10)) [5, 6, 0, 7, 8, 1, 2, 9, 10, 3, 4] rfl
          have hD := hD.sub (ws' := (wd_Stacks_wrongPlace kA a0 a1 a2 a3 a4 a5 a6 a7 a8 a9 a10 v2_2 v2_3 v2_4 v2_5 v2_6 v4_0 v4_4 v9_1 u_8.2.1 u_8.2.2 x4_3 f5 f6 f7 f8 x9_2 f10)) [5, 6, 0, 7, 8, 1, 2, 9, 10, 3, 4] (by decide) rfl
          clear hPc hDc hFc hP1 hK1 hD1
          generalize H1 = H at hP hS ⊢
          refine lv_if_eq (tgt := 64) hx hb d_Stacks_wrongPlace_57 (by decide) (fun c_13 => ?_) (fun c_13 => ?_)
          · rw [if_pos c_13] at hF
            refine lv_iload_n hx hb d_Stacks_wrongPlace_64 rfl (lv_at hl 2 rfl) ?_
            have e0 := Option.some.inj hF
            have q0 := Prod.mk.inj e0
            have q1 := Prod.mk.inj q0.2
            exact W.iret (v := l2) hx hb hr (fun t ht hW => ⟨⟨l2, (), rfl, q0.1, by rw [ht, ← q1.1, ← q1.2]; exact hP, va_K.moved hW.alike hK, (by rw [← q1.1, ← q1.2]; exact hD)⟩, hS.F ht⟩) hS.2.2 d_Stacks_wrongPlace_65 hlocks
          · rw [if_neg c_13] at hF
            refine lv_iconst (v := (-1)) hx hb d_Stacks_wrongPlace_60 (by decide) ?_
            refine lv_goto (tgt := 65) hx hb d_Stacks_wrongPlace_61 (by decide) ?_
            have e0 := Option.some.inj hF
            have q0 := Prod.mk.inj e0
            have q1 := Prod.mk.inj q0.2
            exact W.iret (v := (-1)) hx hb hr (fun t ht hW => ⟨⟨(-1), (), rfl, q0.1, by rw [ht, ← q1.1, ← q1.2]; exact hP, va_K.moved hW.alike hK, (by rw [← q1.1, ← q1.2]; exact hD)⟩, hS.F ht⟩) hS.2.2 d_Stacks_wrongPlace_65 hlocks
      · rw [if_neg c_9] at hF
        refine lv_iinc (v := (l2 + 1)) (lv' := [(2, .int (l2 + 1)), (0, .ref a0), (1, .ref a9)]) hx hb d_Stacks_wrongPlace_38 hl (k := 2) rfl (by rfl) (by decide) rfl (fun ls hl => ?_)
        refine lv_goto (tgt := 16) hx hb d_Stacks_wrongPlace_41 (by decide) ?_
        exact ih (l2 + 1) u_8.2.1 u_8.2.2 hF _ _ _ hP hD hS (lv_sub hl [1, 2, 0] rfl)
def S_Stacks_wrongPlace (f1 : (Nat → Int32)) (f3 : (Nat → Int32)) (x4_3 : Int32) (f5 : (Nat → Int32)) (f6 : (Nat → Int32)) (f7 : (Nat → Int32)) (f8 : (Nat → Int32)) (x9_2 : Int32) (f10 : (Nat → Int32)) : Option (Int32 × (Nat → Int32) × (Nat → Int32)) := (if (0 : Int32) < 0 ∨ 4096 ≤ (Int32.toNatClampNeg 0) then none else (if (0 : Int32) < 0 ∨ 8 ≤ (Int32.toNatClampNeg 0) then none else (F_Stacks_wrongPlace x4_3 f5 f6 f7 f8 x9_2 f10 fuel_ 0 0 (upd f1 (Int32.toNatClampNeg 0) 0) (upd f3 (Int32.toNatClampNeg 0) 1))))
set_option maxHeartbeats 4000000 in
set_option maxRecDepth 100000 in
theorem c_Stacks_wrongPlace (l : Launch) (dC : Nat → ClassId) (dI : Nat → Nat → Nat) (kA : Nat → ClassId) (sz : Nat) (a0 a1 a2 a3 a4 a5 a6 a7 a8 a9 a10 : Nat) (v2_2 v2_3 v2_4 v2_5 v2_6 v4_0 v4_4 v9_1 : Value) (f1 : (Nat → Int32)) (f3 : (Nat → Int32)) (x4_3 : Int32) (f5 : (Nat → Int32)) (f6 : (Nat → Int32)) (f7 : (Nat → Int32)) (f8 : (Nat → Int32)) (x9_2 : Int32) (f10 : (Nat → Int32)) (r : Int32) (of1 : (Nat → Int32)) (of3 : (Nat → Int32)) (hF : S_Stacks_wrongPlace f1 f3 x4_3 f5 f6 f7 f8 x9_2 f10 = some (r, of1, of3)) : Met l y_Stacks_wrongPlace w_Stacks_wrongPlace rm_Stacks_wrongPlace (va_Pc [.ref a0, .ref a9] (fun U => U.heap.size = sz ∧ va_P (dC, dI) classes (wd_Stacks_wrongPlace kA a0 a1 a2 a3 a4 a5 a6 a7 a8 a9 a10 v2_2 v2_3 v2_4 v2_5 v2_6 v4_0 v4_4 v9_1 f1 f3 x4_3 f5 f6 f7 f8 x9_2 f10) U.heap ∧ va_K (dC, dI) classes (tys_ kA) U ∧ va_D (fun _ => True) (wd_Stacks_wrongPlace kA a0 a1 a2 a3 a4 a5 a6 a7 a8 a9 a10 v2_2 v2_3 v2_4 v2_5 v2_6 v4_0 v4_4 v9_1 f1 f3 x4_3 f5 f6 f7 f8 x9_2 f10))) (va_Qi (fun (r1 : Int32) (_ : Unit) => r1 = r) (fun _ t => va_P (dC, dI) classes (wd_Stacks_wrongPlace kA a0 a1 a2 a3 a4 a5 a6 a7 a8 a9 a10 v2_2 v2_3 v2_4 v2_5 v2_6 v4_0 v4_4 v9_1 of1 of3 x4_3 f5 f6 f7 f8 x9_2 f10) t.heap ∧ va_K (dC, dI) classes (tys_ kA) t ∧ va_D (va_A (wd_Stacks_wrongPlace kA a0 a1 a2 a3 a4 a5 a6 a7 a8 a9 a10 v2_2 v2_3 v2_4 v2_5 v2_6 v4_0 v4_4 v9_1 f1 f3 x4_3 f5 f6 f7 f8 x9_2 f10) sz) (wd_Stacks_wrongPlace kA a0 a1 a2 a3 a4 a5 a6 a7 a8 a9 a10 v2_2 v2_3 v2_4 v2_5 v2_6 v4_0 v4_4 v9_1 of1 of3 x4_3 f5 f6 f7 f8 x9_2 f10)) (va_A (wd_Stacks_wrongPlace kA a0 a1 a2 a3 a4 a5 a6 a7 a8 a9 a10 v2_2 v2_3 v2_4 v2_5 v2_6 v4_0 v4_4 v9_1 f1 f3 x4_3 f5 f6 f7 f8 x9_2 f10) sz)) 0 0 (va_A (wd_Stacks_wrongPlace kA a0 a1 a2 a3 a4 a5 a6 a7 a8 a9 a10 v2_2 v2_3 v2_4 v2_5 v2_6 v4_0 v4_4 v9_1 f1 f3 x4_3 f5 f6 f7 f8 x9_2 f10) sz) := by
  refine Met.ofW (cc := b_Stacks_wrongPlace) (maxL := 3) (ret := some .int) (by decide) rfl ?_
  intro p e s m args below meth c s₁ B hml hv
  obtain ⟨rfl, hsz, hP, hK, hD0⟩ := hv
  have hx := B.exec
  have hb := B.bytes
  have hr := B.returns
  have hts := atoms_spec (ws := w_Stacks_wrongPlace) B.pre
  have hown : s.vm.findClass R_Stacks = some m.cls := findClass_of_methodNamed B.named
  have hg := fun (w : Cond) (h : w ∈ gw) => hts w (List.mem_cons_of_mem _ h)
  have hlocks := B.notSynchronized
  subst hsz
  have hD := hD0.self (sz := s.heap.size)
  generalize hAe : va_A (wd_Stacks_wrongPlace kA a0 a1 a2 a3 a4 a5 a6 a7 a8 a9 a10 v2_2 v2_3 v2_4 v2_5 v2_6 v4_0 v4_4 v9_1 f1 f3 x4_3 f5 f6 f7 f8 x9_2 f10) s.heap.size = A at hD ⊢
  have hA : ∀ q : Nat, s.heap.size ≤ q → A q := fun q h => by rw [← hAe]; exact Or.inr h
  have hS : va_S A s.heap s.heap [] := va_S.rf
  have hl := lv_entry ([.ref a0, .ref a9]) (n := 3) (Nat.le_of_ble_eq_true rfl)
  rw [lg_entry_eq]
  generalize (lg_sl ([.ref a0, .ref a9]) ++ List.replicate (3 - (lg_sl ([.ref a0, .ref a9])).length) Slot.unset).toArray = ls at hl ⊢
  have hl : lv_has ls 3 [(0, .ref a0), (1, .ref a9)] := hl
  unfold S_Stacks_wrongPlace at hF
  have ih := L_Stacks_wrongPlace (l := l) (e := e) (below := below) hx hb hr hlocks hml hown hts hA hK a0 a1 a2 a3 a4 a5 a6 a7 a8 a9 a10 v2_2 v2_3 v2_4 v2_5 v2_6 v4_0 v4_4 v9_1 x4_3 f5 f6 f7 f8 x9_2 f10 r of1 of3 fuel_
  refine lv_aload_n hx hb d_Stacks_wrongPlace_0 rfl (lv_at hl 0 rfl) ?_
  refine va_get (D := (dC, dI)) (ci := 5) (v := .ref a1) (C := R_Stacks) (T := F_Stacks) (N := 4) hx hb hg iw_Stacks hown hK hP 0 rfl rfl 2 (by decide) (hg _ gw_78) (fun _ h9 => h9) rfl d_Stacks_wrongPlace_1 ?_
  refine lv_iconst (v := 0) hx hb d_Stacks_wrongPlace_4 (by decide) ?_
  refine lv_iconst (v := 0) hx hb d_Stacks_wrongPlace_5 (by decide) ?_
  obtain ⟨h_14, hF⟩ := rd_chk hF
  refine va_iast hx hb hK hP hD hS 1 0 rfl rfl h_14 d_Stacks_wrongPlace_6 (fun H locs hP hD hS => ?_)
  have hP : va_P (dC, dI) classes (wd_Stacks_wrongPlace kA a0 a1 a2 a3 a4 a5 a6 a7 a8 a9 a10 v2_2 v2_3 v2_4 v2_5 v2_6 v4_0 v4_4 v9_1 (upd f1 (Int32.toNatClampNeg 0) 0) f3 x4_3 f5 f6 f7 f8 x9_2 f10) H := hP
  have hD : va_D A (wd_Stacks_wrongPlace kA a0 a1 a2 a3 a4 a5 a6 a7 a8 a9 a10 v2_2 v2_3 v2_4 v2_5 v2_6 v4_0 v4_4 v9_1 (upd f1 (Int32.toNatClampNeg 0) 0) f3 x4_3 f5 f6 f7 f8 x9_2 f10) := hD
  refine lv_aload_n hx hb d_Stacks_wrongPlace_7 rfl (lv_at hl 0 rfl) ?_
  refine va_get (D := (dC, dI)) (ci := 5) (v := .ref a3) (C := R_Stacks) (T := F_Stacks) (N := 4) hx hb hg iw_Stacks hown hK hP 0 rfl rfl 3 (by decide) (hg _ gw_77) (fun _ h9 => h9) rfl d_Stacks_wrongPlace_8 ?_
  refine lv_iconst (v := 0) hx hb d_Stacks_wrongPlace_11 (by decide) ?_
  refine lv_iconst (v := 1) hx hb d_Stacks_wrongPlace_12 (by decide) ?_
  obtain ⟨h_15, hF⟩ := rd_chk hF
  refine va_iast hx hb hK hP hD hS 3 0 rfl rfl h_15 d_Stacks_wrongPlace_13 (fun H locs hP hD hS => ?_)
  have hP : va_P (dC, dI) classes (wd_Stacks_wrongPlace kA a0 a1 a2 a3 a4 a5 a6 a7 a8 a9 a10 v2_2 v2_3 v2_4 v2_5 v2_6 v4_0 v4_4 v9_1 (upd f1 (Int32.toNatClampNeg 0) 0) (upd f3 (Int32.toNatClampNeg 0) 1) x4_3 f5 f6 f7 f8 x9_2 f10) H := hP
  have hD : va_D A (wd_Stacks_wrongPlace kA a0 a1 a2 a3 a4 a5 a6 a7 a8 a9 a10 v2_2 v2_3 v2_4 v2_5 v2_6 v4_0 v4_4 v9_1 (upd f1 (Int32.toNatClampNeg 0) 0) (upd f3 (Int32.toNatClampNeg 0) 1) x4_3 f5 f6 f7 f8 x9_2 f10) := hD
  refine lv_iconst (v := 0) hx hb d_Stacks_wrongPlace_14 (by decide) ?_
  refine lv_istore_n (lv' := [(2, .int 0), (0, .ref a0), (1, .ref a9)]) hx hb d_Stacks_wrongPlace_15 rfl hl (by decide) rfl (fun ls hl => ?_)
  exact ih 0 (upd f1 (Int32.toNatClampNeg 0) 0) (upd f3 (Int32.toNatClampNeg 0) 1) hF _ _ _ hP hD hS (lv_sub hl [1, 2, 0] rfl)
