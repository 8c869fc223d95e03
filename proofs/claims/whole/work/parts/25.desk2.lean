-- ===== RepairDesk.rule()I
abbrev wd_Desk_rule (kA : Nat → ClassId) (a0 a1 a2 a3 a4 a5 a6 a7 a8 : Nat) (v0_3 v0_4 v0_5 v0_7 v1_0 v1_1 v1_2 v2_3 v2_4 v2_5 v4_0 v4_1 v4_2 : Value) (x1_3 : Int32) (x1_4 : Int32) (x1_5 : Int32) (x2_6 : Int32) (x3_1 : Int32) (x4_3 : Int32) (x4_4 : Int32) (f5 : (Nat → Int32)) (f6 : (Nat → Int32)) (f7 : (Nat → Int32)) (f8 : (Nat → Int32)) : va_W := [(a0, .inr (8, [.ref a3, .ref a2, .ref a4, v0_3, v0_4, v0_5, .ref a1, v0_7])), (a1, .inr (1, [v1_0, v1_1, v1_2, .int x1_3, .int x1_4, .int x1_5])), (a2, .inr (2, [.ref a5, .ref a7, .ref a6, v2_3, v2_4, v2_5, .int x2_6])), (a3, .inr (3, [.ref a8, .int x3_1])), (a4, .inr (6, [v4_0, v4_1, v4_2, .int x4_3, .int x4_4])), (a5, .inl (kA 0, 12, .inl f5)), (a6, .inl (kA 0, 48, .inl f6)), (a7, .inl (kA 0, 12, .inl f7)), (a8, .inl (kA 2, 10, .inl f8))]
abbrev rm_Desk_rule : Room := { frames := 6, cells := 1, slots := 6, locals := 90 }
def S_Desk_rule (x1_3 : Int32) (x1_4 : Int32) (x1_5 : Int32) (x2_6 : Int32) (x3_1 : Int32) (x4_3 : Int32) (x4_4 : Int32) (f5 : (Nat → Int32)) (f6 : (Nat → Int32)) (f7 : (Nat → Int32)) (f8 : (Nat → Int32)) : Option (Int32 × Int32 × Int32 × Int32 × Int32 × Int32 × Int32 × Int32 × Int32 × (Nat → Int32) × (Nat → Int32) × (Nat → Int32)) := ((S_Grammar_readDraft f5 f6 f7 x3_1 f8).bind fun u_1 => ((S_Line_clear x3_1).bind fun u_2 => (if u_1.1 = 0 then (some (1, 0, x1_3, x1_4, x1_5, x2_6, u_2, x4_3, x4_4, u_1.2.1, u_1.2.2.1, u_1.2.2.2)) else ((S_Grammar_knowsDraft x2_6 u_1.2.1 u_1.2.2.1 u_1.2.2.2).bind fun u_4 => (if u_4 = 0 then ((S_Grammar_addDraft x2_6 u_1.2.1 u_1.2.2.1 u_1.2.2.2).bind fun u_6 => (if 0 ≤ u_6.1 then ((S_States_forget x4_3 x4_4).bind fun u_8 => ((S_Finds_forget x1_3 x1_4 x1_5).bind fun u_9 => (some (0, u_6.1, u_9.1, u_9.2.1, u_9.2.2, u_6.2.1, u_2, u_8.1, u_8.2, u_6.2.2.1, u_6.2.2.2.1, u_6.2.2.2.2)))) else (some (2, 0, x1_3, x1_4, x1_5, u_6.2.1, u_2, x4_3, x4_4, u_6.2.2.1, u_6.2.2.2.1, u_6.2.2.2.2)))) else (some (1, 0, x1_3, x1_4, x1_5, x2_6, u_2, x4_3, x4_4, u_1.2.1, u_1.2.2.1, u_1.2.2.2)))))))
set_option maxHeartbeats 4000000 in
set_option maxRecDepth 100000 in
theorem c_Desk_rule (l : Launch) (hlt : l.stackTraces = false) (dC : Nat → ClassId) (dI : Nat → Nat → Nat) (kA : Nat → ClassId) (sa : Nat → Nat) (sz : Nat) (a0 a1 a2 a3 a4 a5 a6 a7 a8 : Nat) (v0_3 v0_4 v0_5 v0_7 v1_0 v1_1 v1_2 v2_3 v2_4 v2_5 v4_0 v4_1 v4_2 : Value) (x1_3 : Int32) (x1_4 : Int32) (x1_5 : Int32) (x2_6 : Int32) (x3_1 : Int32) (x4_3 : Int32) (x4_4 : Int32) (f5 : (Nat → Int32)) (f6 : (Nat → Int32)) (f7 : (Nat → Int32)) (f8 : (Nat → Int32)) (k r : Int32) (ox1_3 : Int32) (ox1_4 : Int32) (ox1_5 : Int32) (ox2_6 : Int32) (ox3_1 : Int32) (ox4_3 : Int32) (ox4_4 : Int32) (of5 : (Nat → Int32)) (of6 : (Nat → Int32)) (of7 : (Nat → Int32)) (hF : S_Desk_rule x1_3 x1_4 x1_5 x2_6 x3_1 x4_3 x4_4 f5 f6 f7 f8 = some (k, r, ox1_3, ox1_4, ox1_5, ox2_6, ox3_1, ox4_3, ox4_4, of5, of6, of7)) : rd_Met l y_Desk_rule w_Desk_rule rm_Desk_rule (va_Pc [.ref a0] (fun U => U.heap.size = sz ∧ va_P (dC, dI) classes (wd_Desk_rule kA a0 a1 a2 a3 a4 a5 a6 a7 a8 v0_3 v0_4 v0_5 v0_7 v1_0 v1_1 v1_2 v2_3 v2_4 v2_5 v4_0 v4_1 v4_2 x1_3 x1_4 x1_5 x2_6 x3_1 x4_3 x4_4 f5 f6 f7 f8) U.heap ∧ va_K (dC, dI) classes (tys_ kA) U ∧ va_D (fun _ => True) (wd_Desk_rule kA a0 a1 a2 a3 a4 a5 a6 a7 a8 v0_3 v0_4 v0_5 v0_7 v1_0 v1_1 v1_2 v2_3 v2_4 v2_5 v4_0 v4_1 v4_2 x1_3 x1_4 x1_5 x2_6 x3_1 x4_3 x4_4 f5 f6 f7 f8) ∧ rd_X sa U ∧ rd_St (va_A (wd_Desk_rule kA a0 a1 a2 a3 a4 a5 a6 a7 a8 v0_3 v0_4 v0_5 v0_7 v1_0 v1_1 v1_2 v2_3 v2_4 v2_5 v4_0 v4_1 v4_2 x1_3 x1_4 x1_5 x2_6 x3_1 x4_3 x4_4 f5 f6 f7 f8) sz) U U.heap)) (fun st v t => k = 0 ∧ v = some (.int r) ∧ (va_P (dC, dI) classes (wd_Desk_rule kA a0 a1 a2 a3 a4 a5 a6 a7 a8 v0_3 v0_4 v0_5 v0_7 v1_0 v1_1 v1_2 v2_3 v2_4 v2_5 v4_0 v4_1 v4_2 ox1_3 ox1_4 ox1_5 ox2_6 ox3_1 ox4_3 ox4_4 of5 of6 of7 f8) t.heap ∧ va_K (dC, dI) classes (tys_ kA) t ∧ va_D (va_A (wd_Desk_rule kA a0 a1 a2 a3 a4 a5 a6 a7 a8 v0_3 v0_4 v0_5 v0_7 v1_0 v1_1 v1_2 v2_3 v2_4 v2_5 v4_0 v4_1 v4_2 x1_3 x1_4 x1_5 x2_6 x3_1 x4_3 x4_4 f5 f6 f7 f8) sz) (wd_Desk_rule kA a0 a1 a2 a3 a4 a5 a6 a7 a8 v0_3 v0_4 v0_5 v0_7 v1_0 v1_1 v1_2 v2_3 v2_4 v2_5 v4_0 v4_1 v4_2 ox1_3 ox1_4 ox1_5 ox2_6 ox3_1 ox4_3 ox4_4 of5 of6 of7 f8)) ∧ va_F (va_A (wd_Desk_rule kA a0 a1 a2 a3 a4 a5 a6 a7 a8 v0_3 v0_4 v0_5 v0_7 v1_0 v1_1 v1_2 v2_3 v2_4 v2_5 v4_0 v4_1 v4_2 x1_3 x1_4 x1_5 x2_6 x3_1 x4_3 x4_4 f5 f6 f7 f8) sz) st t) (fun st E t => (k, E) ∈ xk_ ∧ (va_P (dC, dI) classes (wd_Desk_rule kA a0 a1 a2 a3 a4 a5 a6 a7 a8 v0_3 v0_4 v0_5 v0_7 v1_0 v1_1 v1_2 v2_3 v2_4 v2_5 v4_0 v4_1 v4_2 ox1_3 ox1_4 ox1_5 ox2_6 ox3_1 ox4_3 ox4_4 of5 of6 of7 f8) t.heap ∧ va_K (dC, dI) classes (tys_ kA) t ∧ va_D (va_A (wd_Desk_rule kA a0 a1 a2 a3 a4 a5 a6 a7 a8 v0_3 v0_4 v0_5 v0_7 v1_0 v1_1 v1_2 v2_3 v2_4 v2_5 v4_0 v4_1 v4_2 x1_3 x1_4 x1_5 x2_6 x3_1 x4_3 x4_4 f5 f6 f7 f8) sz) (wd_Desk_rule kA a0 a1 a2 a3 a4 a5 a6 a7 a8 v0_3 v0_4 v0_5 v0_7 v1_0 v1_1 v1_2 v2_3 v2_4 v2_5 v4_0 v4_1 v4_2 ox1_3 ox1_4 ox1_5 ox2_6 ox3_1 ox4_3 ox4_4 of5 of6 of7 f8)) ∧ va_F (va_A (wd_Desk_rule kA a0 a1 a2 a3 a4 a5 a6 a7 a8 v0_3 v0_4 v0_5 v0_7 v1_0 v1_1 v1_2 v2_3 v2_4 v2_5 v4_0 v4_1 v4_2 x1_3 x1_4 x1_5 x2_6 x3_1 x4_3 x4_4 f5 f6 f7 f8) sz) st t) 1 6 (va_A (wd_Desk_rule kA a0 a1 a2 a3 a4 a5 a6 a7 a8 v0_3 v0_4 v0_5 v0_7 v1_0 v1_1 v1_2 v2_3 v2_4 v2_5 v4_0 v4_1 v4_2 x1_3 x1_4 x1_5 x2_6 x3_1 x4_3 x4_4 f5 f6 f7 f8) sz) := by
  refine rd_ofW (cc := b_Desk_rule) (maxL := 3) (ret := some .int) (by decide) rfl ?_
  intro p e s m args below meth c s₁ B hml hv
  obtain ⟨rfl, hsz, hP, hK, hD0, hX, hSt⟩ := hv
  have hx := B.exec
  have hb := B.bytes
  have hr := B.returns
  have hts := atoms_spec (ws := w_Desk_rule) B.pre
  have hown : s.vm.findClass R_Desk = some m.cls := findClass_of_methodNamed B.named
  have hg := fun (w : Cond) (h : w ∈ gw) => hts w (List.mem_cons_of_mem _ h)
  have hno : ∀ {pc : Nat}, ∀ x ∈ c.exceptionTable.toList, covers x pc = false := rd_noex (B.noHandlers (hts _ List.mem_cons_self))
  have hlocks := B.notSynchronized
  subst hsz
  have hD := hD0.self (sz := s.heap.size)
  generalize hAe : va_A (wd_Desk_rule kA a0 a1 a2 a3 a4 a5 a6 a7 a8 v0_3 v0_4 v0_5 v0_7 v1_0 v1_1 v1_2 v2_3 v2_4 v2_5 v4_0 v4_1 v4_2 x1_3 x1_4 x1_5 x2_6 x3_1 x4_3 x4_4 f5 f6 f7 f8) s.heap.size = A at hD hSt ⊢
  have hA : ∀ q : Nat, s.heap.size ≤ q → A q := fun q h => by rw [← hAe]; exact Or.inr h
  have hS : va_S A s.heap s.heap [] := va_S.rf
  have hl := lv_entry ([.ref a0]) (n := 3) (Nat.le_of_ble_eq_true rfl)
  rw [lg_entry_eq]
  generalize (lg_sl ([.ref a0]) ++ List.replicate (3 - (lg_sl ([.ref a0])).length) Slot.unset).toArray = ls at hl ⊢
  have hl : lv_has ls 3 [(0, .ref a0)] := hl
  unfold S_Desk_rule at hF
  refine lv_aload_n hx hb d_Desk_rule_0 rfl (lv_at hl 0 rfl) ?_
  refine va_get (D := (dC, dI)) (ci := 8) (v := .ref a2) (C := R_Desk) (T := F_Desk) (N := 8) hx hb hg iw_Desk hown hK hP 0 rfl rfl 1 (by decide) (hg _ gw_382) (fun _ h9 => h9) rfl d_Desk_rule_1 ?_
  refine lv_aload_n hx hb d_Desk_rule_4 rfl (lv_at hl 0 rfl) ?_
  refine va_get (D := (dC, dI)) (ci := 8) (v := .ref a3) (C := R_Desk) (T := F_Desk) (N := 8) hx hb hg iw_Desk hown hK hP 0 rfl rfl 0 (by decide) (hg _ gw_377) (fun _ h9 => h9) rfl d_Desk_rule_5 ?_
  obtain ⟨u_1, hS_1, hF⟩ := rd_bind hF
  have hPc := hP.sub (ws' := (wd_Grammar_readDraft kA a2 a5 a6 a7 a3 a8 v2_3 v2_4 v2_5 (.int x2_6) f5 f6 f7 x3_1 f8)) [2, 5, 6, 7, 3, 8] rfl
  have hDc := hD.sub (ws' := (wd_Grammar_readDraft kA a2 a5 a6 a7 a3 a8 v2_3 v2_4 v2_5 (.int x2_6) f5 f6 f7 x3_1 f8)) [2, 5, 6, 7, 3, 8] (by decide) rfl
  have hFc := va_free (wc := (wd_Grammar_readDraft kA a2 a5 a6 a7 a3 a8 v2_3 v2_4 v2_5 (.int x2_6) f5 f6 f7 x3_1 f8)) hD hS hA [2, 5, 6, 7, 3, 8] rfl
  refine va_calli (va_runV (As := [.ref a3]) (rest := []) ⟨hx, hb, hml, hown, hts⟩ (c_Grammar_readDraft l dC dI kA s.heap.size a2 a5 a6 a7 a3 a8 v2_3 v2_4 v2_5 (.int x2_6) f5 f6 f7 x3_1 f8 u_1.1 u_1.2.1 u_1.2.2.1 u_1.2.2.2 hS_1) (cwV 1 hts (gw_V gw_533 gw_534 gw_535 gw_42 gw_536) rfl rfl rfl (by decide +kernel) ⟨Nat.le_of_ble_eq_true rfl, Nat.le_of_ble_eq_true rfl⟩) ⟨fun a U g mk q => by obtain ⟨q0, q1, qP, qK, qD⟩ := q; exact ⟨q0, q1, qP, va_K.moved (u := U) (U := U.calling g mk a) (Vm.Alike.refl U.vm) qK, qD⟩, va_recv hK hP (ci := 2) (q0 := 2) rfl rfl, fun U hU hW => ⟨rfl, by rw [hU], by rw [hU]; exact hPc, va_K.moved hW.alike hK, hDc.weaken (fun _ _ _ _ => trivial)⟩⟩ rfl rfl hl.1 rfl (lv_room (Nat.le_of_ble_eq_true rfl)) d_Desk_rule_8 ⟨Nat.zero_le _, Nat.zero_le _⟩) hS (fun q _ h => hFc q h) hFc (fun r1 u t H1 locs ht hvm hw hB hz1 hk1 hS => ?_)
  rw [show r1 = _ from hw]
  obtain ⟨hP1, hK1, hD1⟩ := hB
  rw [ht] at hP1
  obtain ⟨hP, hD⟩ := va_join (wr := [(a0, .inr (8, [.ref a3, .ref a2, .ref a4, v0_3, v0_4, v0_5, .ref a1, v0_7])), (a1, .inr (1, [v1_0, v1_1, v1_2, .int x1_3, .int x1_4, .int x1_5])), (a4, .inr (6, [v4_0, v4_1, v4_2, .int x4_3, .int x4_4]))]) (w1 := (wd_Grammar_readDraft kA a2 a5 a6 a7 a3 a8 v2_3 v2_4 v2_5 (.int x2_6) u_1.2.1 u_1.2.2.1 u_1.2.2.2 x3_1 f8)) hP hD [2, 5, 6, 7, 3, 8] [0, 1, 4] rfl rfl (by decide) (by decide) hk1 hFc hP1 hD1
  have hP := hP.sub (ws' := (wd_Desk_rule kA a0 a1 a2 a3 a4 a5 a6 a7 a8 v0_3 v0_4 v0_5 v0_7 v1_0 v1_1 v1_2 v2_3 v2_4 v2_5 v4_0 v4_1 v4_2 x1_3 x1_4 x1_5 x2_6 x3_1 x4_3 x4_4 u_1.2.1 u_1.2.2.1 u_1.2.2.2 f8)) [0, 1, 3, 7, 2, 4, 5, 6, 8] rfl
  have hD := hD.sub (ws' := (wd_Desk_rule kA a0 a1 a2 a3 a4 a5 a6 a7 a8 v0_3 v0_4 v0_5 v0_7 v1_0 v1_1 v1_2 v2_3 v2_4 v2_5 v4_0 v4_1 v4_2 x1_3 x1_4 x1_5 x2_6 x3_1 x4_3 x4_4 u_1.2.1 u_1.2.2.1 u_1.2.2.2 f8)) [0, 1, 3, 7, 2, 4, 5, 6, 8] (by decide) rfl
  clear hPc hDc hFc hP1 hK1 hD1
  generalize H1 = H at hP hS ⊢
  refine lv_istore_n (lv' := [(1, .int u_1.1), (0, .ref a0)]) hx hb d_Desk_rule_11 rfl hl (by decide) rfl (fun ls hl => ?_)
  refine lv_aload_n hx hb d_Desk_rule_12 rfl (lv_at hl 1 rfl) ?_
  refine va_get (D := (dC, dI)) (ci := 8) (v := .ref a3) (C := R_Desk) (T := F_Desk) (N := 8) hx hb hg iw_Desk hown hK hP 0 rfl rfl 0 (by decide) (hg _ gw_377) (fun _ h9 => h9) rfl d_Desk_rule_13 ?_
  obtain ⟨u_2, hS_2, hF⟩ := rd_bind hF
  have hPc := hP.sub (ws' := (wd_Line_clear kA a3 (.ref a8) x3_1)) [3] rfl
  have hDc := hD.sub (ws' := (wd_Line_clear kA a3 (.ref a8) x3_1)) [3] (by decide) rfl
  have hFc := va_free (wc := (wd_Line_clear kA a3 (.ref a8) x3_1)) hD hS hA [3] rfl
  refine va_callv (va_runV (As := []) (rest := []) ⟨hx, hb, hml, hown, hts⟩ (c_Line_clear l dC dI kA H.size a3 (.ref a8) x3_1 u_2 hS_2) (cwV 0 hts (gw_V gw_537 gw_538 gw_539 gw_28 gw_540) rfl rfl rfl (by decide +kernel) ⟨Nat.le_of_ble_eq_true rfl, Nat.le_of_ble_eq_true rfl⟩) ⟨fun a U g mk q => by obtain ⟨q0, q1, qP, qK, qD⟩ := q; exact ⟨q0, q1, qP, va_K.moved (u := U) (U := U.calling g mk a) (Vm.Alike.refl U.vm) qK, qD⟩, va_recv hK hP (ci := 3) (q0 := 3) rfl rfl, fun U hU hW => ⟨rfl, by rw [hU], by rw [hU]; exact hPc, va_K.moved hW.alike hK, hDc.weaken (fun _ _ _ _ => trivial)⟩⟩ rfl rfl hl.1 rfl (lv_room (Nat.le_of_ble_eq_true rfl)) d_Desk_rule_16 ⟨Nat.zero_le _, Nat.zero_le _⟩) hS (fun q _ h => hFc q h) hFc (fun u t H1 locs ht hvm hw hB hz1 hk1 hS => ?_)
  obtain ⟨hP1, hK1, hD1⟩ := hB
  rw [ht] at hP1
  obtain ⟨hP, hD⟩ := va_join (wr := [(a0, .inr (8, [.ref a3, .ref a2, .ref a4, v0_3, v0_4, v0_5, .ref a1, v0_7])), (a1, .inr (1, [v1_0, v1_1, v1_2, .int x1_3, .int x1_4, .int x1_5])), (a2, .inr (2, [.ref a5, .ref a7, .ref a6, v2_3, v2_4, v2_5, .int x2_6])), (a4, .inr (6, [v4_0, v4_1, v4_2, .int x4_3, .int x4_4])), (a5, .inl (kA 0, 12, .inl u_1.2.1)), (a6, .inl (kA 0, 48, .inl u_1.2.2.1)), (a7, .inl (kA 0, 12, .inl u_1.2.2.2)), (a8, .inl (kA 2, 10, .inl f8))]) (w1 := (wd_Line_clear kA a3 (.ref a8) u_2)) hP hD [3] [0, 1, 2, 4, 5, 6, 7, 8] rfl rfl (by decide) (by decide) hk1 hFc hP1 hD1
  have hP := hP.sub (ws' := (wd_Desk_rule kA a0 a1 a2 a3 a4 a5 a6 a7 a8 v0_3 v0_4 v0_5 v0_7 v1_0 v1_1 v1_2 v2_3 v2_4 v2_5 v4_0 v4_1 v4_2 x1_3 x1_4 x1_5 x2_6 u_2 x4_3 x4_4 u_1.2.1 u_1.2.2.1 u_1.2.2.2 f8)) [0, 1, 2, 8, 3, 4, 5, 6, 7] rfl
  have hD := hD.sub (ws' := (wd_Desk_rule kA a0 a1 a2 a3 a4 a5 a6 a7 a8 v0_3 v0_4 v0_5 v0_7 v1_0 v1_1 v1_2 v2_3 v2_4 v2_5 v4_0 v4_1 v4_2 x1_3 x1_4 x1_5 x2_6 u_2 x4_3 x4_4 u_1.2.1 u_1.2.2.1 u_1.2.2.2 f8)) [0, 1, 2, 8, 3, 4, 5, 6, 7] (by decide) rfl
  clear hPc hDc hFc hP1 hK1 hD1
  generalize H1 = H at hP hS ⊢
  refine lv_iload_n hx hb d_Desk_rule_19 rfl (lv_at hl 0 rfl) ?_
  refine lv_if_eq (tgt := 33) hx hb d_Desk_rule_20 (by decide) (fun c_3 => ?_) (fun c_3 => ?_)
  · rw [if_pos c_3] at hF
    have e0 := Option.some.inj hF
    have q0 := Prod.mk.inj e0
    have q1 := Prod.mk.inj q0.2
    have q2 := Prod.mk.inj q1.2
    have q3 := Prod.mk.inj q2.2
    have q4 := Prod.mk.inj q3.2
    have q5 := Prod.mk.inj q4.2
    have q6 := Prod.mk.inj q5.2
    have q7 := Prod.mk.inj q6.2
    have q8 := Prod.mk.inj q7.2
    have q9 := Prod.mk.inj q8.2
    have q10 := Prod.mk.inj q9.2
    refine rd_throw (own := R_Desk) (cls := xI) (text := "the line is no new rule") (Y0 := xrt_) (names := xnm_) (ix := 7) (bx := rd_bx 7) (ik := 84) (is := 86) (ic := 88) (sa := sa 86) (rest := []) hx hb hlt rd_ok7 hown (by decide +kernel) (by decide +kernel) (by decide +kernel) (rd_site hg hX hSt hS gw_545 gw_421 (by decide +kernel) (by simp [xs_])) (hl.1.trans hml.symm) d_Desk_rule_33 d_Desk_rule_36 d_Desk_rule_37 d_Desk_rule_39 d_Desk_rule_42 hno (Nat.le_of_ble_eq_true rfl) (Nat.le_of_ble_eq_true rfl) (Nat.le_of_ble_eq_true rfl) (Nat.le_of_ble_eq_true rfl) hlocks (fun t ht hz hq => ?_) hS.2.2 (Nat.le_refl _) (Nat.le_refl _)
    have hT := rd_thrown hP hD hK hS ht hz hq
    exact ⟨by rw [← q0.1]; decide +kernel, by rw [← q2.1, ← q3.1, ← q4.1, ← q5.1, ← q6.1, ← q7.1, ← q8.1, ← q9.1, ← q10.1, ← q10.2]; exact hT⟩
  · rw [if_neg c_3] at hF
    refine lv_aload_n hx hb d_Desk_rule_23 rfl (lv_at hl 1 rfl) ?_
    refine va_get (D := (dC, dI)) (ci := 8) (v := .ref a2) (C := R_Desk) (T := F_Desk) (N := 8) hx hb hg iw_Desk hown hK hP 0 rfl rfl 1 (by decide) (hg _ gw_382) (fun _ h9 => h9) rfl d_Desk_rule_24 ?_
    obtain ⟨u_4, hS_4, hF⟩ := rd_bind hF
    have hPc := hP.sub (ws' := (wd_Grammar_knowsDraft kA a2 a5 a6 a7 v2_3 v2_4 v2_5 x2_6 u_1.2.1 u_1.2.2.1 u_1.2.2.2)) [2, 5, 6, 7] rfl
    have hDc := hD.sub (ws' := (wd_Grammar_knowsDraft kA a2 a5 a6 a7 v2_3 v2_4 v2_5 x2_6 u_1.2.1 u_1.2.2.1 u_1.2.2.2)) [2, 5, 6, 7] (by decide) rfl
    have hFc := va_free (wc := (wd_Grammar_knowsDraft kA a2 a5 a6 a7 v2_3 v2_4 v2_5 x2_6 u_1.2.1 u_1.2.2.1 u_1.2.2.2)) hD hS hA [2, 5, 6, 7] rfl
    refine va_calli (va_runV (As := []) (rest := []) ⟨hx, hb, hml, hown, hts⟩ (c_Grammar_knowsDraft l dC dI kA H.size a2 a5 a6 a7 v2_3 v2_4 v2_5 x2_6 u_1.2.1 u_1.2.2.1 u_1.2.2.2 u_4 hS_4) (cwV 0 hts (gw_V gw_541 gw_542 gw_543 gw_42 gw_544) rfl rfl rfl (by decide +kernel) ⟨Nat.le_of_ble_eq_true rfl, Nat.le_of_ble_eq_true rfl⟩) ⟨fun a U g mk q => by obtain ⟨q0, q1, qP, qK, qD⟩ := q; exact ⟨q0, q1, qP, va_K.moved (u := U) (U := U.calling g mk a) (Vm.Alike.refl U.vm) qK, qD⟩, va_recv hK hP (ci := 2) (q0 := 2) rfl rfl, fun U hU hW => ⟨rfl, by rw [hU], by rw [hU]; exact hPc, va_K.moved hW.alike hK, hDc.weaken (fun _ _ _ _ => trivial)⟩⟩ rfl rfl hl.1 rfl (lv_room (Nat.le_of_ble_eq_true rfl)) d_Desk_rule_27 ⟨Nat.zero_le _, Nat.zero_le _⟩) hS (fun q _ h => hFc q h) hFc (fun r1 u t H1 locs ht hvm hw hB hz1 hk1 hS => ?_)
    rw [show r1 = _ from hw]
    obtain ⟨hP1, hK1, hD1⟩ := hB
    rw [ht] at hP1
    obtain ⟨hP, hD⟩ := va_join (wr := [(a0, .inr (8, [.ref a3, .ref a2, .ref a4, v0_3, v0_4, v0_5, .ref a1, v0_7])), (a1, .inr (1, [v1_0, v1_1, v1_2, .int x1_3, .int x1_4, .int x1_5])), (a3, .inr (3, [.ref a8, .int u_2])), (a4, .inr (6, [v4_0, v4_1, v4_2, .int x4_3, .int x4_4])), (a8, .inl (kA 2, 10, .inl f8))]) (w1 := (wd_Grammar_knowsDraft kA a2 a5 a6 a7 v2_3 v2_4 v2_5 x2_6 u_1.2.1 u_1.2.2.1 u_1.2.2.2)) hP hD [2, 5, 6, 7] [0, 1, 3, 4, 8] rfl rfl (by decide) (by decide) hk1 hFc hP1 hD1
    have hP := hP.sub (ws' := (wd_Desk_rule kA a0 a1 a2 a3 a4 a5 a6 a7 a8 v0_3 v0_4 v0_5 v0_7 v1_0 v1_1 v1_2 v2_3 v2_4 v2_5 v4_0 v4_1 v4_2 x1_3 x1_4 x1_5 x2_6 u_2 x4_3 x4_4 u_1.2.1 u_1.2.2.1 u_1.2.2.2 f8)) [0, 1, 5, 2, 3, 6, 7, 8, 4] rfl
    have hD := hD.sub (ws' := (wd_Desk_rule kA a0 a1 a2 a3 a4 a5 a6 a7 a8 v0_3 v0_4 v0_5 v0_7 v1_0 v1_1 v1_2 v2_3 v2_4 v2_5 v4_0 v4_1 v4_2 x1_3 x1_4 x1_5 x2_6 u_2 x4_3 x4_4 u_1.2.1 u_1.2.2.1 u_1.2.2.2 f8)) [0, 1, 5, 2, 3, 6, 7, 8, 4] (by decide) rfl
    clear hPc hDc hFc hP1 hK1 hD1
    generalize H1 = H at hP hS ⊢
    refine lv_if_eq (tgt := 43) hx hb d_Desk_rule_30 (by decide) (fun c_5 => ?_) (fun c_5 => ?_)
    · rw [if_pos c_5] at hF
      refine lv_aload_n hx hb d_Desk_rule_43 rfl (lv_at hl 1 rfl) ?_
      refine va_get (D := (dC, dI)) (ci := 8) (v := .ref a2) (C := R_Desk) (T := F_Desk) (N := 8) hx hb hg iw_Desk hown hK hP 0 rfl rfl 1 (by decide) (hg _ gw_382) (fun _ h9 => h9) rfl d_Desk_rule_44 ?_
      obtain ⟨u_6, hS_6, hF⟩ := rd_bind hF
      have hPc := hP.sub (ws' := (wd_Grammar_addDraft kA a2 a5 a6 a7 v2_3 v2_4 v2_5 x2_6 u_1.2.1 u_1.2.2.1 u_1.2.2.2)) [2, 5, 6, 7] rfl
      have hDc := hD.sub (ws' := (wd_Grammar_addDraft kA a2 a5 a6 a7 v2_3 v2_4 v2_5 x2_6 u_1.2.1 u_1.2.2.1 u_1.2.2.2)) [2, 5, 6, 7] (by decide) rfl
      have hFc := va_free (wc := (wd_Grammar_addDraft kA a2 a5 a6 a7 v2_3 v2_4 v2_5 x2_6 u_1.2.1 u_1.2.2.1 u_1.2.2.2)) hD hS hA [2, 5, 6, 7] rfl
      refine va_calli (va_runV (As := []) (rest := []) ⟨hx, hb, hml, hown, hts⟩ (c_Grammar_addDraft l dC dI kA H.size a2 a5 a6 a7 v2_3 v2_4 v2_5 x2_6 u_1.2.1 u_1.2.2.1 u_1.2.2.2 u_6.1 u_6.2.1 u_6.2.2.1 u_6.2.2.2.1 u_6.2.2.2.2 hS_6) (cwV 0 hts (gw_V gw_547 gw_548 gw_549 gw_42 gw_550) rfl rfl rfl (by decide +kernel) ⟨Nat.le_of_ble_eq_true rfl, Nat.le_of_ble_eq_true rfl⟩) ⟨fun a U g mk q => by obtain ⟨q0, q1, qP, qK, qD⟩ := q; exact ⟨q0, q1, qP, va_K.moved (u := U) (U := U.calling g mk a) (Vm.Alike.refl U.vm) qK, qD⟩, va_recv hK hP (ci := 2) (q0 := 2) rfl rfl, fun U hU hW => ⟨rfl, by rw [hU], by rw [hU]; exact hPc, va_K.moved hW.alike hK, hDc.weaken (fun _ _ _ _ => trivial)⟩⟩ rfl rfl hl.1 rfl (lv_room (Nat.le_of_ble_eq_true rfl)) d_Desk_rule_47 ⟨Nat.zero_le _, Nat.zero_le _⟩) hS (fun q _ h => hFc q h) hFc (fun r1 u t H1 locs ht hvm hw hB hz1 hk1 hS => ?_)
      rw [show r1 = _ from hw]
      obtain ⟨hP1, hK1, hD1⟩ := hB
      rw [ht] at hP1
      obtain ⟨hP, hD⟩ := va_join (wr := [(a0, .inr (8, [.ref a3, .ref a2, .ref a4, v0_3, v0_4, v0_5, .ref a1, v0_7])), (a1, .inr (1, [v1_0, v1_1, v1_2, .int x1_3, .int x1_4, .int x1_5])), (a3, .inr (3, [.ref a8, .int u_2])), (a4, .inr (6, [v4_0, v4_1, v4_2, .int x4_3, .int x4_4])), (a8, .inl (kA 2, 10, .inl f8))]) (w1 := (wd_Grammar_addDraft kA a2 a5 a6 a7 v2_3 v2_4 v2_5 u_6.2.1 u_6.2.2.1 u_6.2.2.2.1 u_6.2.2.2.2)) hP hD [2, 5, 6, 7] [0, 1, 3, 4, 8] rfl rfl (by decide) (by decide) hk1 hFc hP1 hD1
      have hP := hP.sub (ws' := (wd_Desk_rule kA a0 a1 a2 a3 a4 a5 a6 a7 a8 v0_3 v0_4 v0_5 v0_7 v1_0 v1_1 v1_2 v2_3 v2_4 v2_5 v4_0 v4_1 v4_2 x1_3 x1_4 x1_5 u_6.2.1 u_2 x4_3 x4_4 u_6.2.2.1 u_6.2.2.2.1 u_6.2.2.2.2 f8)) [0, 1, 5, 2, 3, 6, 7, 8, 4] rfl
      have hD := hD.sub (ws' := (wd_Desk_rule kA a0 a1 a2 a3 a4 a5 a6 a7 a8 v0_3 v0_4 v0_5 v0_7 v1_0 v1_1 v1_2 v2_3 v2_4 v2_5 v4_0 v4_1 v4_2 x1_3 x1_4 x1_5 u_6.2.1 u_2 x4_3 x4_4 u_6.2.2.1 u_6.2.2.2.1 u_6.2.2.2.2 f8)) [0, 1, 5, 2, 3, 6, 7, 8, 4] (by decide) rfl
      clear hPc hDc hFc hP1 hK1 hD1
      generalize H1 = H at hP hS ⊢
      refine lv_istore_n (lv' := [(2, .int u_6.1), (1, .int u_1.1), (0, .ref a0)]) hx hb d_Desk_rule_50 rfl hl (by decide) rfl (fun ls hl => ?_)
      refine lv_iload_n hx hb d_Desk_rule_51 rfl (lv_at hl 0 rfl) ?_
      refine lv_if_ge (tgt := 65) hx hb d_Desk_rule_52 (by decide) (fun c_7 => ?_) (fun c_7 => ?_)
      · rw [if_pos c_7] at hF
        refine lv_aload_n hx hb d_Desk_rule_65 rfl (lv_at hl 2 rfl) ?_
        refine va_get (D := (dC, dI)) (ci := 8) (v := .ref a4) (C := R_Desk) (T := F_Desk) (N := 8) hx hb hg iw_Desk hown hK hP 0 rfl rfl 2 (by decide) (hg _ gw_387) (fun _ h9 => h9) rfl d_Desk_rule_66 ?_
        obtain ⟨u_8, hS_8, hF⟩ := rd_bind hF
        have hPc := hP.sub (ws' := (wd_States_forget kA a4 v4_0 v4_1 v4_2 x4_3 x4_4)) [4] rfl
        have hDc := hD.sub (ws' := (wd_States_forget kA a4 v4_0 v4_1 v4_2 x4_3 x4_4)) [4] (by decide) rfl
        have hFc := va_free (wc := (wd_States_forget kA a4 v4_0 v4_1 v4_2 x4_3 x4_4)) hD hS hA [4] rfl
        refine va_callv (va_runV (As := []) (rest := []) ⟨hx, hb, hml, hown, hts⟩ (c_States_forget l dC dI kA H.size a4 v4_0 v4_1 v4_2 x4_3 x4_4 u_8.1 u_8.2 hS_8) (cwV 0 hts (gw_V gw_552 gw_232 gw_233 gw_91 gw_234) rfl rfl rfl (by decide +kernel) ⟨Nat.le_of_ble_eq_true rfl, Nat.le_of_ble_eq_true rfl⟩) ⟨fun a U g mk q => by obtain ⟨q0, q1, qP, qK, qD⟩ := q; exact ⟨q0, q1, qP, va_K.moved (u := U) (U := U.calling g mk a) (Vm.Alike.refl U.vm) qK, qD⟩, va_recv hK hP (ci := 6) (q0 := 4) rfl rfl, fun U hU hW => ⟨rfl, by rw [hU], by rw [hU]; exact hPc, va_K.moved hW.alike hK, hDc.weaken (fun _ _ _ _ => trivial)⟩⟩ rfl rfl hl.1 rfl (lv_room (Nat.le_of_ble_eq_true rfl)) d_Desk_rule_69 ⟨Nat.zero_le _, Nat.zero_le _⟩) hS (fun q _ h => hFc q h) hFc (fun u t H1 locs ht hvm hw hB hz1 hk1 hS => ?_)
        obtain ⟨hP1, hK1, hD1⟩ := hB
        rw [ht] at hP1
        obtain ⟨hP, hD⟩ := va_join (wr := [(a0, .inr (8, [.ref a3, .ref a2, .ref a4, v0_3, v0_4, v0_5, .ref a1, v0_7])), (a1, .inr (1, [v1_0, v1_1, v1_2, .int x1_3, .int x1_4, .int x1_5])), (a2, .inr (2, [.ref a5, .ref a7, .ref a6, v2_3, v2_4, v2_5, .int u_6.2.1])), (a3, .inr (3, [.ref a8, .int u_2])), (a5, .inl (kA 0, 12, .inl u_6.2.2.1)), (a6, .inl (kA 0, 48, .inl u_6.2.2.2.1)), (a7, .inl (kA 0, 12, .inl u_6.2.2.2.2)), (a8, .inl (kA 2, 10, .inl f8))]) (w1 := (wd_States_forget kA a4 v4_0 v4_1 v4_2 u_8.1 u_8.2)) hP hD [4] [0, 1, 2, 3, 5, 6, 7, 8] rfl rfl (by decide) (by decide) hk1 hFc hP1 hD1
        have hP := hP.sub (ws' := (wd_Desk_rule kA a0 a1 a2 a3 a4 a5 a6 a7 a8 v0_3 v0_4 v0_5 v0_7 v1_0 v1_1 v1_2 v2_3 v2_4 v2_5 v4_0 v4_1 v4_2 x1_3 x1_4 x1_5 u_6.2.1 u_2 u_8.1 u_8.2 u_6.2.2.1 u_6.2.2.2.1 u_6.2.2.2.2 f8)) [0, 1, 2, 3, 8, 4, 5, 6, 7] rfl
        have hD := hD.sub (ws' := (wd_Desk_rule kA a0 a1 a2 a3 a4 a5 a6 a7 a8 v0_3 v0_4 v0_5 v0_7 v1_0 v1_1 v1_2 v2_3 v2_4 v2_5 v4_0 v4_1 v4_2 x1_3 x1_4 x1_5 u_6.2.1 u_2 u_8.1 u_8.2 u_6.2.2.1 u_6.2.2.2.1 u_6.2.2.2.2 f8)) [0, 1, 2, 3, 8, 4, 5, 6, 7] (by decide) rfl
        clear hPc hDc hFc hP1 hK1 hD1
        generalize H1 = H at hP hS ⊢
        refine lv_aload_n hx hb d_Desk_rule_72 rfl (lv_at hl 2 rfl) ?_
        refine va_get (D := (dC, dI)) (ci := 8) (v := .ref a1) (C := R_Desk) (T := F_Desk) (N := 8) hx hb hg iw_Desk hown hK hP 0 rfl rfl 6 (by decide) (hg _ gw_409) (fun _ h9 => h9) rfl d_Desk_rule_73 ?_
        obtain ⟨u_9, hS_9, hF⟩ := rd_bind hF
        have hPc := hP.sub (ws' := (wd_Finds_forget kA a1 v1_0 v1_1 v1_2 x1_3 x1_4 x1_5)) [1] rfl
        have hDc := hD.sub (ws' := (wd_Finds_forget kA a1 v1_0 v1_1 v1_2 x1_3 x1_4 x1_5)) [1] (by decide) rfl
        have hFc := va_free (wc := (wd_Finds_forget kA a1 v1_0 v1_1 v1_2 x1_3 x1_4 x1_5)) hD hS hA [1] rfl
        refine va_callv (va_runV (As := []) (rest := []) ⟨hx, hb, hml, hown, hts⟩ (c_Finds_forget l dC dI kA H.size a1 v1_0 v1_1 v1_2 x1_3 x1_4 x1_5 u_9.1 u_9.2.1 u_9.2.2 hS_9) (cwV 0 hts (gw_V gw_553 gw_554 gw_555 gw_11 gw_556) rfl rfl rfl (by decide +kernel) ⟨Nat.le_of_ble_eq_true rfl, Nat.le_of_ble_eq_true rfl⟩) ⟨fun a U g mk q => by obtain ⟨q0, q1, qP, qK, qD⟩ := q; exact ⟨q0, q1, qP, va_K.moved (u := U) (U := U.calling g mk a) (Vm.Alike.refl U.vm) qK, qD⟩, va_recv hK hP (ci := 1) (q0 := 1) rfl rfl, fun U hU hW => ⟨rfl, by rw [hU], by rw [hU]; exact hPc, va_K.moved hW.alike hK, hDc.weaken (fun _ _ _ _ => trivial)⟩⟩ rfl rfl hl.1 rfl (lv_room (Nat.le_of_ble_eq_true rfl)) d_Desk_rule_76 ⟨Nat.zero_le _, Nat.zero_le _⟩) hS (fun q _ h => hFc q h) hFc (fun u t H1 locs ht hvm hw hB hz1 hk1 hS => ?_)
        obtain ⟨hP1, hK1, hD1⟩ := hB
        rw [ht] at hP1
        obtain ⟨hP, hD⟩ := va_join (wr := [(a0, .inr (8, [.ref a3, .ref a2, .ref a4, v0_3, v0_4, v0_5, .ref a1, v0_7])), (a2, .inr (2, [.ref a5, .ref a7, .ref a6, v2_3, v2_4, v2_5, .int u_6.2.1])), (a3, .inr (3, [.ref a8, .int u_2])), (a4, .inr (6, [v4_0, v4_1, v4_2, .int u_8.1, .int u_8.2])), (a5, .inl (kA 0, 12, .inl u_6.2.2.1)), (a6, .inl (kA 0, 48, .inl u_6.2.2.2.1)), (a7, .inl (kA 0, 12, .inl u_6.2.2.2.2)), (a8, .inl (kA 2, 10, .inl f8))]) (w1 := (wd_Finds_forget kA a1 v1_0 v1_1 v1_2 u_9.1 u_9.2.1 u_9.2.2)) hP hD [1] [0, 2, 3, 4, 5, 6, 7, 8] rfl rfl (by decide) (by decide) hk1 hFc hP1 hD1
        have hP := hP.sub (ws' := (wd_Desk_rule kA a0 a1 a2 a3 a4 a5 a6 a7 a8 v0_3 v0_4 v0_5 v0_7 v1_0 v1_1 v1_2 v2_3 v2_4 v2_5 v4_0 v4_1 v4_2 u_9.1 u_9.2.1 u_9.2.2 u_6.2.1 u_2 u_8.1 u_8.2 u_6.2.2.1 u_6.2.2.2.1 u_6.2.2.2.2 f8)) [0, 8, 1, 2, 3, 4, 5, 6, 7] rfl
        have hD := hD.sub (ws' := (wd_Desk_rule kA a0 a1 a2 a3 a4 a5 a6 a7 a8 v0_3 v0_4 v0_5 v0_7 v1_0 v1_1 v1_2 v2_3 v2_4 v2_5 v4_0 v4_1 v4_2 u_9.1 u_9.2.1 u_9.2.2 u_6.2.1 u_2 u_8.1 u_8.2 u_6.2.2.1 u_6.2.2.2.1 u_6.2.2.2.2 f8)) [0, 8, 1, 2, 3, 4, 5, 6, 7] (by decide) rfl
        clear hPc hDc hFc hP1 hK1 hD1
        generalize H1 = H at hP hS ⊢
        refine lv_iload_n hx hb d_Desk_rule_79 rfl (lv_at hl 0 rfl) ?_
        have e0 := Option.some.inj hF
        have q0 := Prod.mk.inj e0
        have q1 := Prod.mk.inj q0.2
        have q2 := Prod.mk.inj q1.2
        have q3 := Prod.mk.inj q2.2
        have q4 := Prod.mk.inj q3.2
        have q5 := Prod.mk.inj q4.2
        have q6 := Prod.mk.inj q5.2
        have q7 := Prod.mk.inj q6.2
        have q8 := Prod.mk.inj q7.2
        have q9 := Prod.mk.inj q8.2
        have q10 := Prod.mk.inj q9.2
        refine W.widen (k := 1) (n := 6) (Nat.zero_le _) (Nat.zero_le _) ?_
        refine rd_mono (rd_back (Qc := va_Qi (fun (r1 : Int32) (_ : Unit) => r1 = r) (fun _ t => va_P (dC, dI) classes (wd_Desk_rule kA a0 a1 a2 a3 a4 a5 a6 a7 a8 v0_3 v0_4 v0_5 v0_7 v1_0 v1_1 v1_2 v2_3 v2_4 v2_5 v4_0 v4_1 v4_2 ox1_3 ox1_4 ox1_5 ox2_6 ox3_1 ox4_3 ox4_4 of5 of6 of7 f8) t.heap ∧ va_K (dC, dI) classes (tys_ kA) t ∧ va_D A (wd_Desk_rule kA a0 a1 a2 a3 a4 a5 a6 a7 a8 v0_3 v0_4 v0_5 v0_7 v1_0 v1_1 v1_2 v2_3 v2_4 v2_5 v4_0 v4_1 v4_2 ox1_3 ox1_4 ox1_5 ox2_6 ox3_1 ox4_3 ox4_4 of5 of6 of7 f8)) A) (fun v t q => rd_retx q0.1 q)) ?_
        exact W.iret (v := u_6.1) hx hb hr (fun t ht hW => ⟨⟨u_6.1, (), rfl, q1.1, by rw [ht, ← q2.1, ← q3.1, ← q4.1, ← q5.1, ← q6.1, ← q7.1, ← q8.1, ← q9.1, ← q10.1, ← q10.2]; exact hP, va_K.moved hW.alike hK, (by rw [← q2.1, ← q3.1, ← q4.1, ← q5.1, ← q6.1, ← q7.1, ← q8.1, ← q9.1, ← q10.1, ← q10.2]; exact hD)⟩, hS.F ht⟩) hS.2.2 d_Desk_rule_80 hlocks
      · rw [if_neg c_7] at hF
        have e0 := Option.some.inj hF
        have q0 := Prod.mk.inj e0
        have q1 := Prod.mk.inj q0.2
        have q2 := Prod.mk.inj q1.2
        have q3 := Prod.mk.inj q2.2
        have q4 := Prod.mk.inj q3.2
        have q5 := Prod.mk.inj q4.2
        have q6 := Prod.mk.inj q5.2
        have q7 := Prod.mk.inj q6.2
        have q8 := Prod.mk.inj q7.2
        have q9 := Prod.mk.inj q8.2
        have q10 := Prod.mk.inj q9.2
        refine rd_throw (own := R_Desk) (cls := xS) (text := "there are ten rules") (Y0 := xrt_) (names := xnm_) (ix := 7) (bx := rd_bx 7) (ik := 95) (is := 97) (ic := 99) (sa := sa 97) (rest := []) hx hb hlt rd_ok7 hown (by decide +kernel) (by decide +kernel) (by decide +kernel) (rd_site hg hX hSt hS gw_551 gw_422 (by decide +kernel) (by simp [xs_])) (hl.1.trans hml.symm) d_Desk_rule_55 d_Desk_rule_58 d_Desk_rule_59 d_Desk_rule_61 d_Desk_rule_64 hno (Nat.le_of_ble_eq_true rfl) (Nat.le_of_ble_eq_true rfl) (Nat.le_of_ble_eq_true rfl) (Nat.le_of_ble_eq_true rfl) hlocks (fun t ht hz hq => ?_) hS.2.2 (Nat.le_refl _) (Nat.le_refl _)
        have hT := rd_thrown hP hD hK hS ht hz hq
        exact ⟨by rw [← q0.1]; decide +kernel, by rw [← q2.1, ← q3.1, ← q4.1, ← q5.1, ← q6.1, ← q7.1, ← q8.1, ← q9.1, ← q10.1, ← q10.2]; exact hT⟩
    · rw [if_neg c_5] at hF
      have e0 := Option.some.inj hF
      have q0 := Prod.mk.inj e0
      have q1 := Prod.mk.inj q0.2
      have q2 := Prod.mk.inj q1.2
      have q3 := Prod.mk.inj q2.2
      have q4 := Prod.mk.inj q3.2
      have q5 := Prod.mk.inj q4.2
      have q6 := Prod.mk.inj q5.2
      have q7 := Prod.mk.inj q6.2
      have q8 := Prod.mk.inj q7.2
      have q9 := Prod.mk.inj q8.2
      have q10 := Prod.mk.inj q9.2
      refine rd_throw (own := R_Desk) (cls := xI) (text := "the line is no new rule") (Y0 := xrt_) (names := xnm_) (ix := 7) (bx := rd_bx 7) (ik := 84) (is := 86) (ic := 88) (sa := sa 86) (rest := []) hx hb hlt rd_ok7 hown (by decide +kernel) (by decide +kernel) (by decide +kernel) (rd_site hg hX hSt hS gw_545 gw_421 (by decide +kernel) (by simp [xs_])) (hl.1.trans hml.symm) d_Desk_rule_33 d_Desk_rule_36 d_Desk_rule_37 d_Desk_rule_39 d_Desk_rule_42 hno (Nat.le_of_ble_eq_true rfl) (Nat.le_of_ble_eq_true rfl) (Nat.le_of_ble_eq_true rfl) (Nat.le_of_ble_eq_true rfl) hlocks (fun t ht hz hq => ?_) hS.2.2 (Nat.le_refl _) (Nat.le_refl _)
      have hT := rd_thrown hP hD hK hS ht hz hq
      exact ⟨by rw [← q0.1]; decide +kernel, by rw [← q2.1, ← q3.1, ← q4.1, ← q5.1, ← q6.1, ← q7.1, ← q8.1, ← q9.1, ← q10.1, ← q10.2]; exact hT⟩
-- ===== RepairDesk.compile()I
abbrev wd_Desk_compile (kA : Nat → ClassId) (a0 a1 a2 a3 a4 a5 a6 a7 a8 a9 a10 a11 a12 : Nat) (v0_0 v0_3 v0_4 v0_5 v0_7 v1_0 v1_1 v1_2 : Value) (x1_3 : Int32) (x1_4 : Int32) (x1_5 : Int32) (x2_6 : Int32) (x3_3 : Int32) (x3_4 : Int32) (f4 : (Nat → Int32)) (f5 : (Nat → Int32)) (f6 : (Nat → Int32)) (f7 : (Nat → Int32)) (f8 : (Nat → Int32)) (f9 : (Nat → Int32)) (f10 : (Nat → Int32)) (f11 : (Nat → Int32)) (f12 : (Nat → Int32)) : va_W := [(a0, .inr (8, [v0_0, .ref a2, .ref a3, v0_3, v0_4, v0_5, .ref a1, v0_7])), (a1, .inr (1, [v1_0, v1_1, v1_2, .int x1_3, .int x1_4, .int x1_5])), (a2, .inr (2, [.ref a6, .ref a8, .ref a7, .ref a9, .ref a5, .ref a4, .int x2_6])), (a3, .inr (6, [.ref a11, .ref a12, .ref a10, .int x3_3, .int x3_4])), (a4, .inl (kA 0, 6, .inl f4)), (a5, .inl (kA 1, 6, .inl f5)), (a6, .inl (kA 0, 12, .inl f6)), (a7, .inl (kA 0, 48, .inl f7)), (a8, .inl (kA 0, 12, .inl f8)), (a9, .inl (kA 1, 12, .inl f9)), (a10, .inl (kA 0, 280, .inl f10)), (a11, .inl (kA 0, 2255, .inl f11)), (a12, .inl (kA 0, 480, .inl f12))]
abbrev rm_Desk_compile : Room := { frames := 7, cells := 1, slots := 6, locals := 168 }
def S_Desk_compile (x1_3 : Int32) (x1_4 : Int32) (x1_5 : Int32) (x2_6 : Int32) (x3_3 : Int32) (x3_4 : Int32) (f4 : (Nat → Int32)) (f5 : (Nat → Int32)) (f6 : (Nat → Int32)) (f7 : (Nat → Int32)) (f8 : (Nat → Int32)) (f9 : (Nat → Int32)) (f10 : (Nat → Int32)) (f11 : (Nat → Int32)) (f12 : (Nat → Int32)) : Option (Int32 × Int32 × Int32 × Int32 × Int32 × Int32 × Int32 × (Nat → Int32) × (Nat → Int32) × (Nat → Int32) × (Nat → Int32) × (Nat → Int32) × (Nat → Int32) × (Nat → Int32) × (Nat → Int32) × (Nat → Int32)) := ((S_Finds_forget x1_3 x1_4 x1_5).bind fun u_1 => ((S_States_forget x3_3 x3_4).bind fun u_2 => ((S_Grammar_ruleCount x2_6).bind fun u_3 => (if ¬ u_3 = 0 then ((S_Grammar_prepare x2_6 f4 f5 f6 f7 f8 f9).bind fun u_5 => (if ¬ u_5.1 = 0 then ((S_States_build u_2.1 u_2.2 f10 f11 f12 u_5.2.1 u_5.2.2.2.1 u_5.2.2.2.2.1 u_5.2.2.2.2.2.1 u_5.2.2.2.2.2.2).bind fun u_7 => (if ¬ u_7.1 = 0 then ((S_States_stateCount u_7.2.1).bind fun u_9 => (some (0, u_9, u_1.1, u_1.2.1, u_1.2.2, u_7.2.1, u_7.2.2.1, u_5.2.1, u_5.2.2.1, u_5.2.2.2.1, u_5.2.2.2.2.1, u_5.2.2.2.2.2.1, u_5.2.2.2.2.2.2, u_7.2.2.2.1, u_7.2.2.2.2.1, u_7.2.2.2.2.2))) else (some (3, 0, u_1.1, u_1.2.1, u_1.2.2, u_7.2.1, u_7.2.2.1, u_5.2.1, u_5.2.2.1, u_5.2.2.2.1, u_5.2.2.2.2.1, u_5.2.2.2.2.2.1, u_5.2.2.2.2.2.2, u_7.2.2.2.1, u_7.2.2.2.2.1, u_7.2.2.2.2.2)))) else (some (3, 0, u_1.1, u_1.2.1, u_1.2.2, u_2.1, u_2.2, u_5.2.1, u_5.2.2.1, u_5.2.2.2.1, u_5.2.2.2.2.1, u_5.2.2.2.2.2.1, u_5.2.2.2.2.2.2, f10, f11, f12)))) else (some (2, 0, u_1.1, u_1.2.1, u_1.2.2, u_2.1, u_2.2, f4, f5, f6, f7, f8, f9, f10, f11, f12))))))
set_option maxHeartbeats 4000000 in
set_option maxRecDepth 100000 in
theorem c_Desk_compile (l : Launch) (hlt : l.stackTraces = false) (dC : Nat → ClassId) (dI : Nat → Nat → Nat) (kA : Nat → ClassId) (sa : Nat → Nat) (sz : Nat) (a0 a1 a2 a3 a4 a5 a6 a7 a8 a9 a10 a11 a12 : Nat) (v0_0 v0_3 v0_4 v0_5 v0_7 v1_0 v1_1 v1_2 : Value) (x1_3 : Int32) (x1_4 : Int32) (x1_5 : Int32) (x2_6 : Int32) (x3_3 : Int32) (x3_4 : Int32) (f4 : (Nat → Int32)) (f5 : (Nat → Int32)) (f6 : (Nat → Int32)) (f7 : (Nat → Int32)) (f8 : (Nat → Int32)) (f9 : (Nat → Int32)) (f10 : (Nat → Int32)) (f11 : (Nat → Int32)) (f12 : (Nat → Int32)) (k r : Int32) (ox1_3 : Int32) (ox1_4 : Int32) (ox1_5 : Int32) (ox3_3 : Int32) (ox3_4 : Int32) (of4 : (Nat → Int32)) (of5 : (Nat → Int32)) (of6 : (Nat → Int32)) (of7 : (Nat → Int32)) (of8 : (Nat → Int32)) (of9 : (Nat → Int32)) (of10 : (Nat → Int32)) (of11 : (Nat → Int32)) (of12 : (Nat → Int32)) (hF : S_Desk_compile x1_3 x1_4 x1_5 x2_6 x3_3 x3_4 f4 f5 f6 f7 f8 f9 f10 f11 f12 = some (k, r, ox1_3, ox1_4, ox1_5, ox3_3, ox3_4, of4, of5, of6, of7, of8, of9, of10, of11, of12)) : rd_Met l y_Desk_compile w_Desk_compile rm_Desk_compile (va_Pc [.ref a0] (fun U => U.heap.size = sz ∧ va_P (dC, dI) classes (wd_Desk_compile kA a0 a1 a2 a3 a4 a5 a6 a7 a8 a9 a10 a11 a12 v0_0 v0_3 v0_4 v0_5 v0_7 v1_0 v1_1 v1_2 x1_3 x1_4 x1_5 x2_6 x3_3 x3_4 f4 f5 f6 f7 f8 f9 f10 f11 f12) U.heap ∧ va_K (dC, dI) classes (tys_ kA) U ∧ va_D (fun _ => True) (wd_Desk_compile kA a0 a1 a2 a3 a4 a5 a6 a7 a8 a9 a10 a11 a12 v0_0 v0_3 v0_4 v0_5 v0_7 v1_0 v1_1 v1_2 x1_3 x1_4 x1_5 x2_6 x3_3 x3_4 f4 f5 f6 f7 f8 f9 f10 f11 f12) ∧ rd_X sa U ∧ rd_St (va_A (wd_Desk_compile kA a0 a1 a2 a3 a4 a5 a6 a7 a8 a9 a10 a11 a12 v0_0 v0_3 v0_4 v0_5 v0_7 v1_0 v1_1 v1_2 x1_3 x1_4 x1_5 x2_6 x3_3 x3_4 f4 f5 f6 f7 f8 f9 f10 f11 f12) sz) U U.heap)) (fun st v t => k = 0 ∧ v = some (.int r) ∧ (va_P (dC, dI) classes (wd_Desk_compile kA a0 a1 a2 a3 a4 a5 a6 a7 a8 a9 a10 a11 a12 v0_0 v0_3 v0_4 v0_5 v0_7 v1_0 v1_1 v1_2 ox1_3 ox1_4 ox1_5 x2_6 ox3_3 ox3_4 of4 of5 of6 of7 of8 of9 of10 of11 of12) t.heap ∧ va_K (dC, dI) classes (tys_ kA) t ∧ va_D (va_A (wd_Desk_compile kA a0 a1 a2 a3 a4 a5 a6 a7 a8 a9 a10 a11 a12 v0_0 v0_3 v0_4 v0_5 v0_7 v1_0 v1_1 v1_2 x1_3 x1_4 x1_5 x2_6 x3_3 x3_4 f4 f5 f6 f7 f8 f9 f10 f11 f12) sz) (wd_Desk_compile kA a0 a1 a2 a3 a4 a5 a6 a7 a8 a9 a10 a11 a12 v0_0 v0_3 v0_4 v0_5 v0_7 v1_0 v1_1 v1_2 ox1_3 ox1_4 ox1_5 x2_6 ox3_3 ox3_4 of4 of5 of6 of7 of8 of9 of10 of11 of12)) ∧ va_F (va_A (wd_Desk_compile kA a0 a1 a2 a3 a4 a5 a6 a7 a8 a9 a10 a11 a12 v0_0 v0_3 v0_4 v0_5 v0_7 v1_0 v1_1 v1_2 x1_3 x1_4 x1_5 x2_6 x3_3 x3_4 f4 f5 f6 f7 f8 f9 f10 f11 f12) sz) st t) (fun st E t => (k, E) ∈ xk_ ∧ (va_P (dC, dI) classes (wd_Desk_compile kA a0 a1 a2 a3 a4 a5 a6 a7 a8 a9 a10 a11 a12 v0_0 v0_3 v0_4 v0_5 v0_7 v1_0 v1_1 v1_2 ox1_3 ox1_4 ox1_5 x2_6 ox3_3 ox3_4 of4 of5 of6 of7 of8 of9 of10 of11 of12) t.heap ∧ va_K (dC, dI) classes (tys_ kA) t ∧ va_D (va_A (wd_Desk_compile kA a0 a1 a2 a3 a4 a5 a6 a7 a8 a9 a10 a11 a12 v0_0 v0_3 v0_4 v0_5 v0_7 v1_0 v1_1 v1_2 x1_3 x1_4 x1_5 x2_6 x3_3 x3_4 f4 f5 f6 f7 f8 f9 f10 f11 f12) sz) (wd_Desk_compile kA a0 a1 a2 a3 a4 a5 a6 a7 a8 a9 a10 a11 a12 v0_0 v0_3 v0_4 v0_5 v0_7 v1_0 v1_1 v1_2 ox1_3 ox1_4 ox1_5 x2_6 ox3_3 ox3_4 of4 of5 of6 of7 of8 of9 of10 of11 of12)) ∧ va_F (va_A (wd_Desk_compile kA a0 a1 a2 a3 a4 a5 a6 a7 a8 a9 a10 a11 a12 v0_0 v0_3 v0_4 v0_5 v0_7 v1_0 v1_1 v1_2 x1_3 x1_4 x1_5 x2_6 x3_3 x3_4 f4 f5 f6 f7 f8 f9 f10 f11 f12) sz) st t) 1 6 (va_A (wd_Desk_compile kA a0 a1 a2 a3 a4 a5 a6 a7 a8 a9 a10 a11 a12 v0_0 v0_3 v0_4 v0_5 v0_7 v1_0 v1_1 v1_2 x1_3 x1_4 x1_5 x2_6 x3_3 x3_4 f4 f5 f6 f7 f8 f9 f10 f11 f12) sz) := by
  refine rd_ofW (cc := b_Desk_compile) (maxL := 1) (ret := some .int) (by decide) rfl ?_
  intro p e s m args below meth c s₁ B hml hv
  obtain ⟨rfl, hsz, hP, hK, hD0, hX, hSt⟩ := hv
  have hx := B.exec
  have hb := B.bytes
  have hr := B.returns
  have hts := atoms_spec (ws := w_Desk_compile) B.pre
  have hown : s.vm.findClass R_Desk = some m.cls := findClass_of_methodNamed B.named
  have hg := fun (w : Cond) (h : w ∈ gw) => hts w (List.mem_cons_of_mem _ h)
  have hno : ∀ {pc : Nat}, ∀ x ∈ c.exceptionTable.toList, covers x pc = false := rd_noex (B.noHandlers (hts _ List.mem_cons_self))
  have hlocks := B.notSynchronized
  subst hsz
  have hD := hD0.self (sz := s.heap.size)
  generalize hAe : va_A (wd_Desk_compile kA a0 a1 a2 a3 a4 a5 a6 a7 a8 a9 a10 a11 a12 v0_0 v0_3 v0_4 v0_5 v0_7 v1_0 v1_1 v1_2 x1_3 x1_4 x1_5 x2_6 x3_3 x3_4 f4 f5 f6 f7 f8 f9 f10 f11 f12) s.heap.size = A at hD hSt ⊢
  have hA : ∀ q : Nat, s.heap.size ≤ q → A q := fun q h => by rw [← hAe]; exact Or.inr h
  have hS : va_S A s.heap s.heap [] := va_S.rf
  have hl := lv_entry ([.ref a0]) (n := 1) (Nat.le_of_ble_eq_true rfl)
  rw [lg_entry_eq]
  generalize (lg_sl ([.ref a0]) ++ List.replicate (1 - (lg_sl ([.ref a0])).length) Slot.unset).toArray = ls at hl ⊢
  have hl : lv_has ls 1 [(0, .ref a0)] := hl
  unfold S_Desk_compile at hF
  refine lv_aload_n hx hb d_Desk_compile_0 rfl (lv_at hl 0 rfl) ?_
  refine va_get (D := (dC, dI)) (ci := 8) (v := .ref a1) (C := R_Desk) (T := F_Desk) (N := 8) hx hb hg iw_Desk hown hK hP 0 rfl rfl 6 (by decide) (hg _ gw_409) (fun _ h9 => h9) rfl d_Desk_compile_1 ?_
  obtain ⟨u_1, hS_1, hF⟩ := rd_bind hF
  have hPc := hP.sub (ws' := (wd_Finds_forget kA a1 v1_0 v1_1 v1_2 x1_3 x1_4 x1_5)) [1] rfl
  have hDc := hD.sub (ws' := (wd_Finds_forget kA a1 v1_0 v1_1 v1_2 x1_3 x1_4 x1_5)) [1] (by decide) rfl
  have hFc := va_free (wc := (wd_Finds_forget kA a1 v1_0 v1_1 v1_2 x1_3 x1_4 x1_5)) hD hS hA [1] rfl
  refine va_callv (va_runV (As := []) (rest := []) ⟨hx, hb, hml, hown, hts⟩ (c_Finds_forget l dC dI kA s.heap.size a1 v1_0 v1_1 v1_2 x1_3 x1_4 x1_5 u_1.1 u_1.2.1 u_1.2.2 hS_1) (cwV 0 hts (gw_V gw_553 gw_554 gw_555 gw_11 gw_556) rfl rfl rfl (by decide +kernel) ⟨Nat.le_of_ble_eq_true rfl, Nat.le_of_ble_eq_true rfl⟩) ⟨fun a U g mk q => by obtain ⟨q0, q1, qP, qK, qD⟩ := q; exact ⟨q0, q1, qP, va_K.moved (u := U) (U := U.calling g mk a) (Vm.Alike.refl U.vm) qK, qD⟩, va_recv hK hP (ci := 1) (q0 := 1) rfl rfl, fun U hU hW => ⟨rfl, by rw [hU], by rw [hU]; exact hPc, va_K.moved hW.alike hK, hDc.weaken (fun _ _ _ _ => trivial)⟩⟩ rfl rfl hl.1 rfl (lv_room (Nat.le_of_ble_eq_true rfl)) d_Desk_compile_4 ⟨Nat.zero_le _, Nat.zero_le _⟩) hS (fun q _ h => hFc q h) hFc (fun u t H1 locs ht hvm hw hB hz1 hk1 hS => ?_)
  obtain ⟨hP1, hK1, hD1⟩ := hB
  rw [ht] at hP1
  obtain ⟨hP, hD⟩ := va_join (wr := [(a0, .inr (8, [v0_0, .ref a2, .ref a3, v0_3, v0_4, v0_5, .ref a1, v0_7])), (a2, .inr (2, [.ref a6, .ref a8, .ref a7, .ref a9, .ref a5, .ref a4, .int x2_6])), (a3, .inr (6, [.ref a11, .ref a12, .ref a10, .int x3_3, .int x3_4])), (a4, .inl (kA 0, 6, .inl f4)), (a5, .inl (kA 1, 6, .inl f5)), (a6, .inl (kA 0, 12, .inl f6)), (a7, .inl (kA 0, 48, .inl f7)), (a8, .inl (kA 0, 12, .inl f8)), (a9, .inl (kA 1, 12, .inl f9)), (a10, .inl (kA 0, 280, .inl f10)), (a11, .inl (kA 0, 2255, .inl f11)), (a12, .inl (kA 0, 480, .inl f12))]) (w1 := (wd_Finds_forget kA a1 v1_0 v1_1 v1_2 u_1.1 u_1.2.1 u_1.2.2)) hP hD [1] [0, 2, 3, 4, 5, 6, 7, 8, 9, 10, 11, 12] rfl rfl (by decide) (by decide) hk1 hFc hP1 hD1
  have hP := hP.sub (ws' := (wd_Desk_compile kA a0 a1 a2 a3 a4 a5 a6 a7 a8 a9 a10 a11 a12 v0_0 v0_3 v0_4 v0_5 v0_7 v1_0 v1_1 v1_2 u_1.1 u_1.2.1 u_1.2.2 x2_6 x3_3 x3_4 f4 f5 f6 f7 f8 f9 f10 f11 f12)) [0, 12, 1, 2, 3, 4, 5, 6, 7, 8, 9, 10, 11] rfl
  have hD := hD.sub (ws' := (wd_Desk_compile kA a0 a1 a2 a3 a4 a5 a6 a7 a8 a9 a10 a11 a12 v0_0 v0_3 v0_4 v0_5 v0_7 v1_0 v1_1 v1_2 u_1.1 u_1.2.1 u_1.2.2 x2_6 x3_3 x3_4 f4 f5 f6 f7 f8 f9 f10 f11 f12)) [0, 12, 1, 2, 3, 4, 5, 6, 7, 8, 9, 10, 11] (by decide) rfl
  clear hPc hDc hFc hP1 hK1 hD1
  generalize H1 = H at hP hS ⊢
  refine lv_aload_n hx hb d_Desk_compile_7 rfl (lv_at hl 0 rfl) ?_
  refine va_get (D := (dC, dI)) (ci := 8) (v := .ref a3) (C := R_Desk) (T := F_Desk) (N := 8) hx hb hg iw_Desk hown hK hP 0 rfl rfl 2 (by decide) (hg _ gw_387) (fun _ h9 => h9) rfl d_Desk_compile_8 ?_
  obtain ⟨u_2, hS_2, hF⟩ := rd_bind hF
  have hPc := hP.sub (ws' := (wd_States_forget kA a3 (.ref a11) (.ref a12) (.ref a10) x3_3 x3_4)) [3] rfl
  have hDc := hD.sub (ws' := (wd_States_forget kA a3 (.ref a11) (.ref a12) (.ref a10) x3_3 x3_4)) [3] (by decide) rfl
  have hFc := va_free (wc := (wd_States_forget kA a3 (.ref a11) (.ref a12) (.ref a10) x3_3 x3_4)) hD hS hA [3] rfl
  refine va_callv (va_runV (As := []) (rest := []) ⟨hx, hb, hml, hown, hts⟩ (c_States_forget l dC dI kA H.size a3 (.ref a11) (.ref a12) (.ref a10) x3_3 x3_4 u_2.1 u_2.2 hS_2) (cwV 0 hts (gw_V gw_552 gw_232 gw_233 gw_91 gw_234) rfl rfl rfl (by decide +kernel) ⟨Nat.le_of_ble_eq_true rfl, Nat.le_of_ble_eq_true rfl⟩) ⟨fun a U g mk q => by obtain ⟨q0, q1, qP, qK, qD⟩ := q; exact ⟨q0, q1, qP, va_K.moved (u := U) (U := U.calling g mk a) (Vm.Alike.refl U.vm) qK, qD⟩, va_recv hK hP (ci := 6) (q0 := 3) rfl rfl, fun U hU hW => ⟨rfl, by rw [hU], by rw [hU]; exact hPc, va_K.moved hW.alike hK, hDc.weaken (fun _ _ _ _ => trivial)⟩⟩ rfl rfl hl.1 rfl (lv_room (Nat.le_of_ble_eq_true rfl)) d_Desk_compile_11 ⟨Nat.zero_le _, Nat.zero_le _⟩) hS (fun q _ h => hFc q h) hFc (fun u t H1 locs ht hvm hw hB hz1 hk1 hS => ?_)
  obtain ⟨hP1, hK1, hD1⟩ := hB
  rw [ht] at hP1
  obtain ⟨hP, hD⟩ := va_join (wr := [(a0, .inr (8, [v0_0, .ref a2, .ref a3, v0_3, v0_4, v0_5, .ref a1, v0_7])), (a1, .inr (1, [v1_0, v1_1, v1_2, .int u_1.1, .int u_1.2.1, .int u_1.2.2])), (a2, .inr (2, [.ref a6, .ref a8, .ref a7, .ref a9, .ref a5, .ref a4, .int x2_6])), (a4, .inl (kA 0, 6, .inl f4)), (a5, .inl (kA 1, 6, .inl f5)), (a6, .inl (kA 0, 12, .inl f6)), (a7, .inl (kA 0, 48, .inl f7)), (a8, .inl (kA 0, 12, .inl f8)), (a9, .inl (kA 1, 12, .inl f9)), (a10, .inl (kA 0, 280, .inl f10)), (a11, .inl (kA 0, 2255, .inl f11)), (a12, .inl (kA 0, 480, .inl f12))]) (w1 := (wd_States_forget kA a3 (.ref a11) (.ref a12) (.ref a10) u_2.1 u_2.2)) hP hD [3] [0, 1, 2, 4, 5, 6, 7, 8, 9, 10, 11, 12] rfl rfl (by decide) (by decide) hk1 hFc hP1 hD1
  have hP := hP.sub (ws' := (wd_Desk_compile kA a0 a1 a2 a3 a4 a5 a6 a7 a8 a9 a10 a11 a12 v0_0 v0_3 v0_4 v0_5 v0_7 v1_0 v1_1 v1_2 u_1.1 u_1.2.1 u_1.2.2 x2_6 u_2.1 u_2.2 f4 f5 f6 f7 f8 f9 f10 f11 f12)) [0, 1, 2, 12, 3, 4, 5, 6, 7, 8, 9, 10, 11] rfl
  have hD := hD.sub (ws' := (wd_Desk_compile kA a0 a1 a2 a3 a4 a5 a6 a7 a8 a9 a10 a11 a12 v0_0 v0_3 v0_4 v0_5 v0_7 v1_0 v1_1 v1_2 u_1.1 u_1.2.1 u_1.2.2 x2_6 u_2.1 u_2.2 f4 f5 f6 f7 f8 f9 f10 f11 f12)) [0, 1, 2, 12, 3, 4, 5, 6, 7, 8, 9, 10, 11] (by decide) rfl
  clear hPc hDc hFc hP1 hK1 hD1
  generalize H1 = H at hP hS ⊢
  refine lv_aload_n hx hb d_Desk_compile_14 rfl (lv_at hl 0 rfl) ?_
  refine va_get (D := (dC, dI)) (ci := 8) (v := .ref a2) (C := R_Desk) (T := F_Desk) (N := 8) hx hb hg iw_Desk hown hK hP 0 rfl rfl 1 (by decide) (hg _ gw_382) (fun _ h9 => h9) rfl d_Desk_compile_15 ?_
  obtain ⟨u_3, hS_3, hF⟩ := rd_bind hF
  have hPc := hP.sub (ws' := (wd_Grammar_ruleCount kA a2 (.ref a6) (.ref a8) (.ref a7) (.ref a9) (.ref a5) (.ref a4) x2_6)) [2] rfl
  have hDc := hD.sub (ws' := (wd_Grammar_ruleCount kA a2 (.ref a6) (.ref a8) (.ref a7) (.ref a9) (.ref a5) (.ref a4) x2_6)) [2] (by decide) rfl
  have hFc := va_free (wc := (wd_Grammar_ruleCount kA a2 (.ref a6) (.ref a8) (.ref a7) (.ref a9) (.ref a5) (.ref a4) x2_6)) hD hS hA [2] rfl
  refine va_calli (va_runV (As := []) (rest := []) ⟨hx, hb, hml, hown, hts⟩ (c_Grammar_ruleCount l dC dI kA H.size a2 (.ref a6) (.ref a8) (.ref a7) (.ref a9) (.ref a5) (.ref a4) x2_6 u_3 hS_3) (cwV 0 hts (gw_V gw_513 gw_514 gw_515 gw_42 gw_516) rfl rfl rfl (by decide +kernel) ⟨Nat.le_of_ble_eq_true rfl, Nat.le_of_ble_eq_true rfl⟩) ⟨fun a U g mk q => by obtain ⟨q0, q1, qP, qK, qD⟩ := q; exact ⟨q0, q1, qP, va_K.moved (u := U) (U := U.calling g mk a) (Vm.Alike.refl U.vm) qK, qD⟩, va_recv hK hP (ci := 2) (q0 := 2) rfl rfl, fun U hU hW => ⟨rfl, by rw [hU], by rw [hU]; exact hPc, va_K.moved hW.alike hK, hDc.weaken (fun _ _ _ _ => trivial)⟩⟩ rfl rfl hl.1 rfl (lv_room (Nat.le_of_ble_eq_true rfl)) d_Desk_compile_18 ⟨Nat.zero_le _, Nat.zero_le _⟩) hS (fun q _ h => hFc q h) hFc (fun r1 u t H1 locs ht hvm hw hB hz1 hk1 hS => ?_)
  rw [show r1 = _ from hw]
  obtain ⟨hP1, hK1, hD1⟩ := hB
  rw [ht] at hP1
  obtain ⟨hP, hD⟩ := va_join (wr := [(a0, .inr (8, [v0_0, .ref a2, .ref a3, v0_3, v0_4, v0_5, .ref a1, v0_7])), (a1, .inr (1, [v1_0, v1_1, v1_2, .int u_1.1, .int u_1.2.1, .int u_1.2.2])), (a3, .inr (6, [.ref a11, .ref a12, .ref a10, .int u_2.1, .int u_2.2])), (a4, .inl (kA 0, 6, .inl f4)), (a5, .inl (kA 1, 6, .inl f5)), (a6, .inl (kA 0, 12, .inl f6)), (a7, .inl (kA 0, 48, .inl f7)), (a8, .inl (kA 0, 12, .inl f8)), (a9, .inl (kA 1, 12, .inl f9)), (a10, .inl (kA 0, 280, .inl f10)), (a11, .inl (kA 0, 2255, .inl f11)), (a12, .inl (kA 0, 480, .inl f12))]) (w1 := (wd_Grammar_ruleCount kA a2 (.ref a6) (.ref a8) (.ref a7) (.ref a9) (.ref a5) (.ref a4) x2_6)) hP hD [2] [0, 1, 3, 4, 5, 6, 7, 8, 9, 10, 11, 12] rfl rfl (by decide) (by decide) hk1 hFc hP1 hD1
  have hP := hP.sub (ws' := (wd_Desk_compile kA a0 a1 a2 a3 a4 a5 a6 a7 a8 a9 a10 a11 a12 v0_0 v0_3 v0_4 v0_5 v0_7 v1_0 v1_1 v1_2 u_1.1 u_1.2.1 u_1.2.2 x2_6 u_2.1 u_2.2 f4 f5 f6 f7 f8 f9 f10 f11 f12)) [0, 1, 12, 2, 3, 4, 5, 6, 7, 8, 9, 10, 11] rfl
  have hD := hD.sub (ws' := (wd_Desk_compile kA a0 a1 a2 a3 a4 a5 a6 a7 a8 a9 a10 a11 a12 v0_0 v0_3 v0_4 v0_5 v0_7 v1_0 v1_1 v1_2 u_1.1 u_1.2.1 u_1.2.2 x2_6 u_2.1 u_2.2 f4 f5 f6 f7 f8 f9 f10 f11 f12)) [0, 1, 12, 2, 3, 4, 5, 6, 7, 8, 9, 10, 11] (by decide) rfl
  clear hPc hDc hFc hP1 hK1 hD1
  generalize H1 = H at hP hS ⊢
  refine lv_if_ne (tgt := 34) hx hb d_Desk_compile_21 (by decide) (fun c_4 => ?_) (fun c_4 => ?_)
  · rw [if_pos c_4] at hF
    refine lv_aload_n hx hb d_Desk_compile_34 rfl (lv_at hl 0 rfl) ?_
    refine va_get (D := (dC, dI)) (ci := 8) (v := .ref a2) (C := R_Desk) (T := F_Desk) (N := 8) hx hb hg iw_Desk hown hK hP 0 rfl rfl 1 (by decide) (hg _ gw_382) (fun _ h9 => h9) rfl d_Desk_compile_35 ?_
    obtain ⟨u_5, hS_5, hF⟩ := rd_bind hF
    have hPc := hP.sub (ws' := (wd_Grammar_prepare kA a2 a4 a5 a6 a7 a8 a9 x2_6 f4 f5 f6 f7 f8 f9)) [2, 4, 5, 6, 7, 8, 9] rfl
    have hDc := hD.sub (ws' := (wd_Grammar_prepare kA a2 a4 a5 a6 a7 a8 a9 x2_6 f4 f5 f6 f7 f8 f9)) [2, 4, 5, 6, 7, 8, 9] (by decide) rfl
    have hFc := va_free (wc := (wd_Grammar_prepare kA a2 a4 a5 a6 a7 a8 a9 x2_6 f4 f5 f6 f7 f8 f9)) hD hS hA [2, 4, 5, 6, 7, 8, 9] rfl
    refine va_calli (va_runV (As := []) (rest := []) ⟨hx, hb, hml, hown, hts⟩ (c_Grammar_prepare l dC dI kA H.size a2 a4 a5 a6 a7 a8 a9 x2_6 f4 f5 f6 f7 f8 f9 u_5.1 u_5.2.1 u_5.2.2.1 u_5.2.2.2.1 u_5.2.2.2.2.1 u_5.2.2.2.2.2.1 u_5.2.2.2.2.2.2 hS_5) (cwV 0 hts (gw_V gw_564 gw_565 gw_566 gw_42 gw_567) rfl rfl rfl (by decide +kernel) ⟨Nat.le_of_ble_eq_true rfl, Nat.le_of_ble_eq_true rfl⟩) ⟨fun a U g mk q => by obtain ⟨q0, q1, qP, qK, qD⟩ := q; exact ⟨q0, q1, qP, va_K.moved (u := U) (U := U.calling g mk a) (Vm.Alike.refl U.vm) qK, qD⟩, va_recv hK hP (ci := 2) (q0 := 2) rfl rfl, fun U hU hW => ⟨rfl, by rw [hU], by rw [hU]; exact hPc, va_K.moved hW.alike hK, hDc.weaken (fun _ _ _ _ => trivial)⟩⟩ rfl rfl hl.1 rfl (lv_room (Nat.le_of_ble_eq_true rfl)) d_Desk_compile_38 ⟨Nat.zero_le _, Nat.zero_le _⟩) hS (fun q _ h => hFc q h) hFc (fun r1 u t H1 locs ht hvm hw hB hz1 hk1 hS => ?_)
    rw [show r1 = _ from hw]
    obtain ⟨hP1, hK1, hD1⟩ := hB
    rw [ht] at hP1
    obtain ⟨hP, hD⟩ := va_join (wr := [(a0, .inr (8, [v0_0, .ref a2, .ref a3, v0_3, v0_4, v0_5, .ref a1, v0_7])), (a1, .inr (1, [v1_0, v1_1, v1_2, .int u_1.1, .int u_1.2.1, .int u_1.2.2])), (a3, .inr (6, [.ref a11, .ref a12, .ref a10, .int u_2.1, .int u_2.2])), (a10, .inl (kA 0, 280, .inl f10)), (a11, .inl (kA 0, 2255, .inl f11)), (a12, .inl (kA 0, 480, .inl f12))]) (w1 := (wd_Grammar_prepare kA a2 a4 a5 a6 a7 a8 a9 x2_6 u_5.2.1 u_5.2.2.1 u_5.2.2.2.1 u_5.2.2.2.2.1 u_5.2.2.2.2.2.1 u_5.2.2.2.2.2.2)) hP hD [2, 4, 5, 6, 7, 8, 9] [0, 1, 3, 10, 11, 12] rfl rfl (by decide) (by decide) hk1 hFc hP1 hD1
    have hP := hP.sub (ws' := (wd_Desk_compile kA a0 a1 a2 a3 a4 a5 a6 a7 a8 a9 a10 a11 a12 v0_0 v0_3 v0_4 v0_5 v0_7 v1_0 v1_1 v1_2 u_1.1 u_1.2.1 u_1.2.2 x2_6 u_2.1 u_2.2 u_5.2.1 u_5.2.2.1 u_5.2.2.2.1 u_5.2.2.2.2.1 u_5.2.2.2.2.2.1 u_5.2.2.2.2.2.2 f10 f11 f12)) [0, 1, 6, 2, 7, 8, 9, 10, 11, 12, 3, 4, 5] rfl
    have hD := hD.sub (ws' := (wd_Desk_compile kA a0 a1 a2 a3 a4 a5 a6 a7 a8 a9 a10 a11 a12 v0_0 v0_3 v0_4 v0_5 v0_7 v1_0 v1_1 v1_2 u_1.1 u_1.2.1 u_1.2.2 x2_6 u_2.1 u_2.2 u_5.2.1 u_5.2.2.1 u_5.2.2.2.1 u_5.2.2.2.2.1 u_5.2.2.2.2.2.1 u_5.2.2.2.2.2.2 f10 f11 f12)) [0, 1, 6, 2, 7, 8, 9, 10, 11, 12, 3, 4, 5] (by decide) rfl
    clear hPc hDc hFc hP1 hK1 hD1
    generalize H1 = H at hP hS ⊢
    refine lv_if_ne (tgt := 54) hx hb d_Desk_compile_41 (by decide) (fun c_6 => ?_) (fun c_6 => ?_)
    · rw [if_pos c_6] at hF
      refine lv_aload_n hx hb d_Desk_compile_54 rfl (lv_at hl 0 rfl) ?_
      refine va_get (D := (dC, dI)) (ci := 8) (v := .ref a3) (C := R_Desk) (T := F_Desk) (N := 8) hx hb hg iw_Desk hown hK hP 0 rfl rfl 2 (by decide) (hg _ gw_387) (fun _ h9 => h9) rfl d_Desk_compile_55 ?_
      refine lv_aload_n hx hb d_Desk_compile_58 rfl (lv_at hl 0 rfl) ?_
      refine va_get (D := (dC, dI)) (ci := 8) (v := .ref a2) (C := R_Desk) (T := F_Desk) (N := 8) hx hb hg iw_Desk hown hK hP 0 rfl rfl 1 (by decide) (hg _ gw_382) (fun _ h9 => h9) rfl d_Desk_compile_59 ?_
      obtain ⟨u_7, hS_7, hF⟩ := rd_bind hF
      have hPc := hP.sub (ws' := (wd_States_build kA a3 a10 a11 a12 a2 a4 a6 a7 a8 a9 (.ref a5) (.int x2_6) u_2.1 u_2.2 f10 f11 f12 u_5.2.1 u_5.2.2.2.1 u_5.2.2.2.2.1 u_5.2.2.2.2.2.1 u_5.2.2.2.2.2.2)) [3, 10, 11, 12, 2, 4, 6, 7, 8, 9] rfl
      have hDc := hD.sub (ws' := (wd_States_build kA a3 a10 a11 a12 a2 a4 a6 a7 a8 a9 (.ref a5) (.int x2_6) u_2.1 u_2.2 f10 f11 f12 u_5.2.1 u_5.2.2.2.1 u_5.2.2.2.2.1 u_5.2.2.2.2.2.1 u_5.2.2.2.2.2.2)) [3, 10, 11, 12, 2, 4, 6, 7, 8, 9] (by decide) rfl
      have hFc := va_free (wc := (wd_States_build kA a3 a10 a11 a12 a2 a4 a6 a7 a8 a9 (.ref a5) (.int x2_6) u_2.1 u_2.2 f10 f11 f12 u_5.2.1 u_5.2.2.2.1 u_5.2.2.2.2.1 u_5.2.2.2.2.2.1 u_5.2.2.2.2.2.2)) hD hS hA [3, 10, 11, 12, 2, 4, 6, 7, 8, 9] rfl
      refine va_calli (va_runV (As := [.ref a2]) (rest := []) ⟨hx, hb, hml, hown, hts⟩ (c_States_build l dC dI kA H.size a3 a10 a11 a12 a2 a4 a6 a7 a8 a9 (.ref a5) (.int x2_6) u_2.1 u_2.2 f10 f11 f12 u_5.2.1 u_5.2.2.2.1 u_5.2.2.2.2.1 u_5.2.2.2.2.2.1 u_5.2.2.2.2.2.2 u_7.1 u_7.2.1 u_7.2.2.1 u_7.2.2.2.1 u_7.2.2.2.2.1 u_7.2.2.2.2.2 hS_7) (cwV 1 hts (gw_V gw_569 gw_570 gw_571 gw_91 gw_572) rfl rfl rfl (by decide +kernel) ⟨Nat.le_of_ble_eq_true rfl, Nat.le_of_ble_eq_true rfl⟩) ⟨fun a U g mk q => by obtain ⟨q0, q1, qP, qK, qD⟩ := q; exact ⟨q0, q1, qP, va_K.moved (u := U) (U := U.calling g mk a) (Vm.Alike.refl U.vm) qK, qD⟩, va_recv hK hP (ci := 6) (q0 := 3) rfl rfl, fun U hU hW => ⟨rfl, by rw [hU], by rw [hU]; exact hPc, va_K.moved hW.alike hK, hDc.weaken (fun _ _ _ _ => trivial)⟩⟩ rfl rfl hl.1 rfl (lv_room (Nat.le_of_ble_eq_true rfl)) d_Desk_compile_62 ⟨Nat.zero_le _, Nat.zero_le _⟩) hS (fun q _ h => hFc q h) hFc (fun r1 u t H1 locs ht hvm hw hB hz1 hk1 hS => ?_)
      rw [show r1 = _ from hw]
      obtain ⟨hP1, hK1, hD1⟩ := hB
      rw [ht] at hP1
      obtain ⟨hP, hD⟩ := va_join (wr := [(a0, .inr (8, [v0_0, .ref a2, .ref a3, v0_3, v0_4, v0_5, .ref a1, v0_7])), (a1, .inr (1, [v1_0, v1_1, v1_2, .int u_1.1, .int u_1.2.1, .int u_1.2.2])), (a5, .inl (kA 1, 6, .inl u_5.2.2.1))]) (w1 := (wd_States_build kA a3 a10 a11 a12 a2 a4 a6 a7 a8 a9 (.ref a5) (.int x2_6) u_7.2.1 u_7.2.2.1 u_7.2.2.2.1 u_7.2.2.2.2.1 u_7.2.2.2.2.2 u_5.2.1 u_5.2.2.2.1 u_5.2.2.2.2.1 u_5.2.2.2.2.2.1 u_5.2.2.2.2.2.2)) hP hD [3, 10, 11, 12, 2, 4, 6, 7, 8, 9] [0, 1, 5] rfl rfl (by decide) (by decide) hk1 hFc hP1 hD1
      have hP := hP.sub (ws' := (wd_Desk_compile kA a0 a1 a2 a3 a4 a5 a6 a7 a8 a9 a10 a11 a12 v0_0 v0_3 v0_4 v0_5 v0_7 v1_0 v1_1 v1_2 u_1.1 u_1.2.1 u_1.2.2 x2_6 u_7.2.1 u_7.2.2.1 u_5.2.1 u_5.2.2.1 u_5.2.2.2.1 u_5.2.2.2.2.1 u_5.2.2.2.2.2.1 u_5.2.2.2.2.2.2 u_7.2.2.2.1 u_7.2.2.2.2.1 u_7.2.2.2.2.2)) [0, 1, 7, 3, 8, 2, 9, 10, 11, 12, 4, 5, 6] rfl
      have hD := hD.sub (ws' := (wd_Desk_compile kA a0 a1 a2 a3 a4 a5 a6 a7 a8 a9 a10 a11 a12 v0_0 v0_3 v0_4 v0_5 v0_7 v1_0 v1_1 v1_2 u_1.1 u_1.2.1 u_1.2.2 x2_6 u_7.2.1 u_7.2.2.1 u_5.2.1 u_5.2.2.1 u_5.2.2.2.1 u_5.2.2.2.2.1 u_5.2.2.2.2.2.1 u_5.2.2.2.2.2.2 u_7.2.2.2.1 u_7.2.2.2.2.1 u_7.2.2.2.2.2)) [0, 1, 7, 3, 8, 2, 9, 10, 11, 12, 4, 5, 6] (by decide) rfl
      clear hPc hDc hFc hP1 hK1 hD1
      generalize H1 = H at hP hS ⊢
      refine lv_if_ne (tgt := 78) hx hb d_Desk_compile_65 (by decide) (fun c_8 => ?_) (fun c_8 => ?_)
      · rw [if_pos c_8] at hF
        refine lv_aload_n hx hb d_Desk_compile_78 rfl (lv_at hl 0 rfl) ?_
        refine va_get (D := (dC, dI)) (ci := 8) (v := .ref a3) (C := R_Desk) (T := F_Desk) (N := 8) hx hb hg iw_Desk hown hK hP 0 rfl rfl 2 (by decide) (hg _ gw_387) (fun _ h9 => h9) rfl d_Desk_compile_79 ?_
        obtain ⟨u_9, hS_9, hF⟩ := rd_bind hF
        have hPc := hP.sub (ws' := (wd_States_stateCount kA a3 (.ref a11) (.ref a12) (.ref a10) (.int u_7.2.2.1) u_7.2.1)) [3] rfl
        have hDc := hD.sub (ws' := (wd_States_stateCount kA a3 (.ref a11) (.ref a12) (.ref a10) (.int u_7.2.2.1) u_7.2.1)) [3] (by decide) rfl
        have hFc := va_free (wc := (wd_States_stateCount kA a3 (.ref a11) (.ref a12) (.ref a10) (.int u_7.2.2.1) u_7.2.1)) hD hS hA [3] rfl
        refine va_calli (va_runV (As := []) (rest := []) ⟨hx, hb, hml, hown, hts⟩ (c_States_stateCount l dC dI kA H.size a3 (.ref a11) (.ref a12) (.ref a10) (.int u_7.2.2.1) u_7.2.1 u_9 hS_9) (cwV 0 hts (gw_V gw_517 gw_518 gw_519 gw_91 gw_520) rfl rfl rfl (by decide +kernel) ⟨Nat.le_of_ble_eq_true rfl, Nat.le_of_ble_eq_true rfl⟩) ⟨fun a U g mk q => by obtain ⟨q0, q1, qP, qK, qD⟩ := q; exact ⟨q0, q1, qP, va_K.moved (u := U) (U := U.calling g mk a) (Vm.Alike.refl U.vm) qK, qD⟩, va_recv hK hP (ci := 6) (q0 := 3) rfl rfl, fun U hU hW => ⟨rfl, by rw [hU], by rw [hU]; exact hPc, va_K.moved hW.alike hK, hDc.weaken (fun _ _ _ _ => trivial)⟩⟩ rfl rfl hl.1 rfl (lv_room (Nat.le_of_ble_eq_true rfl)) d_Desk_compile_82 ⟨Nat.zero_le _, Nat.zero_le _⟩) hS (fun q _ h => hFc q h) hFc (fun r1 u t H1 locs ht hvm hw hB hz1 hk1 hS => ?_)
        rw [show r1 = _ from hw]
        obtain ⟨hP1, hK1, hD1⟩ := hB
        rw [ht] at hP1
        obtain ⟨hP, hD⟩ := va_join (wr := [(a0, .inr (8, [v0_0, .ref a2, .ref a3, v0_3, v0_4, v0_5, .ref a1, v0_7])), (a1, .inr (1, [v1_0, v1_1, v1_2, .int u_1.1, .int u_1.2.1, .int u_1.2.2])), (a2, .inr (2, [.ref a6, .ref a8, .ref a7, .ref a9, .ref a5, .ref a4, .int x2_6])), (a4, .inl (kA 0, 6, .inl u_5.2.1)), (a5, .inl (kA 1, 6, .inl u_5.2.2.1)), (a6, .inl (kA 0, 12, .inl u_5.2.2.2.1)), (a7, .inl (kA 0, 48, .inl u_5.2.2.2.2.1)), (a8, .inl (kA 0, 12, .inl u_5.2.2.2.2.2.1)), (a9, .inl (kA 1, 12, .inl u_5.2.2.2.2.2.2)), (a10, .inl (kA 0, 280, .inl u_7.2.2.2.1)), (a11, .inl (kA 0, 2255, .inl u_7.2.2.2.2.1)), (a12, .inl (kA 0, 480, .inl u_7.2.2.2.2.2))]) (w1 := (wd_States_stateCount kA a3 (.ref a11) (.ref a12) (.ref a10) (.int u_7.2.2.1) u_7.2.1)) hP hD [3] [0, 1, 2, 4, 5, 6, 7, 8, 9, 10, 11, 12] rfl rfl (by decide) (by decide) hk1 hFc hP1 hD1
        have hP := hP.sub (ws' := (wd_Desk_compile kA a0 a1 a2 a3 a4 a5 a6 a7 a8 a9 a10 a11 a12 v0_0 v0_3 v0_4 v0_5 v0_7 v1_0 v1_1 v1_2 u_1.1 u_1.2.1 u_1.2.2 x2_6 u_7.2.1 u_7.2.2.1 u_5.2.1 u_5.2.2.1 u_5.2.2.2.1 u_5.2.2.2.2.1 u_5.2.2.2.2.2.1 u_5.2.2.2.2.2.2 u_7.2.2.2.1 u_7.2.2.2.2.1 u_7.2.2.2.2.2)) [0, 1, 2, 12, 3, 4, 5, 6, 7, 8, 9, 10, 11] rfl
        have hD := hD.sub (ws' := (wd_Desk_compile kA a0 a1 a2 a3 a4 a5 a6 a7 a8 a9 a10 a11 a12 v0_0 v0_3 v0_4 v0_5 v0_7 v1_0 v1_1 v1_2 u_1.1 u_1.2.1 u_1.2.2 x2_6 u_7.2.1 u_7.2.2.1 u_5.2.1 u_5.2.2.1 u_5.2.2.2.1 u_5.2.2.2.2.1 u_5.2.2.2.2.2.1 u_5.2.2.2.2.2.2 u_7.2.2.2.1 u_7.2.2.2.2.1 u_7.2.2.2.2.2)) [0, 1, 2, 12, 3, 4, 5, 6, 7, 8, 9, 10, 11] (by decide) rfl
        clear hPc hDc hFc hP1 hK1 hD1
        generalize H1 = H at hP hS ⊢
        have e0 := Option.some.inj hF
        have q0 := Prod.mk.inj e0
        have q1 := Prod.mk.inj q0.2
        have q2 := Prod.mk.inj q1.2
        have q3 := Prod.mk.inj q2.2
        have q4 := Prod.mk.inj q3.2
        have q5 := Prod.mk.inj q4.2
        have q6 := Prod.mk.inj q5.2
        have q7 := Prod.mk.inj q6.2
        have q8 := Prod.mk.inj q7.2
        have q9 := Prod.mk.inj q8.2
        have q10 := Prod.mk.inj q9.2
        have q11 := Prod.mk.inj q10.2
        have q12 := Prod.mk.inj q11.2
        have q13 := Prod.mk.inj q12.2
        have q14 := Prod.mk.inj q13.2
        refine W.widen (k := 1) (n := 6) (Nat.zero_le _) (Nat.zero_le _) ?_
        refine rd_mono (rd_back (Qc := va_Qi (fun (r1 : Int32) (_ : Unit) => r1 = r) (fun _ t => va_P (dC, dI) classes (wd_Desk_compile kA a0 a1 a2 a3 a4 a5 a6 a7 a8 a9 a10 a11 a12 v0_0 v0_3 v0_4 v0_5 v0_7 v1_0 v1_1 v1_2 ox1_3 ox1_4 ox1_5 x2_6 ox3_3 ox3_4 of4 of5 of6 of7 of8 of9 of10 of11 of12) t.heap ∧ va_K (dC, dI) classes (tys_ kA) t ∧ va_D A (wd_Desk_compile kA a0 a1 a2 a3 a4 a5 a6 a7 a8 a9 a10 a11 a12 v0_0 v0_3 v0_4 v0_5 v0_7 v1_0 v1_1 v1_2 ox1_3 ox1_4 ox1_5 x2_6 ox3_3 ox3_4 of4 of5 of6 of7 of8 of9 of10 of11 of12)) A) (fun v t q => rd_retx q0.1 q)) ?_
        exact W.iret (v := u_9) hx hb hr (fun t ht hW => ⟨⟨u_9, (), rfl, q1.1, by rw [ht, ← q2.1, ← q3.1, ← q4.1, ← q5.1, ← q6.1, ← q7.1, ← q8.1, ← q9.1, ← q10.1, ← q11.1, ← q12.1, ← q13.1, ← q14.1, ← q14.2]; exact hP, va_K.moved hW.alike hK, (by rw [← q2.1, ← q3.1, ← q4.1, ← q5.1, ← q6.1, ← q7.1, ← q8.1, ← q9.1, ← q10.1, ← q11.1, ← q12.1, ← q13.1, ← q14.1, ← q14.2]; exact hD)⟩, hS.F ht⟩) hS.2.2 d_Desk_compile_85 hlocks
      · rw [if_neg (fun z => z c_8)] at hF
        have e0 := Option.some.inj hF
        have q0 := Prod.mk.inj e0
        have q1 := Prod.mk.inj q0.2
        have q2 := Prod.mk.inj q1.2
        have q3 := Prod.mk.inj q2.2
        have q4 := Prod.mk.inj q3.2
        have q5 := Prod.mk.inj q4.2
        have q6 := Prod.mk.inj q5.2
        have q7 := Prod.mk.inj q6.2
        have q8 := Prod.mk.inj q7.2
        have q9 := Prod.mk.inj q8.2
        have q10 := Prod.mk.inj q9.2
        have q11 := Prod.mk.inj q10.2
        have q12 := Prod.mk.inj q11.2
        have q13 := Prod.mk.inj q12.2
        have q14 := Prod.mk.inj q13.2
        refine rd_throw (own := R_Desk) (cls := xU) (text := "the grammar is too great or not good") (Y0 := xrt_) (names := xnm_) (ix := 7) (bx := rd_bx 7) (ik := 112) (is := 121) (ic := 116) (sa := sa 121) (rest := []) hx hb hlt rd_ok7 hown (by decide +kernel) (by decide +kernel) (by decide +kernel) (rd_site hg hX hSt hS gw_568 gw_423 (by decide +kernel) (by simp [xs_])) (hl.1.trans hml.symm) d_Desk_compile_68 d_Desk_compile_71 d_Desk_compile_72 d_Desk_compile_74 d_Desk_compile_77 hno (Nat.le_of_ble_eq_true rfl) (Nat.le_of_ble_eq_true rfl) (Nat.le_of_ble_eq_true rfl) (Nat.le_of_ble_eq_true rfl) hlocks (fun t ht hz hq => ?_) hS.2.2 (Nat.le_refl _) (Nat.le_refl _)
        have hT := rd_thrown hP hD hK hS ht hz hq
        exact ⟨by rw [← q0.1]; decide +kernel, by rw [← q2.1, ← q3.1, ← q4.1, ← q5.1, ← q6.1, ← q7.1, ← q8.1, ← q9.1, ← q10.1, ← q11.1, ← q12.1, ← q13.1, ← q14.1, ← q14.2]; exact hT⟩
    · rw [if_neg (fun z => z c_6)] at hF
      have e0 := Option.some.inj hF
      have q0 := Prod.mk.inj e0
      have q1 := Prod.mk.inj q0.2
      have q2 := Prod.mk.inj q1.2
      have q3 := Prod.mk.inj q2.2
      have q4 := Prod.mk.inj q3.2
      have q5 := Prod.mk.inj q4.2
      have q6 := Prod.mk.inj q5.2
      have q7 := Prod.mk.inj q6.2
      have q8 := Prod.mk.inj q7.2
      have q9 := Prod.mk.inj q8.2
      have q10 := Prod.mk.inj q9.2
      have q11 := Prod.mk.inj q10.2
      have q12 := Prod.mk.inj q11.2
      have q13 := Prod.mk.inj q12.2
      have q14 := Prod.mk.inj q13.2
      refine rd_throw (own := R_Desk) (cls := xU) (text := "no row of letters comes of the start") (Y0 := xrt_) (names := xnm_) (ix := 7) (bx := rd_bx 7) (ik := 112) (is := 114) (ic := 116) (sa := sa 114) (rest := []) hx hb hlt rd_ok7 hown (by decide +kernel) (by decide +kernel) (by decide +kernel) (rd_site hg hX hSt hS gw_568 gw_423 (by decide +kernel) (by simp [xs_])) (hl.1.trans hml.symm) d_Desk_compile_44 d_Desk_compile_47 d_Desk_compile_48 d_Desk_compile_50 d_Desk_compile_53 hno (Nat.le_of_ble_eq_true rfl) (Nat.le_of_ble_eq_true rfl) (Nat.le_of_ble_eq_true rfl) (Nat.le_of_ble_eq_true rfl) hlocks (fun t ht hz hq => ?_) hS.2.2 (Nat.le_refl _) (Nat.le_refl _)
      have hT := rd_thrown hP hD hK hS ht hz hq
      exact ⟨by rw [← q0.1]; decide +kernel, by rw [← q2.1, ← q3.1, ← q4.1, ← q5.1, ← q6.1, ← q7.1, ← q8.1, ← q9.1, ← q10.1, ← q11.1, ← q12.1, ← q13.1, ← q14.1, ← q14.2]; exact hT⟩
  · rw [if_neg (fun z => z c_4)] at hF
    have e0 := Option.some.inj hF
    have q0 := Prod.mk.inj e0
    have q1 := Prod.mk.inj q0.2
    have q2 := Prod.mk.inj q1.2
    have q3 := Prod.mk.inj q2.2
    have q4 := Prod.mk.inj q3.2
    have q5 := Prod.mk.inj q4.2
    have q6 := Prod.mk.inj q5.2
    have q7 := Prod.mk.inj q6.2
    have q8 := Prod.mk.inj q7.2
    have q9 := Prod.mk.inj q8.2
    have q10 := Prod.mk.inj q9.2
    have q11 := Prod.mk.inj q10.2
    have q12 := Prod.mk.inj q11.2
    have q13 := Prod.mk.inj q12.2
    have q14 := Prod.mk.inj q13.2
    refine rd_throw (own := R_Desk) (cls := xS) (text := "there are no rules") (Y0 := xrt_) (names := xnm_) (ix := 7) (bx := rd_bx 7) (ik := 95) (is := 107) (ic := 99) (sa := sa 107) (rest := []) hx hb hlt rd_ok7 hown (by decide +kernel) (by decide +kernel) (by decide +kernel) (rd_site hg hX hSt hS gw_551 gw_422 (by decide +kernel) (by simp [xs_])) (hl.1.trans hml.symm) d_Desk_compile_24 d_Desk_compile_27 d_Desk_compile_28 d_Desk_compile_30 d_Desk_compile_33 hno (Nat.le_of_ble_eq_true rfl) (Nat.le_of_ble_eq_true rfl) (Nat.le_of_ble_eq_true rfl) (Nat.le_of_ble_eq_true rfl) hlocks (fun t ht hz hq => ?_) hS.2.2 (Nat.le_refl _) (Nat.le_refl _)
    have hT := rd_thrown hP hD hK hS ht hz hq
    exact ⟨by rw [← q0.1]; decide +kernel, by rw [← q2.1, ← q3.1, ← q4.1, ← q5.1, ← q6.1, ← q7.1, ← q8.1, ← q9.1, ← q10.1, ← q11.1, ← q12.1, ← q13.1, ← q14.1, ← q14.2]; exact hT⟩
-- ===== RepairDesk.repair(I)I
abbrev wd_Desk_repair (kA : Nat → ClassId) (a0 a1 a2 a3 a4 a5 a6 a7 a8 a9 a10 a11 a12 a13 a14 a15 a16 a17 a18 a19 a20 : Nat) (v0_0 v3_2 v3_3 v3_4 v3_5 v3_6 v6_0 v6_4 v7_1 : Value) (x2_3 : Int32) (x2_4 : Int32) (x2_5 : Int32) (x4_5 : Int32) (x4_6 : Int32) (x4_7 : Int32) (x6_3 : Int32) (x7_2 : Int32) (f8 : (Nat → Int32)) (f9 : (Nat → Int32)) (f10 : (Nat → Int32)) (f11 : (Nat → Int32)) (f12 : (Nat → Int32)) (f13 : (Nat → Int32)) (f14 : (Nat → Int32)) (f15 : (Nat → Int32)) (f16 : (Nat → Int32)) (f17 : (Nat → Int32)) (f18 : (Nat → Int32)) (f19 : (Nat → Int32)) (f20 : (Nat → Int32)) : va_W := [(a0, .inr (8, [v0_0, .ref a3, .ref a6, .ref a7, .ref a1, .ref a5, .ref a2, .ref a4])), (a1, .inr (0, [.ref a8, .ref a9])), (a2, .inr (1, [.ref a12, .ref a10, .ref a11, .int x2_3, .int x2_4, .int x2_5])), (a3, .inr (2, [.ref a13, .ref a14, v3_2, v3_3, v3_4, v3_5, v3_6])), (a4, .inr (4, [.ref a5, .ref a7, .ref a1, .ref a2, .ref a15, .int x4_5, .int x4_6, .int x4_7])), (a5, .inr (5, [.ref a3, .ref a6, .ref a16, .ref a17])), (a6, .inr (6, [v6_0, .ref a19, .ref a18, .int x6_3, v6_4])), (a7, .inr (7, [.ref a20, v7_1, .int x7_2])), (a8, .inl (kA 0, 6, .inl f8)), (a9, .inl (kA 0, 6, .inl f9)), (a10, .inl (kA 0, 40, .inl f10)), (a11, .inl (kA 0, 40, .inl f11)), (a12, .inl (kA 0, 240, .inl f12)), (a13, .inl (kA 0, 12, .inl f13)), (a14, .inl (kA 0, 12, .inl f14)), (a15, .inl (kA 0, 6, .inl f15)), (a16, .inl (kA 0, 4096, .inl f16)), (a17, .inl (kA 0, 8, .inl f17)), (a18, .inl (kA 0, 280, .inl f18)), (a19, .inl (kA 0, 480, .inl f19)), (a20, .inl (kA 0, 16, .inl f20))]
abbrev rm_Desk_repair : Room := { frames := 28, cells := 1, slots := 6, locals := 731 }
def S_Desk_repair (p1 : Int32) (x2_3 : Int32) (x2_4 : Int32) (x2_5 : Int32) (x4_5 : Int32) (x4_6 : Int32) (x4_7 : Int32) (x6_3 : Int32) (x7_2 : Int32) (f8 : (Nat → Int32)) (f9 : (Nat → Int32)) (f10 : (Nat → Int32)) (f11 : (Nat → Int32)) (f12 : (Nat → Int32)) (f13 : (Nat → Int32)) (f14 : (Nat → Int32)) (f15 : (Nat → Int32)) (f16 : (Nat → Int32)) (f17 : (Nat → Int32)) (f18 : (Nat → Int32)) (f19 : (Nat → Int32)) (f20 : (Nat → Int32)) : Option (Int32 × Int32 × Int32 × Int32 × Int32 × Int32 × Int32 × Int32 × (Nat → Int32) × (Nat → Int32) × (Nat → Int32) × (Nat → Int32) × (Nat → Int32) × (Nat → Int32)) := ((S_Finds_forget x2_3 x2_4 x2_5).bind fun u_1 => ((S_States_stateCount x6_3).bind fun u_2 => (if ¬ u_2 = 0 then (if p1 < 0 then (some (1, 0, u_1.1, u_1.2.1, u_1.2.2, x4_5, x4_6, x4_7, f10, f11, f12, f15, f16, f17)) else (if p1 ≤ 3 then ((S_Search_findBest p1 x4_5 x4_6 x4_7 u_1.1 u_1.2.1 u_1.2.2 f15 x7_2 f8 f9 f10 f11 f12 f16 f17 x6_3 f20 f13 f14 f18 f19).bind fun u_6 => (if ¬ u_6.1 = 0 then ((S_Finds_size u_6.2.2.2.2.1).bind fun u_8 => (some (0, u_8, u_6.2.2.2.2.1, u_6.2.2.2.2.2.1, u_6.2.2.2.2.2.2.1, u_6.2.1, u_6.2.2.1, u_6.2.2.2.1, u_6.2.2.2.2.2.2.2.2.1, u_6.2.2.2.2.2.2.2.2.2.1, u_6.2.2.2.2.2.2.2.2.2.2.1, u_6.2.2.2.2.2.2.2.1, u_6.2.2.2.2.2.2.2.2.2.2.2.1, u_6.2.2.2.2.2.2.2.2.2.2.2.2))) else ((S_Finds_forget u_6.2.2.2.2.1 u_6.2.2.2.2.2.1 u_6.2.2.2.2.2.2.1).bind fun u_9 => (some (3, 0, u_9.1, u_9.2.1, u_9.2.2, u_6.2.1, u_6.2.2.1, u_6.2.2.2.1, u_6.2.2.2.2.2.2.2.2.1, u_6.2.2.2.2.2.2.2.2.2.1, u_6.2.2.2.2.2.2.2.2.2.2.1, u_6.2.2.2.2.2.2.2.1, u_6.2.2.2.2.2.2.2.2.2.2.2.1, u_6.2.2.2.2.2.2.2.2.2.2.2.2))))) else (some (1, 0, u_1.1, u_1.2.1, u_1.2.2, x4_5, x4_6, x4_7, f10, f11, f12, f15, f16, f17)))) else (some (2, 0, u_1.1, u_1.2.1, u_1.2.2, x4_5, x4_6, x4_7, f10, f11, f12, f15, f16, f17)))))
set_option maxHeartbeats 4000000 in
set_option maxRecDepth 100000 in
theorem c_Desk_repair (l : Launch) (hlt : l.stackTraces = false) (dC : Nat → ClassId) (dI : Nat → Nat → Nat) (kA : Nat → ClassId) (sa : Nat → Nat) (sz : Nat) (a0 a1 a2 a3 a4 a5 a6 a7 a8 a9 a10 a11 a12 a13 a14 a15 a16 a17 a18 a19 a20 : Nat) (v0_0 v3_2 v3_3 v3_4 v3_5 v3_6 v6_0 v6_4 v7_1 : Value) (p1 : Int32) (x2_3 : Int32) (x2_4 : Int32) (x2_5 : Int32) (x4_5 : Int32) (x4_6 : Int32) (x4_7 : Int32) (x6_3 : Int32) (x7_2 : Int32) (f8 : (Nat → Int32)) (f9 : (Nat → Int32)) (f10 : (Nat → Int32)) (f11 : (Nat → Int32)) (f12 : (Nat → Int32)) (f13 : (Nat → Int32)) (f14 : (Nat → Int32)) (f15 : (Nat → Int32)) (f16 : (Nat → Int32)) (f17 : (Nat → Int32)) (f18 : (Nat → Int32)) (f19 : (Nat → Int32)) (f20 : (Nat → Int32)) (k r : Int32) (ox2_3 : Int32) (ox2_4 : Int32) (ox2_5 : Int32) (ox4_5 : Int32) (ox4_6 : Int32) (ox4_7 : Int32) (of10 : (Nat → Int32)) (of11 : (Nat → Int32)) (of12 : (Nat → Int32)) (of15 : (Nat → Int32)) (of16 : (Nat → Int32)) (of17 : (Nat → Int32)) (hF : S_Desk_repair p1 x2_3 x2_4 x2_5 x4_5 x4_6 x4_7 x6_3 x7_2 f8 f9 f10 f11 f12 f13 f14 f15 f16 f17 f18 f19 f20 = some (k, r, ox2_3, ox2_4, ox2_5, ox4_5, ox4_6, ox4_7, of10, of11, of12, of15, of16, of17)) : rd_Met l y_Desk_repair w_Desk_repair rm_Desk_repair (va_Pc [.ref a0, .int p1] (fun U => U.heap.size = sz ∧ va_P (dC, dI) classes (wd_Desk_repair kA a0 a1 a2 a3 a4 a5 a6 a7 a8 a9 a10 a11 a12 a13 a14 a15 a16 a17 a18 a19 a20 v0_0 v3_2 v3_3 v3_4 v3_5 v3_6 v6_0 v6_4 v7_1 x2_3 x2_4 x2_5 x4_5 x4_6 x4_7 x6_3 x7_2 f8 f9 f10 f11 f12 f13 f14 f15 f16 f17 f18 f19 f20) U.heap ∧ va_K (dC, dI) classes (tys_ kA) U ∧ va_D (fun _ => True) (wd_Desk_repair kA a0 a1 a2 a3 a4 a5 a6 a7 a8 a9 a10 a11 a12 a13 a14 a15 a16 a17 a18 a19 a20 v0_0 v3_2 v3_3 v3_4 v3_5 v3_6 v6_0 v6_4 v7_1 x2_3 x2_4 x2_5 x4_5 x4_6 x4_7 x6_3 x7_2 f8 f9 f10 f11 f12 f13 f14 f15 f16 f17 f18 f19 f20) ∧ rd_X sa U ∧ rd_St (va_A (wd_Desk_repair kA a0 a1 a2 a3 a4 a5 a6 a7 a8 a9 a10 a11 a12 a13 a14 a15 a16 a17 a18 a19 a20 v0_0 v3_2 v3_3 v3_4 v3_5 v3_6 v6_0 v6_4 v7_1 x2_3 x2_4 x2_5 x4_5 x4_6 x4_7 x6_3 x7_2 f8 f9 f10 f11 f12 f13 f14 f15 f16 f17 f18 f19 f20) sz) U U.heap)) (fun st v t => k = 0 ∧ v = some (.int r) ∧ (va_P (dC, dI) classes (wd_Desk_repair kA a0 a1 a2 a3 a4 a5 a6 a7 a8 a9 a10 a11 a12 a13 a14 a15 a16 a17 a18 a19 a20 v0_0 v3_2 v3_3 v3_4 v3_5 v3_6 v6_0 v6_4 v7_1 ox2_3 ox2_4 ox2_5 ox4_5 ox4_6 ox4_7 x6_3 x7_2 f8 f9 of10 of11 of12 f13 f14 of15 of16 of17 f18 f19 f20) t.heap ∧ va_K (dC, dI) classes (tys_ kA) t ∧ va_D (va_A (wd_Desk_repair kA a0 a1 a2 a3 a4 a5 a6 a7 a8 a9 a10 a11 a12 a13 a14 a15 a16 a17 a18 a19 a20 v0_0 v3_2 v3_3 v3_4 v3_5 v3_6 v6_0 v6_4 v7_1 x2_3 x2_4 x2_5 x4_5 x4_6 x4_7 x6_3 x7_2 f8 f9 f10 f11 f12 f13 f14 f15 f16 f17 f18 f19 f20) sz) (wd_Desk_repair kA a0 a1 a2 a3 a4 a5 a6 a7 a8 a9 a10 a11 a12 a13 a14 a15 a16 a17 a18 a19 a20 v0_0 v3_2 v3_3 v3_4 v3_5 v3_6 v6_0 v6_4 v7_1 ox2_3 ox2_4 ox2_5 ox4_5 ox4_6 ox4_7 x6_3 x7_2 f8 f9 of10 of11 of12 f13 f14 of15 of16 of17 f18 f19 f20)) ∧ va_F (va_A (wd_Desk_repair kA a0 a1 a2 a3 a4 a5 a6 a7 a8 a9 a10 a11 a12 a13 a14 a15 a16 a17 a18 a19 a20 v0_0 v3_2 v3_3 v3_4 v3_5 v3_6 v6_0 v6_4 v7_1 x2_3 x2_4 x2_5 x4_5 x4_6 x4_7 x6_3 x7_2 f8 f9 f10 f11 f12 f13 f14 f15 f16 f17 f18 f19 f20) sz) st t) (fun st E t => (k, E) ∈ xk_ ∧ (va_P (dC, dI) classes (wd_Desk_repair kA a0 a1 a2 a3 a4 a5 a6 a7 a8 a9 a10 a11 a12 a13 a14 a15 a16 a17 a18 a19 a20 v0_0 v3_2 v3_3 v3_4 v3_5 v3_6 v6_0 v6_4 v7_1 ox2_3 ox2_4 ox2_5 ox4_5 ox4_6 ox4_7 x6_3 x7_2 f8 f9 of10 of11 of12 f13 f14 of15 of16 of17 f18 f19 f20) t.heap ∧ va_K (dC, dI) classes (tys_ kA) t ∧ va_D (va_A (wd_Desk_repair kA a0 a1 a2 a3 a4 a5 a6 a7 a8 a9 a10 a11 a12 a13 a14 a15 a16 a17 a18 a19 a20 v0_0 v3_2 v3_3 v3_4 v3_5 v3_6 v6_0 v6_4 v7_1 x2_3 x2_4 x2_5 x4_5 x4_6 x4_7 x6_3 x7_2 f8 f9 f10 f11 f12 f13 f14 f15 f16 f17 f18 f19 f20) sz) (wd_Desk_repair kA a0 a1 a2 a3 a4 a5 a6 a7 a8 a9 a10 a11 a12 a13 a14 a15 a16 a17 a18 a19 a20 v0_0 v3_2 v3_3 v3_4 v3_5 v3_6 v6_0 v6_4 v7_1 ox2_3 ox2_4 ox2_5 ox4_5 ox4_6 ox4_7 x6_3 x7_2 f8 f9 of10 of11 of12 f13 f14 of15 of16 of17 f18 f19 f20)) ∧ va_F (va_A (wd_Desk_repair kA a0 a1 a2 a3 a4 a5 a6 a7 a8 a9 a10 a11 a12 a13 a14 a15 a16 a17 a18 a19 a20 v0_0 v3_2 v3_3 v3_4 v3_5 v3_6 v6_0 v6_4 v7_1 x2_3 x2_4 x2_5 x4_5 x4_6 x4_7 x6_3 x7_2 f8 f9 f10 f11 f12 f13 f14 f15 f16 f17 f18 f19 f20) sz) st t) 1 6 (va_A (wd_Desk_repair kA a0 a1 a2 a3 a4 a5 a6 a7 a8 a9 a10 a11 a12 a13 a14 a15 a16 a17 a18 a19 a20 v0_0 v3_2 v3_3 v3_4 v3_5 v3_6 v6_0 v6_4 v7_1 x2_3 x2_4 x2_5 x4_5 x4_6 x4_7 x6_3 x7_2 f8 f9 f10 f11 f12 f13 f14 f15 f16 f17 f18 f19 f20) sz) := by
  refine rd_ofW (cc := b_Desk_repair) (maxL := 2) (ret := some .int) (by decide) rfl ?_
  intro p e s m args below meth c s₁ B hml hv
  obtain ⟨rfl, hsz, hP, hK, hD0, hX, hSt⟩ := hv
  have hx := B.exec
  have hb := B.bytes
  have hr := B.returns
  have hts := atoms_spec (ws := w_Desk_repair) B.pre
  have hown : s.vm.findClass R_Desk = some m.cls := findClass_of_methodNamed B.named
  have hg := fun (w : Cond) (h : w ∈ gw) => hts w (List.mem_cons_of_mem _ h)
  have hno : ∀ {pc : Nat}, ∀ x ∈ c.exceptionTable.toList, covers x pc = false := rd_noex (B.noHandlers (hts _ List.mem_cons_self))
  have hlocks := B.notSynchronized
  subst hsz
  have hD := hD0.self (sz := s.heap.size)
  generalize hAe : va_A (wd_Desk_repair kA a0 a1 a2 a3 a4 a5 a6 a7 a8 a9 a10 a11 a12 a13 a14 a15 a16 a17 a18 a19 a20 v0_0 v3_2 v3_3 v3_4 v3_5 v3_6 v6_0 v6_4 v7_1 x2_3 x2_4 x2_5 x4_5 x4_6 x4_7 x6_3 x7_2 f8 f9 f10 f11 f12 f13 f14 f15 f16 f17 f18 f19 f20) s.heap.size = A at hD hSt ⊢
  have hA : ∀ q : Nat, s.heap.size ≤ q → A q := fun q h => by rw [← hAe]; exact Or.inr h
  have hS : va_S A s.heap s.heap [] := va_S.rf
  have hl := lv_entry ([.ref a0, .int p1]) (n := 2) (Nat.le_of_ble_eq_true rfl)
  rw [lg_entry_eq]
  generalize (lg_sl ([.ref a0, .int p1]) ++ List.replicate (2 - (lg_sl ([.ref a0, .int p1])).length) Slot.unset).toArray = ls at hl ⊢
  have hl : lv_has ls 2 [(0, .ref a0), (1, .int p1)] := hl
  unfold S_Desk_repair at hF
  refine lv_aload_n hx hb d_Desk_repair_0 rfl (lv_at hl 0 rfl) ?_
  refine va_get (D := (dC, dI)) (ci := 8) (v := .ref a2) (C := R_Desk) (T := F_Desk) (N := 8) hx hb hg iw_Desk hown hK hP 0 rfl rfl 6 (by decide) (hg _ gw_409) (fun _ h9 => h9) rfl d_Desk_repair_1 ?_
  obtain ⟨u_1, hS_1, hF⟩ := rd_bind hF
  have hPc := hP.sub (ws' := (wd_Finds_forget kA a2 (.ref a12) (.ref a10) (.ref a11) x2_3 x2_4 x2_5)) [2] rfl
  have hDc := hD.sub (ws' := (wd_Finds_forget kA a2 (.ref a12) (.ref a10) (.ref a11) x2_3 x2_4 x2_5)) [2] (by decide) rfl
  have hFc := va_free (wc := (wd_Finds_forget kA a2 (.ref a12) (.ref a10) (.ref a11) x2_3 x2_4 x2_5)) hD hS hA [2] rfl
  refine va_callv (va_runV (As := []) (rest := []) ⟨hx, hb, hml, hown, hts⟩ (c_Finds_forget l dC dI kA s.heap.size a2 (.ref a12) (.ref a10) (.ref a11) x2_3 x2_4 x2_5 u_1.1 u_1.2.1 u_1.2.2 hS_1) (cwV 0 hts (gw_V gw_553 gw_554 gw_555 gw_11 gw_556) rfl rfl rfl (by decide +kernel) ⟨Nat.le_of_ble_eq_true rfl, Nat.le_of_ble_eq_true rfl⟩) ⟨fun a U g mk q => by obtain ⟨q0, q1, qP, qK, qD⟩ := q; exact ⟨q0, q1, qP, va_K.moved (u := U) (U := U.calling g mk a) (Vm.Alike.refl U.vm) qK, qD⟩, va_recv hK hP (ci := 1) (q0 := 2) rfl rfl, fun U hU hW => ⟨rfl, by rw [hU], by rw [hU]; exact hPc, va_K.moved hW.alike hK, hDc.weaken (fun _ _ _ _ => trivial)⟩⟩ rfl rfl hl.1 rfl (lv_room (Nat.le_of_ble_eq_true rfl)) d_Desk_repair_4 ⟨Nat.zero_le _, Nat.zero_le _⟩) hS (fun q _ h => hFc q h) hFc (fun u t H1 locs ht hvm hw hB hz1 hk1 hS => ?_)
  obtain ⟨hP1, hK1, hD1⟩ := hB
  rw [ht] at hP1
  obtain ⟨hP, hD⟩ := va_join (wr := [(a0, .inr (8, [v0_0, .ref a3, .ref a6, .ref a7, .ref a1, .ref a5, .ref a2, .ref a4])), (a1, .inr (0, [.ref a8, .ref a9])), (a3, .inr (2, [.ref a13, .ref a14, v3_2, v3_3, v3_4, v3_5, v3_6])), (a4, .inr (4, [.ref a5, .ref a7, .ref a1, .ref a2, .ref a15, .int x4_5, .int x4_6, .int x4_7])), (a5, .inr (5, [.ref a3, .ref a6, .ref a16, .ref a17])), (a6, .inr (6, [v6_0, .ref a19, .ref a18, .int x6_3, v6_4])), (a7, .inr (7, [.ref a20, v7_1, .int x7_2])), (a8, .inl (kA 0, 6, .inl f8)), (a9, .inl (kA 0, 6, .inl f9)), (a10, .inl (kA 0, 40, .inl f10)), (a11, .inl (kA 0, 40, .inl f11)), (a12, .inl (kA 0, 240, .inl f12)), (a13, .inl (kA 0, 12, .inl f13)), (a14, .inl (kA 0, 12, .inl f14)), (a15, .inl (kA 0, 6, .inl f15)), (a16, .inl (kA 0, 4096, .inl f16)), (a17, .inl (kA 0, 8, .inl f17)), (a18, .inl (kA 0, 280, .inl f18)), (a19, .inl (kA 0, 480, .inl f19)), (a20, .inl (kA 0, 16, .inl f20))]) (w1 := (wd_Finds_forget kA a2 (.ref a12) (.ref a10) (.ref a11) u_1.1 u_1.2.1 u_1.2.2)) hP hD [2] [0, 1, 3, 4, 5, 6, 7, 8, 9, 10, 11, 12, 13, 14, 15, 16, 17, 18, 19, 20] rfl rfl (by decide) (by decide) hk1 hFc hP1 hD1
  have hP := hP.sub (ws' := (wd_Desk_repair kA a0 a1 a2 a3 a4 a5 a6 a7 a8 a9 a10 a11 a12 a13 a14 a15 a16 a17 a18 a19 a20 v0_0 v3_2 v3_3 v3_4 v3_5 v3_6 v6_0 v6_4 v7_1 u_1.1 u_1.2.1 u_1.2.2 x4_5 x4_6 x4_7 x6_3 x7_2 f8 f9 f10 f11 f12 f13 f14 f15 f16 f17 f18 f19 f20)) [0, 1, 20, 2, 3, 4, 5, 6, 7, 8, 9, 10, 11, 12, 13, 14, 15, 16, 17, 18, 19] rfl
  have hD := hD.sub (ws' := (wd_Desk_repair kA a0 a1 a2 a3 a4 a5 a6 a7 a8 a9 a10 a11 a12 a13 a14 a15 a16 a17 a18 a19 a20 v0_0 v3_2 v3_3 v3_4 v3_5 v3_6 v6_0 v6_4 v7_1 u_1.1 u_1.2.1 u_1.2.2 x4_5 x4_6 x4_7 x6_3 x7_2 f8 f9 f10 f11 f12 f13 f14 f15 f16 f17 f18 f19 f20)) [0, 1, 20, 2, 3, 4, 5, 6, 7, 8, 9, 10, 11, 12, 13, 14, 15, 16, 17, 18, 19] (by decide) rfl
  clear hPc hDc hFc hP1 hK1 hD1
  generalize H1 = H at hP hS ⊢
  refine lv_aload_n hx hb d_Desk_repair_7 rfl (lv_at hl 0 rfl) ?_
  refine va_get (D := (dC, dI)) (ci := 8) (v := .ref a6) (C := R_Desk) (T := F_Desk) (N := 8) hx hb hg iw_Desk hown hK hP 0 rfl rfl 2 (by decide) (hg _ gw_387) (fun _ h9 => h9) rfl d_Desk_repair_8 ?_
  obtain ⟨u_2, hS_2, hF⟩ := rd_bind hF
  have hPc := hP.sub (ws' := (wd_States_stateCount kA a6 v6_0 (.ref a19) (.ref a18) v6_4 x6_3)) [6] rfl
  have hDc := hD.sub (ws' := (wd_States_stateCount kA a6 v6_0 (.ref a19) (.ref a18) v6_4 x6_3)) [6] (by decide) rfl
  have hFc := va_free (wc := (wd_States_stateCount kA a6 v6_0 (.ref a19) (.ref a18) v6_4 x6_3)) hD hS hA [6] rfl
  refine va_calli (va_runV (As := []) (rest := []) ⟨hx, hb, hml, hown, hts⟩ (c_States_stateCount l dC dI kA H.size a6 v6_0 (.ref a19) (.ref a18) v6_4 x6_3 u_2 hS_2) (cwV 0 hts (gw_V gw_517 gw_518 gw_519 gw_91 gw_520) rfl rfl rfl (by decide +kernel) ⟨Nat.le_of_ble_eq_true rfl, Nat.le_of_ble_eq_true rfl⟩) ⟨fun a U g mk q => by obtain ⟨q0, q1, qP, qK, qD⟩ := q; exact ⟨q0, q1, qP, va_K.moved (u := U) (U := U.calling g mk a) (Vm.Alike.refl U.vm) qK, qD⟩, va_recv hK hP (ci := 6) (q0 := 6) rfl rfl, fun U hU hW => ⟨rfl, by rw [hU], by rw [hU]; exact hPc, va_K.moved hW.alike hK, hDc.weaken (fun _ _ _ _ => trivial)⟩⟩ rfl rfl hl.1 rfl (lv_room (Nat.le_of_ble_eq_true rfl)) d_Desk_repair_11 ⟨Nat.zero_le _, Nat.zero_le _⟩) hS (fun q _ h => hFc q h) hFc (fun r1 u t H1 locs ht hvm hw hB hz1 hk1 hS => ?_)
  rw [show r1 = _ from hw]
  obtain ⟨hP1, hK1, hD1⟩ := hB
  rw [ht] at hP1
  obtain ⟨hP, hD⟩ := va_join (wr := [(a0, .inr (8, [v0_0, .ref a3, .ref a6, .ref a7, .ref a1, .ref a5, .ref a2, .ref a4])), (a1, .inr (0, [.ref a8, .ref a9])), (a2, .inr (1, [.ref a12, .ref a10, .ref a11, .int u_1.1, .int u_1.2.1, .int u_1.2.2])), (a3, .inr (2, [.ref a13, .ref a14, v3_2, v3_3, v3_4, v3_5, v3_6])), (a4, .inr (4, [.ref a5, .ref a7, .ref a1, .ref a2, .ref a15, .int x4_5, .int x4_6, .int x4_7])), (a5, .inr (5, [.ref a3, .ref a6, .ref a16, .ref a17])), (a7, .inr (7, [.ref a20, v7_1, .int x7_2])), (a8, .inl (kA 0, 6, .inl f8)), (a9, .inl (kA 0, 6, .inl f9)), (a10, .inl (kA 0, 40, .inl f10)), (a11, .inl (kA 0, 40, .inl f11)), (a12, .inl (kA 0, 240, .inl f12)), (a13, .inl (kA 0, 12, .inl f13)), (a14, .inl (kA 0, 12, .inl f14)), (a15, .inl (kA 0, 6, .inl f15)), (a16, .inl (kA 0, 4096, .inl f16)), (a17, .inl (kA 0, 8, .inl f17)), (a18, .inl (kA 0, 280, .inl f18)), (a19, .inl (kA 0, 480, .inl f19)), (a20, .inl (kA 0, 16, .inl f20))]) (w1 := (wd_States_stateCount kA a6 v6_0 (.ref a19) (.ref a18) v6_4 x6_3)) hP hD [6] [0, 1, 2, 3, 4, 5, 7, 8, 9, 10, 11, 12, 13, 14, 15, 16, 17, 18, 19, 20] rfl rfl (by decide) (by decide) hk1 hFc hP1 hD1
  have hP := hP.sub (ws' := (wd_Desk_repair kA a0 a1 a2 a3 a4 a5 a6 a7 a8 a9 a10 a11 a12 a13 a14 a15 a16 a17 a18 a19 a20 v0_0 v3_2 v3_3 v3_4 v3_5 v3_6 v6_0 v6_4 v7_1 u_1.1 u_1.2.1 u_1.2.2 x4_5 x4_6 x4_7 x6_3 x7_2 f8 f9 f10 f11 f12 f13 f14 f15 f16 f17 f18 f19 f20)) [0, 1, 2, 3, 4, 5, 20, 6, 7, 8, 9, 10, 11, 12, 13, 14, 15, 16, 17, 18, 19] rfl
  have hD := hD.sub (ws' := (wd_Desk_repair kA a0 a1 a2 a3 a4 a5 a6 a7 a8 a9 a10 a11 a12 a13 a14 a15 a16 a17 a18 a19 a20 v0_0 v3_2 v3_3 v3_4 v3_5 v3_6 v6_0 v6_4 v7_1 u_1.1 u_1.2.1 u_1.2.2 x4_5 x4_6 x4_7 x6_3 x7_2 f8 f9 f10 f11 f12 f13 f14 f15 f16 f17 f18 f19 f20)) [0, 1, 2, 3, 4, 5, 20, 6, 7, 8, 9, 10, 11, 12, 13, 14, 15, 16, 17, 18, 19] (by decide) rfl
  clear hPc hDc hFc hP1 hK1 hD1
  generalize H1 = H at hP hS ⊢
  refine lv_if_ne (tgt := 27) hx hb d_Desk_repair_14 (by decide) (fun c_3 => ?_) (fun c_3 => ?_)
  · rw [if_pos c_3] at hF
    refine lv_iload_n hx hb d_Desk_repair_27 rfl (lv_at hl 1 rfl) ?_
    refine lv_if_lt (tgt := 36) hx hb d_Desk_repair_28 (by decide) (fun c_4 => ?_) (fun c_4 => ?_)
    · rw [if_pos c_4] at hF
      have e0 := Option.some.inj hF
      have q0 := Prod.mk.inj e0
      have q1 := Prod.mk.inj q0.2
      have q2 := Prod.mk.inj q1.2
      have q3 := Prod.mk.inj q2.2
      have q4 := Prod.mk.inj q3.2
      have q5 := Prod.mk.inj q4.2
      have q6 := Prod.mk.inj q5.2
      have q7 := Prod.mk.inj q6.2
      have q8 := Prod.mk.inj q7.2
      have q9 := Prod.mk.inj q8.2
      have q10 := Prod.mk.inj q9.2
      have q11 := Prod.mk.inj q10.2
      have q12 := Prod.mk.inj q11.2
      refine rd_throw (own := R_Desk) (cls := xI) (text := "the guard is not 0 .. 3") (Y0 := xrt_) (names := xnm_) (ix := 7) (bx := rd_bx 7) (ik := 84) (is := 144) (ic := 88) (sa := sa 144) (rest := []) hx hb hlt rd_ok7 hown (by decide +kernel) (by decide +kernel) (by decide +kernel) (rd_site hg hX hSt hS gw_545 gw_421 (by decide +kernel) (by simp [xs_])) (hl.1.trans hml.symm) d_Desk_repair_36 d_Desk_repair_39 d_Desk_repair_40 d_Desk_repair_42 d_Desk_repair_45 hno (Nat.le_of_ble_eq_true rfl) (Nat.le_of_ble_eq_true rfl) (Nat.le_of_ble_eq_true rfl) (Nat.le_of_ble_eq_true rfl) hlocks (fun t ht hz hq => ?_) hS.2.2 (Nat.le_refl _) (Nat.le_refl _)
      have hT := rd_thrown hP hD hK hS ht hz hq
      exact ⟨by rw [← q0.1]; decide +kernel, by rw [← q2.1, ← q3.1, ← q4.1, ← q5.1, ← q6.1, ← q7.1, ← q8.1, ← q9.1, ← q10.1, ← q11.1, ← q12.1, ← q12.2]; exact hT⟩
    · rw [if_neg c_4] at hF
      refine lv_iload_n hx hb d_Desk_repair_31 rfl (lv_at hl 1 rfl) ?_
      refine lv_iconst (v := 3) hx hb d_Desk_repair_32 (by decide) ?_
      refine lv_icmp_le (tgt := 46) hx hb d_Desk_repair_33 (by decide) (fun c_5 => ?_) (fun c_5 => ?_)
      · rw [if_pos c_5] at hF
        refine lv_aload_n hx hb d_Desk_repair_46 rfl (lv_at hl 0 rfl) ?_
        refine va_get (D := (dC, dI)) (ci := 8) (v := .ref a4) (C := R_Desk) (T := F_Desk) (N := 8) hx hb hg iw_Desk hown hK hP 0 rfl rfl 7 (by decide) (hg _ gw_415) (fun _ h9 => h9) rfl d_Desk_repair_47 ?_
        refine lv_iload_n hx hb d_Desk_repair_50 rfl (lv_at hl 1 rfl) ?_
        obtain ⟨u_6, hS_6, hF⟩ := rd_bind hF
        have hPc := hP.sub (ws' := (wd_Search_findBest kA a4 a1 a2 a15 a5 a7 a8 a9 a10 a11 a12 a16 a3 a17 a6 a20 a13 a14 a18 a19 v7_1 v3_2 v3_3 v3_4 v3_5 v3_6 v6_0 v6_4 x4_5 x4_6 x4_7 u_1.1 u_1.2.1 u_1.2.2 f15 x7_2 f8 f9 f10 f11 f12 f16 f17 x6_3 f20 f13 f14 f18 f19)) [4, 1, 2, 15, 5, 7, 8, 9, 10, 11, 12, 16, 3, 17, 6, 20, 13, 14, 18, 19] rfl
        have hDc := hD.sub (ws' := (wd_Search_findBest kA a4 a1 a2 a15 a5 a7 a8 a9 a10 a11 a12 a16 a3 a17 a6 a20 a13 a14 a18 a19 v7_1 v3_2 v3_3 v3_4 v3_5 v3_6 v6_0 v6_4 x4_5 x4_6 x4_7 u_1.1 u_1.2.1 u_1.2.2 f15 x7_2 f8 f9 f10 f11 f12 f16 f17 x6_3 f20 f13 f14 f18 f19)) [4, 1, 2, 15, 5, 7, 8, 9, 10, 11, 12, 16, 3, 17, 6, 20, 13, 14, 18, 19] (by decide) rfl
        have hFc := va_free (wc := (wd_Search_findBest kA a4 a1 a2 a15 a5 a7 a8 a9 a10 a11 a12 a16 a3 a17 a6 a20 a13 a14 a18 a19 v7_1 v3_2 v3_3 v3_4 v3_5 v3_6 v6_0 v6_4 x4_5 x4_6 x4_7 u_1.1 u_1.2.1 u_1.2.2 f15 x7_2 f8 f9 f10 f11 f12 f16 f17 x6_3 f20 f13 f14 f18 f19)) hD hS hA [4, 1, 2, 15, 5, 7, 8, 9, 10, 11, 12, 16, 3, 17, 6, 20, 13, 14, 18, 19] rfl
        refine va_calli (va_runV (As := [.int p1]) (rest := []) ⟨hx, hb, hml, hown, hts⟩ (c_Search_findBest l dC dI kA H.size a4 a1 a2 a15 a5 a7 a8 a9 a10 a11 a12 a16 a3 a17 a6 a20 a13 a14 a18 a19 v7_1 v3_2 v3_3 v3_4 v3_5 v3_6 v6_0 v6_4 p1 x4_5 x4_6 x4_7 u_1.1 u_1.2.1 u_1.2.2 f15 x7_2 f8 f9 f10 f11 f12 f16 f17 x6_3 f20 f13 f14 f18 f19 u_6.1 u_6.2.1 u_6.2.2.1 u_6.2.2.2.1 u_6.2.2.2.2.1 u_6.2.2.2.2.2.1 u_6.2.2.2.2.2.2.1 u_6.2.2.2.2.2.2.2.1 u_6.2.2.2.2.2.2.2.2.1 u_6.2.2.2.2.2.2.2.2.2.1 u_6.2.2.2.2.2.2.2.2.2.2.1 u_6.2.2.2.2.2.2.2.2.2.2.2.1 u_6.2.2.2.2.2.2.2.2.2.2.2.2 hS_6) (cwV 1 hts (gw_V gw_597 gw_598 gw_599 gw_155 gw_600) rfl rfl rfl (by decide +kernel) ⟨Nat.le_of_ble_eq_true rfl, Nat.le_of_ble_eq_true rfl⟩) ⟨fun a U g mk q => by obtain ⟨q0, q1, qP, qK, qD⟩ := q; exact ⟨q0, q1, qP, va_K.moved (u := U) (U := U.calling g mk a) (Vm.Alike.refl U.vm) qK, qD⟩, va_recv hK hP (ci := 4) (q0 := 4) rfl rfl, fun U hU hW => ⟨rfl, by rw [hU], by rw [hU]; exact hPc, va_K.moved hW.alike hK, hDc.weaken (fun _ _ _ _ => trivial)⟩⟩ rfl rfl hl.1 rfl (lv_room (Nat.le_of_ble_eq_true rfl)) d_Desk_repair_51 ⟨Nat.zero_le _, Nat.zero_le _⟩) hS (fun q _ h => hFc q h) hFc (fun r1 u t H1 locs ht hvm hw hB hz1 hk1 hS => ?_)
        rw [show r1 = _ from hw]
        obtain ⟨hP1, hK1, hD1⟩ := hB
        rw [ht] at hP1
        obtain ⟨hP, hD⟩ := va_join (wr := [(a0, .inr (8, [v0_0, .ref a3, .ref a6, .ref a7, .ref a1, .ref a5, .ref a2, .ref a4]))]) (w1 := (wd_Search_findBest kA a4 a1 a2 a15 a5 a7 a8 a9 a10 a11 a12 a16 a3 a17 a6 a20 a13 a14 a18 a19 v7_1 v3_2 v3_3 v3_4 v3_5 v3_6 v6_0 v6_4 u_6.2.1 u_6.2.2.1 u_6.2.2.2.1 u_6.2.2.2.2.1 u_6.2.2.2.2.2.1 u_6.2.2.2.2.2.2.1 u_6.2.2.2.2.2.2.2.1 x7_2 f8 f9 u_6.2.2.2.2.2.2.2.2.1 u_6.2.2.2.2.2.2.2.2.2.1 u_6.2.2.2.2.2.2.2.2.2.2.1 u_6.2.2.2.2.2.2.2.2.2.2.2.1 u_6.2.2.2.2.2.2.2.2.2.2.2.2 x6_3 f20 f13 f14 f18 f19)) hP hD [4, 1, 2, 15, 5, 7, 8, 9, 10, 11, 12, 16, 3, 17, 6, 20, 13, 14, 18, 19] [0] rfl rfl (by decide) (by decide) hk1 hFc hP1 hD1
        have hP := hP.sub (ws' := (wd_Desk_repair kA a0 a1 a2 a3 a4 a5 a6 a7 a8 a9 a10 a11 a12 a13 a14 a15 a16 a17 a18 a19 a20 v0_0 v3_2 v3_3 v3_4 v3_5 v3_6 v6_0 v6_4 v7_1 u_6.2.2.2.2.1 u_6.2.2.2.2.2.1 u_6.2.2.2.2.2.2.1 u_6.2.1 u_6.2.2.1 u_6.2.2.2.1 x6_3 x7_2 f8 f9 u_6.2.2.2.2.2.2.2.2.1 u_6.2.2.2.2.2.2.2.2.2.1 u_6.2.2.2.2.2.2.2.2.2.2.1 f13 f14 u_6.2.2.2.2.2.2.2.1 u_6.2.2.2.2.2.2.2.2.2.2.2.1 u_6.2.2.2.2.2.2.2.2.2.2.2.2 f18 f19 f20)) [0, 2, 3, 13, 1, 5, 15, 6, 7, 8, 9, 10, 11, 17, 18, 4, 12, 14, 19, 20, 16] rfl
        have hD := hD.sub (ws' := (wd_Desk_repair kA a0 a1 a2 a3 a4 a5 a6 a7 a8 a9 a10 a11 a12 a13 a14 a15 a16 a17 a18 a19 a20 v0_0 v3_2 v3_3 v3_4 v3_5 v3_6 v6_0 v6_4 v7_1 u_6.2.2.2.2.1 u_6.2.2.2.2.2.1 u_6.2.2.2.2.2.2.1 u_6.2.1 u_6.2.2.1 u_6.2.2.2.1 x6_3 x7_2 f8 f9 u_6.2.2.2.2.2.2.2.2.1 u_6.2.2.2.2.2.2.2.2.2.1 u_6.2.2.2.2.2.2.2.2.2.2.1 f13 f14 u_6.2.2.2.2.2.2.2.1 u_6.2.2.2.2.2.2.2.2.2.2.2.1 u_6.2.2.2.2.2.2.2.2.2.2.2.2 f18 f19 f20)) [0, 2, 3, 13, 1, 5, 15, 6, 7, 8, 9, 10, 11, 17, 18, 4, 12, 14, 19, 20, 16] (by decide) rfl
        clear hPc hDc hFc hP1 hK1 hD1
        generalize H1 = H at hP hS ⊢
        refine lv_if_ne (tgt := 74) hx hb d_Desk_repair_54 (by decide) (fun c_7 => ?_) (fun c_7 => ?_)
        · rw [if_pos c_7] at hF
          refine lv_aload_n hx hb d_Desk_repair_74 rfl (lv_at hl 0 rfl) ?_
          refine va_get (D := (dC, dI)) (ci := 8) (v := .ref a2) (C := R_Desk) (T := F_Desk) (N := 8) hx hb hg iw_Desk hown hK hP 0 rfl rfl 6 (by decide) (hg _ gw_409) (fun _ h9 => h9) rfl d_Desk_repair_75 ?_
          obtain ⟨u_8, hS_8, hF⟩ := rd_bind hF
          have hPc := hP.sub (ws' := (wd_Finds_size kA a2 (.ref a12) (.ref a10) (.ref a11) (.int u_6.2.2.2.2.2.1) (.int u_6.2.2.2.2.2.2.1) u_6.2.2.2.2.1)) [2] rfl
          have hDc := hD.sub (ws' := (wd_Finds_size kA a2 (.ref a12) (.ref a10) (.ref a11) (.int u_6.2.2.2.2.2.1) (.int u_6.2.2.2.2.2.2.1) u_6.2.2.2.2.1)) [2] (by decide) rfl
          have hFc := va_free (wc := (wd_Finds_size kA a2 (.ref a12) (.ref a10) (.ref a11) (.int u_6.2.2.2.2.2.1) (.int u_6.2.2.2.2.2.2.1) u_6.2.2.2.2.1)) hD hS hA [2] rfl
          refine va_calli (va_runV (As := []) (rest := []) ⟨hx, hb, hml, hown, hts⟩ (c_Finds_size l dC dI kA H.size a2 (.ref a12) (.ref a10) (.ref a11) (.int u_6.2.2.2.2.2.1) (.int u_6.2.2.2.2.2.2.1) u_6.2.2.2.2.1 u_8 hS_8) (cwV 0 hts (gw_V gw_601 gw_176 gw_177 gw_11 gw_178) rfl rfl rfl (by decide +kernel) ⟨Nat.le_of_ble_eq_true rfl, Nat.le_of_ble_eq_true rfl⟩) ⟨fun a U g mk q => by obtain ⟨q0, q1, qP, qK, qD⟩ := q; exact ⟨q0, q1, qP, va_K.moved (u := U) (U := U.calling g mk a) (Vm.Alike.refl U.vm) qK, qD⟩, va_recv hK hP (ci := 1) (q0 := 2) rfl rfl, fun U hU hW => ⟨rfl, by rw [hU], by rw [hU]; exact hPc, va_K.moved hW.alike hK, hDc.weaken (fun _ _ _ _ => trivial)⟩⟩ rfl rfl hl.1 rfl (lv_room (Nat.le_of_ble_eq_true rfl)) d_Desk_repair_78 ⟨Nat.zero_le _, Nat.zero_le _⟩) hS (fun q _ h => hFc q h) hFc (fun r1 u t H1 locs ht hvm hw hB hz1 hk1 hS => ?_)
          rw [show r1 = _ from hw]
          obtain ⟨hP1, hK1, hD1⟩ := hB
          rw [ht] at hP1
          obtain ⟨hP, hD⟩ := va_join (wr := [(a0, .inr (8, [v0_0, .ref a3, .ref a6, .ref a7, .ref a1, .ref a5, .ref a2, .ref a4])), (a1, .inr (0, [.ref a8, .ref a9])), (a3, .inr (2, [.ref a13, .ref a14, v3_2, v3_3, v3_4, v3_5, v3_6])), (a4, .inr (4, [.ref a5, .ref a7, .ref a1, .ref a2, .ref a15, .int u_6.2.1, .int u_6.2.2.1, .int u_6.2.2.2.1])), (a5, .inr (5, [.ref a3, .ref a6, .ref a16, .ref a17])), (a6, .inr (6, [v6_0, .ref a19, .ref a18, .int x6_3, v6_4])), (a7, .inr (7, [.ref a20, v7_1, .int x7_2])), (a8, .inl (kA 0, 6, .inl f8)), (a9, .inl (kA 0, 6, .inl f9)), (a10, .inl (kA 0, 40, .inl u_6.2.2.2.2.2.2.2.2.1)), (a11, .inl (kA 0, 40, .inl u_6.2.2.2.2.2.2.2.2.2.1)), (a12, .inl (kA 0, 240, .inl u_6.2.2.2.2.2.2.2.2.2.2.1)), (a13, .inl (kA 0, 12, .inl f13)), (a14, .inl (kA 0, 12, .inl f14)), (a15, .inl (kA 0, 6, .inl u_6.2.2.2.2.2.2.2.1)), (a16, .inl (kA 0, 4096, .inl u_6.2.2.2.2.2.2.2.2.2.2.2.1)), (a17, .inl (kA 0, 8, .inl u_6.2.2.2.2.2.2.2.2.2.2.2.2)), (a18, .inl (kA 0, 280, .inl f18)), (a19, .inl (kA 0, 480, .inl f19)), (a20, .inl (kA 0, 16, .inl f20))]) (w1 := (wd_Finds_size kA a2 (.ref a12) (.ref a10) (.ref a11) (.int u_6.2.2.2.2.2.1) (.int u_6.2.2.2.2.2.2.1) u_6.2.2.2.2.1)) hP hD [2] [0, 1, 3, 4, 5, 6, 7, 8, 9, 10, 11, 12, 13, 14, 15, 16, 17, 18, 19, 20] rfl rfl (by decide) (by decide) hk1 hFc hP1 hD1
          have hP := hP.sub (ws' := (wd_Desk_repair kA a0 a1 a2 a3 a4 a5 a6 a7 a8 a9 a10 a11 a12 a13 a14 a15 a16 a17 a18 a19 a20 v0_0 v3_2 v3_3 v3_4 v3_5 v3_6 v6_0 v6_4 v7_1 u_6.2.2.2.2.1 u_6.2.2.2.2.2.1 u_6.2.2.2.2.2.2.1 u_6.2.1 u_6.2.2.1 u_6.2.2.2.1 x6_3 x7_2 f8 f9 u_6.2.2.2.2.2.2.2.2.1 u_6.2.2.2.2.2.2.2.2.2.1 u_6.2.2.2.2.2.2.2.2.2.2.1 f13 f14 u_6.2.2.2.2.2.2.2.1 u_6.2.2.2.2.2.2.2.2.2.2.2.1 u_6.2.2.2.2.2.2.2.2.2.2.2.2 f18 f19 f20)) [0, 1, 20, 2, 3, 4, 5, 6, 7, 8, 9, 10, 11, 12, 13, 14, 15, 16, 17, 18, 19] rfl
          have hD := hD.sub (ws' := (wd_Desk_repair kA a0 a1 a2 a3 a4 a5 a6 a7 a8 a9 a10 a11 a12 a13 a14 a15 a16 a17 a18 a19 a20 v0_0 v3_2 v3_3 v3_4 v3_5 v3_6 v6_0 v6_4 v7_1 u_6.2.2.2.2.1 u_6.2.2.2.2.2.1 u_6.2.2.2.2.2.2.1 u_6.2.1 u_6.2.2.1 u_6.2.2.2.1 x6_3 x7_2 f8 f9 u_6.2.2.2.2.2.2.2.2.1 u_6.2.2.2.2.2.2.2.2.2.1 u_6.2.2.2.2.2.2.2.2.2.2.1 f13 f14 u_6.2.2.2.2.2.2.2.1 u_6.2.2.2.2.2.2.2.2.2.2.2.1 u_6.2.2.2.2.2.2.2.2.2.2.2.2 f18 f19 f20)) [0, 1, 20, 2, 3, 4, 5, 6, 7, 8, 9, 10, 11, 12, 13, 14, 15, 16, 17, 18, 19] (by decide) rfl
          clear hPc hDc hFc hP1 hK1 hD1
          generalize H1 = H at hP hS ⊢
          have e0 := Option.some.inj hF
          have q0 := Prod.mk.inj e0
          have q1 := Prod.mk.inj q0.2
          have q2 := Prod.mk.inj q1.2
          have q3 := Prod.mk.inj q2.2
          have q4 := Prod.mk.inj q3.2
          have q5 := Prod.mk.inj q4.2
          have q6 := Prod.mk.inj q5.2
          have q7 := Prod.mk.inj q6.2
          have q8 := Prod.mk.inj q7.2
          have q9 := Prod.mk.inj q8.2
          have q10 := Prod.mk.inj q9.2
          have q11 := Prod.mk.inj q10.2
          have q12 := Prod.mk.inj q11.2
          refine W.widen (k := 1) (n := 6) (Nat.zero_le _) (Nat.zero_le _) ?_
          refine rd_mono (rd_back (Qc := va_Qi (fun (r1 : Int32) (_ : Unit) => r1 = r) (fun _ t => va_P (dC, dI) classes (wd_Desk_repair kA a0 a1 a2 a3 a4 a5 a6 a7 a8 a9 a10 a11 a12 a13 a14 a15 a16 a17 a18 a19 a20 v0_0 v3_2 v3_3 v3_4 v3_5 v3_6 v6_0 v6_4 v7_1 ox2_3 ox2_4 ox2_5 ox4_5 ox4_6 ox4_7 x6_3 x7_2 f8 f9 of10 of11 of12 f13 f14 of15 of16 of17 f18 f19 f20) t.heap ∧ va_K (dC, dI) classes (tys_ kA) t ∧ va_D A (wd_Desk_repair kA a0 a1 a2 a3 a4 a5 a6 a7 a8 a9 a10 a11 a12 a13 a14 a15 a16 a17 a18 a19 a20 v0_0 v3_2 v3_3 v3_4 v3_5 v3_6 v6_0 v6_4 v7_1 ox2_3 ox2_4 ox2_5 ox4_5 ox4_6 ox4_7 x6_3 x7_2 f8 f9 of10 of11 of12 f13 f14 of15 of16 of17 f18 f19 f20)) A) (fun v t q => rd_retx q0.1 q)) ?_
          exact W.iret (v := u_8) hx hb hr (fun t ht hW => ⟨⟨u_8, (), rfl, q1.1, by rw [ht, ← q2.1, ← q3.1, ← q4.1, ← q5.1, ← q6.1, ← q7.1, ← q8.1, ← q9.1, ← q10.1, ← q11.1, ← q12.1, ← q12.2]; exact hP, va_K.moved hW.alike hK, (by rw [← q2.1, ← q3.1, ← q4.1, ← q5.1, ← q6.1, ← q7.1, ← q8.1, ← q9.1, ← q10.1, ← q11.1, ← q12.1, ← q12.2]; exact hD)⟩, hS.F ht⟩) hS.2.2 d_Desk_repair_81 hlocks
        · rw [if_neg (fun z => z c_7)] at hF
          refine lv_aload_n hx hb d_Desk_repair_57 rfl (lv_at hl 0 rfl) ?_
          refine va_get (D := (dC, dI)) (ci := 8) (v := .ref a2) (C := R_Desk) (T := F_Desk) (N := 8) hx hb hg iw_Desk hown hK hP 0 rfl rfl 6 (by decide) (hg _ gw_409) (fun _ h9 => h9) rfl d_Desk_repair_58 ?_
          obtain ⟨u_9, hS_9, hF⟩ := rd_bind hF
          have hPc := hP.sub (ws' := (wd_Finds_forget kA a2 (.ref a12) (.ref a10) (.ref a11) u_6.2.2.2.2.1 u_6.2.2.2.2.2.1 u_6.2.2.2.2.2.2.1)) [2] rfl
          have hDc := hD.sub (ws' := (wd_Finds_forget kA a2 (.ref a12) (.ref a10) (.ref a11) u_6.2.2.2.2.1 u_6.2.2.2.2.2.1 u_6.2.2.2.2.2.2.1)) [2] (by decide) rfl
          have hFc := va_free (wc := (wd_Finds_forget kA a2 (.ref a12) (.ref a10) (.ref a11) u_6.2.2.2.2.1 u_6.2.2.2.2.2.1 u_6.2.2.2.2.2.2.1)) hD hS hA [2] rfl
          refine va_callv (va_runV (As := []) (rest := []) ⟨hx, hb, hml, hown, hts⟩ (c_Finds_forget l dC dI kA H.size a2 (.ref a12) (.ref a10) (.ref a11) u_6.2.2.2.2.1 u_6.2.2.2.2.2.1 u_6.2.2.2.2.2.2.1 u_9.1 u_9.2.1 u_9.2.2 hS_9) (cwV 0 hts (gw_V gw_553 gw_554 gw_555 gw_11 gw_556) rfl rfl rfl (by decide +kernel) ⟨Nat.le_of_ble_eq_true rfl, Nat.le_of_ble_eq_true rfl⟩) ⟨fun a U g mk q => by obtain ⟨q0, q1, qP, qK, qD⟩ := q; exact ⟨q0, q1, qP, va_K.moved (u := U) (U := U.calling g mk a) (Vm.Alike.refl U.vm) qK, qD⟩, va_recv hK hP (ci := 1) (q0 := 2) rfl rfl, fun U hU hW => ⟨rfl, by rw [hU], by rw [hU]; exact hPc, va_K.moved hW.alike hK, hDc.weaken (fun _ _ _ _ => trivial)⟩⟩ rfl rfl hl.1 rfl (lv_room (Nat.le_of_ble_eq_true rfl)) d_Desk_repair_61 ⟨Nat.zero_le _, Nat.zero_le _⟩) hS (fun q _ h => hFc q h) hFc (fun u t H1 locs ht hvm hw hB hz1 hk1 hS => ?_)
          obtain ⟨hP1, hK1, hD1⟩ := hB
          rw [ht] at hP1
          obtain ⟨hP, hD⟩ := va_join (wr := [(a0, .inr (8, [v0_0, .ref a3, .ref a6, .ref a7, .ref a1, .ref a5, .ref a2, .ref a4])), (a1, .inr (0, [.ref a8, .ref a9])), (a3, .inr (2, [.ref a13, .ref a14, v3_2, v3_3, v3_4, v3_5, v3_6])), (a4, .inr (4, [.ref a5, .ref a7, .ref a1, .ref a2, .ref a15, .int u_6.2.1, .int u_6.2.2.1, .int u_6.2.2.2.1])), (a5, .inr (5, [.ref a3, .ref a6, .ref a16, .ref a17])), (a6, .inr (6, [v6_0, .ref a19, .ref a18, .int x6_3, v6_4])), (a7, .inr (7, [.ref a20, v7_1, .int x7_2])), (a8, .inl (kA 0, 6, .inl f8)), (a9, .inl (kA 0, 6, .inl f9)), (a10, .inl (kA 0, 40, .inl u_6.2.2.2.2.2.2.2.2.1)), (a11, .inl (kA 0, 40, .inl u_6.2.2.2.2.2.2.2.2.2.1)), (a12, .inl (kA 0, 240, .inl u_6.2.2.2.2.2.2.2.2.2.2.1)), (a13, .inl (kA 0, 12, .inl f13)), (a14, .inl (kA 0, 12, .inl f14)), (a15, .inl (kA 0, 6, .inl u_6.2.2.2.2.2.2.2.1)), (a16, .inl (kA 0, 4096, .inl u_6.2.2.2.2.2.2.2.2.2.2.2.1)), (a17, .inl (kA 0, 8, .inl u_6.2.2.2.2.2.2.2.2.2.2.2.2)), (a18, .inl (kA 0, 280, .inl f18)), (a19, .inl (kA 0, 480, .inl f19)), (a20, .inl (kA 0, 16, .inl f20))]) (w1 := (wd_Finds_forget kA a2 (.ref a12) (.ref a10) (.ref a11) u_9.1 u_9.2.1 u_9.2.2)) hP hD [2] [0, 1, 3, 4, 5, 6, 7, 8, 9, 10, 11, 12, 13, 14, 15, 16, 17, 18, 19, 20] rfl rfl (by decide) (by decide) hk1 hFc hP1 hD1
          have hP := hP.sub (ws' := (wd_Desk_repair kA a0 a1 a2 a3 a4 a5 a6 a7 a8 a9 a10 a11 a12 a13 a14 a15 a16 a17 a18 a19 a20 v0_0 v3_2 v3_3 v3_4 v3_5 v3_6 v6_0 v6_4 v7_1 u_9.1 u_9.2.1 u_9.2.2 u_6.2.1 u_6.2.2.1 u_6.2.2.2.1 x6_3 x7_2 f8 f9 u_6.2.2.2.2.2.2.2.2.1 u_6.2.2.2.2.2.2.2.2.2.1 u_6.2.2.2.2.2.2.2.2.2.2.1 f13 f14 u_6.2.2.2.2.2.2.2.1 u_6.2.2.2.2.2.2.2.2.2.2.2.1 u_6.2.2.2.2.2.2.2.2.2.2.2.2 f18 f19 f20)) [0, 1, 20, 2, 3, 4, 5, 6, 7, 8, 9, 10, 11, 12, 13, 14, 15, 16, 17, 18, 19] rfl
          have hD := hD.sub (ws' := (wd_Desk_repair kA a0 a1 a2 a3 a4 a5 a6 a7 a8 a9 a10 a11 a12 a13 a14 a15 a16 a17 a18 a19 a20 v0_0 v3_2 v3_3 v3_4 v3_5 v3_6 v6_0 v6_4 v7_1 u_9.1 u_9.2.1 u_9.2.2 u_6.2.1 u_6.2.2.1 u_6.2.2.2.1 x6_3 x7_2 f8 f9 u_6.2.2.2.2.2.2.2.2.1 u_6.2.2.2.2.2.2.2.2.2.1 u_6.2.2.2.2.2.2.2.2.2.2.1 f13 f14 u_6.2.2.2.2.2.2.2.1 u_6.2.2.2.2.2.2.2.2.2.2.2.1 u_6.2.2.2.2.2.2.2.2.2.2.2.2 f18 f19 f20)) [0, 1, 20, 2, 3, 4, 5, 6, 7, 8, 9, 10, 11, 12, 13, 14, 15, 16, 17, 18, 19] (by decide) rfl
          clear hPc hDc hFc hP1 hK1 hD1
          generalize H1 = H at hP hS ⊢
          have e0 := Option.some.inj hF
          have q0 := Prod.mk.inj e0
          have q1 := Prod.mk.inj q0.2
          have q2 := Prod.mk.inj q1.2
          have q3 := Prod.mk.inj q2.2
          have q4 := Prod.mk.inj q3.2
          have q5 := Prod.mk.inj q4.2
          have q6 := Prod.mk.inj q5.2
          have q7 := Prod.mk.inj q6.2
          have q8 := Prod.mk.inj q7.2
          have q9 := Prod.mk.inj q8.2
          have q10 := Prod.mk.inj q9.2
          have q11 := Prod.mk.inj q10.2
          have q12 := Prod.mk.inj q11.2
          refine rd_throw (own := R_Desk) (cls := xU) (text := "there are more than forty repairs") (Y0 := xrt_) (names := xnm_) (ix := 7) (bx := rd_bx 7) (ik := 112) (is := 150) (ic := 116) (sa := sa 150) (rest := []) hx hb hlt rd_ok7 hown (by decide +kernel) (by decide +kernel) (by decide +kernel) (rd_site hg hX hSt hS gw_568 gw_423 (by decide +kernel) (by simp [xs_])) (hl.1.trans hml.symm) d_Desk_repair_64 d_Desk_repair_67 d_Desk_repair_68 d_Desk_repair_70 d_Desk_repair_73 hno (Nat.le_of_ble_eq_true rfl) (Nat.le_of_ble_eq_true rfl) (Nat.le_of_ble_eq_true rfl) (Nat.le_of_ble_eq_true rfl) hlocks (fun t ht hz hq => ?_) hS.2.2 (Nat.le_refl _) (Nat.le_refl _)
          have hT := rd_thrown hP hD hK hS ht hz hq
          exact ⟨by rw [← q0.1]; decide +kernel, by rw [← q2.1, ← q3.1, ← q4.1, ← q5.1, ← q6.1, ← q7.1, ← q8.1, ← q9.1, ← q10.1, ← q11.1, ← q12.1, ← q12.2]; exact hT⟩
      · rw [if_neg c_5] at hF
        have e0 := Option.some.inj hF
        have q0 := Prod.mk.inj e0
        have q1 := Prod.mk.inj q0.2
        have q2 := Prod.mk.inj q1.2
        have q3 := Prod.mk.inj q2.2
        have q4 := Prod.mk.inj q3.2
        have q5 := Prod.mk.inj q4.2
        have q6 := Prod.mk.inj q5.2
        have q7 := Prod.mk.inj q6.2
        have q8 := Prod.mk.inj q7.2
        have q9 := Prod.mk.inj q8.2
        have q10 := Prod.mk.inj q9.2
        have q11 := Prod.mk.inj q10.2
        have q12 := Prod.mk.inj q11.2
        refine rd_throw (own := R_Desk) (cls := xI) (text := "the guard is not 0 .. 3") (Y0 := xrt_) (names := xnm_) (ix := 7) (bx := rd_bx 7) (ik := 84) (is := 144) (ic := 88) (sa := sa 144) (rest := []) hx hb hlt rd_ok7 hown (by decide +kernel) (by decide +kernel) (by decide +kernel) (rd_site hg hX hSt hS gw_545 gw_421 (by decide +kernel) (by simp [xs_])) (hl.1.trans hml.symm) d_Desk_repair_36 d_Desk_repair_39 d_Desk_repair_40 d_Desk_repair_42 d_Desk_repair_45 hno (Nat.le_of_ble_eq_true rfl) (Nat.le_of_ble_eq_true rfl) (Nat.le_of_ble_eq_true rfl) (Nat.le_of_ble_eq_true rfl) hlocks (fun t ht hz hq => ?_) hS.2.2 (Nat.le_refl _) (Nat.le_refl _)
        have hT := rd_thrown hP hD hK hS ht hz hq
        exact ⟨by rw [← q0.1]; decide +kernel, by rw [← q2.1, ← q3.1, ← q4.1, ← q5.1, ← q6.1, ← q7.1, ← q8.1, ← q9.1, ← q10.1, ← q11.1, ← q12.1, ← q12.2]; exact hT⟩
  · rw [if_neg (fun z => z c_3)] at hF
    have e0 := Option.some.inj hF
    have q0 := Prod.mk.inj e0
    have q1 := Prod.mk.inj q0.2
    have q2 := Prod.mk.inj q1.2
    have q3 := Prod.mk.inj q2.2
    have q4 := Prod.mk.inj q3.2
    have q5 := Prod.mk.inj q4.2
    have q6 := Prod.mk.inj q5.2
    have q7 := Prod.mk.inj q6.2
    have q8 := Prod.mk.inj q7.2
    have q9 := Prod.mk.inj q8.2
    have q10 := Prod.mk.inj q9.2
    have q11 := Prod.mk.inj q10.2
    have q12 := Prod.mk.inj q11.2
    refine rd_throw (own := R_Desk) (cls := xS) (text := "nothing is compiled") (Y0 := xrt_) (names := xnm_) (ix := 7) (bx := rd_bx 7) (ik := 95) (is := 138) (ic := 99) (sa := sa 138) (rest := []) hx hb hlt rd_ok7 hown (by decide +kernel) (by decide +kernel) (by decide +kernel) (rd_site hg hX hSt hS gw_551 gw_422 (by decide +kernel) (by simp [xs_])) (hl.1.trans hml.symm) d_Desk_repair_17 d_Desk_repair_20 d_Desk_repair_21 d_Desk_repair_23 d_Desk_repair_26 hno (Nat.le_of_ble_eq_true rfl) (Nat.le_of_ble_eq_true rfl) (Nat.le_of_ble_eq_true rfl) (Nat.le_of_ble_eq_true rfl) hlocks (fun t ht hz hq => ?_) hS.2.2 (Nat.le_refl _) (Nat.le_refl _)
    have hT := rd_thrown hP hD hK hS ht hz hq
    exact ⟨by rw [← q0.1]; decide +kernel, by rw [← q2.1, ← q3.1, ← q4.1, ← q5.1, ← q6.1, ← q7.1, ← q8.1, ← q9.1, ← q10.1, ← q11.1, ← q12.1, ← q12.2]; exact hT⟩
