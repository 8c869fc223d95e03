-- ===== RepairDeskModel.symbol(II)I
abbrev wd_Model_symbol (kA : Nat → ClassId) (a0 a1 a2 : Nat) (v0_0 v0_1 v0_2 v0_3 v0_4 v0_7 v0_8 v0_9 v0_10 v0_11 v0_12 v0_13 v0_14 v0_15 v0_16 v0_17 v0_18 v0_19 v0_20 v0_21 v0_22 v0_23 v0_24 v0_25 v0_26 v0_27 v0_28 : Value) (f1 : (Nat → Int32)) (f2 : (Nat → Int32)) : va_W := [(a0, .inr (9, [v0_0, v0_1, v0_2, v0_3, v0_4, .ref a1, .ref a2, v0_7, v0_8, v0_9, v0_10, v0_11, v0_12, v0_13, v0_14, v0_15, v0_16, v0_17, v0_18, v0_19, v0_20, v0_21, v0_22, v0_23, v0_24, v0_25, v0_26, v0_27, v0_28])), (a1, .inl (kA 0, 11, .inl f1)), (a2, .inl (kA 0, 44, .inl f2))]
abbrev rm_Model_symbol : Room := { frames := 0, cells := 0, slots := 0, locals := 0 }
def S_Model_symbol (p1 : Int32) (p2 : Int32) (f1 : (Nat → Int32)) (f2 : (Nat → Int32)) : Option (Int32) := (if (p1 : Int32) < 0 ∨ 11 ≤ (Int32.toNatClampNeg p1) then none else (if (f1 (Int32.toNatClampNeg p1)) ≤ p2 then (some (-1)) else (if (((4 * p1) + p2) : Int32) < 0 ∨ 44 ≤ (Int32.toNatClampNeg ((4 * p1) + p2)) then none else (some (f2 (Int32.toNatClampNeg ((4 * p1) + p2)))))))
set_option maxHeartbeats 4000000 in
set_option maxRecDepth 100000 in
theorem c_Model_symbol (l : Launch) (dC : Nat → ClassId) (dI : Nat → Nat → Nat) (kA : Nat → ClassId) (sz : Nat) (a0 a1 a2 : Nat) (v0_0 v0_1 v0_2 v0_3 v0_4 v0_7 v0_8 v0_9 v0_10 v0_11 v0_12 v0_13 v0_14 v0_15 v0_16 v0_17 v0_18 v0_19 v0_20 v0_21 v0_22 v0_23 v0_24 v0_25 v0_26 v0_27 v0_28 : Value) (p1 : Int32) (p2 : Int32) (f1 : (Nat → Int32)) (f2 : (Nat → Int32)) (r : Int32) (hF : S_Model_symbol p1 p2 f1 f2 = some r) : Met l y_Model_symbol w_Model_symbol rm_Model_symbol (va_Pc [.ref a0, .int p1, .int p2] (fun U => U.heap.size = sz ∧ va_P (dC, dI) classes (wd_Model_symbol kA a0 a1 a2 v0_0 v0_1 v0_2 v0_3 v0_4 v0_7 v0_8 v0_9 v0_10 v0_11 v0_12 v0_13 v0_14 v0_15 v0_16 v0_17 v0_18 v0_19 v0_20 v0_21 v0_22 v0_23 v0_24 v0_25 v0_26 v0_27 v0_28 f1 f2) U.heap ∧ va_K (dC, dI) classes (tys_ kA) U ∧ va_D (fun _ => True) (wd_Model_symbol kA a0 a1 a2 v0_0 v0_1 v0_2 v0_3 v0_4 v0_7 v0_8 v0_9 v0_10 v0_11 v0_12 v0_13 v0_14 v0_15 v0_16 v0_17 v0_18 v0_19 v0_20 v0_21 v0_22 v0_23 v0_24 v0_25 v0_26 v0_27 v0_28 f1 f2))) (va_Qi (fun (r1 : Int32) (_ : Unit) => r1 = r) (fun _ t => va_P (dC, dI) classes (wd_Model_symbol kA a0 a1 a2 v0_0 v0_1 v0_2 v0_3 v0_4 v0_7 v0_8 v0_9 v0_10 v0_11 v0_12 v0_13 v0_14 v0_15 v0_16 v0_17 v0_18 v0_19 v0_20 v0_21 v0_22 v0_23 v0_24 v0_25 v0_26 v0_27 v0_28 f1 f2) t.heap ∧ va_K (dC, dI) classes (tys_ kA) t ∧ va_D (va_A (wd_Model_symbol kA a0 a1 a2 v0_0 v0_1 v0_2 v0_3 v0_4 v0_7 v0_8 v0_9 v0_10 v0_11 v0_12 v0_13 v0_14 v0_15 v0_16 v0_17 v0_18 v0_19 v0_20 v0_21 v0_22 v0_23 v0_24 v0_25 v0_26 v0_27 v0_28 f1 f2) sz) (wd_Model_symbol kA a0 a1 a2 v0_0 v0_1 v0_2 v0_3 v0_4 v0_7 v0_8 v0_9 v0_10 v0_11 v0_12 v0_13 v0_14 v0_15 v0_16 v0_17 v0_18 v0_19 v0_20 v0_21 v0_22 v0_23 v0_24 v0_25 v0_26 v0_27 v0_28 f1 f2)) (va_A (wd_Model_symbol kA a0 a1 a2 v0_0 v0_1 v0_2 v0_3 v0_4 v0_7 v0_8 v0_9 v0_10 v0_11 v0_12 v0_13 v0_14 v0_15 v0_16 v0_17 v0_18 v0_19 v0_20 v0_21 v0_22 v0_23 v0_24 v0_25 v0_26 v0_27 v0_28 f1 f2) sz)) 0 0 (va_A (wd_Model_symbol kA a0 a1 a2 v0_0 v0_1 v0_2 v0_3 v0_4 v0_7 v0_8 v0_9 v0_10 v0_11 v0_12 v0_13 v0_14 v0_15 v0_16 v0_17 v0_18 v0_19 v0_20 v0_21 v0_22 v0_23 v0_24 v0_25 v0_26 v0_27 v0_28 f1 f2) sz) := by
  refine Met.ofW (cc := b_Model_symbol) (maxL := 3) (ret := some .int) (by decide) rfl ?_
  intro p e s m args below meth c s₁ B hml hv
  obtain ⟨rfl, hsz, hP, hK, hD0⟩ := hv
  have hx := B.exec
  have hb := B.bytes
  have hr := B.returns
  have hts := atoms_spec (ws := w_Model_symbol) B.pre
  have hown : s.vm.findClass R_Model = some m.cls := findClass_of_methodNamed B.named
  have hg := fun (w : Cond) (h : w ∈ gw) => hts w (List.mem_cons_of_mem _ h)
  have hlocks := B.notSynchronized
  subst hsz
  have hD := hD0.self (sz := s.heap.size)
  generalize hAe : va_A (wd_Model_symbol kA a0 a1 a2 v0_0 v0_1 v0_2 v0_3 v0_4 v0_7 v0_8 v0_9 v0_10 v0_11 v0_12 v0_13 v0_14 v0_15 v0_16 v0_17 v0_18 v0_19 v0_20 v0_21 v0_22 v0_23 v0_24 v0_25 v0_26 v0_27 v0_28 f1 f2) s.heap.size = A at hD ⊢
  have hA : ∀ q : Nat, s.heap.size ≤ q → A q := fun q h => by rw [← hAe]; exact Or.inr h
  have hS : va_S A s.heap s.heap [] := va_S.rf
  have hl := lv_entry ([.ref a0, .int p1, .int p2]) (n := 3) (Nat.le_of_ble_eq_true rfl)
  rw [lg_entry_eq]
  generalize (lg_sl ([.ref a0, .int p1, .int p2]) ++ List.replicate (3 - (lg_sl ([.ref a0, .int p1, .int p2])).length) Slot.unset).toArray = ls at hl ⊢
  have hl : lv_has ls 3 [(0, .ref a0), (1, .int p1), (2, .int p2)] := hl
  unfold S_Model_symbol at hF
  refine lv_iload_n hx hb d_Model_symbol_0 rfl (lv_at hl 2 rfl) ?_
  refine lv_aload_n hx hb d_Model_symbol_1 rfl (lv_at hl 0 rfl) ?_
  refine va_get (D := (dC, dI)) (ci := 9) (v := .ref a1) (C := R_Model) (T := F_Model) (N := 29) hx hb hg iw_Model hown hK hP 0 rfl rfl 5 (by decide) (hg _ gw_278) (fun _ h9 => h9) rfl d_Model_symbol_2 ?_
  refine lv_iload_n hx hb d_Model_symbol_5 rfl (lv_at hl 1 rfl) ?_
  obtain ⟨h_1, hF⟩ := rd_chk hF
  refine va_iald hx hb hK hP 1 0 rfl rfl h_1 d_Model_symbol_6 ?_
  refine lv_icmp_ge (tgt := 23) hx hb d_Model_symbol_7 (by decide) (fun c_2 => ?_) (fun c_2 => ?_)
  · rw [if_pos c_2] at hF
    refine lv_iconst (v := (-1)) hx hb d_Model_symbol_23 (by decide) ?_
    have e0 := Option.some.inj hF
    exact W.iret (v := (-1)) hx hb hr (fun t ht hW => ⟨⟨(-1), (), rfl, e0, by rw [ht]; exact hP, va_K.moved hW.alike hK, (by exact hD)⟩, hS.F ht⟩) hS.2.2 d_Model_symbol_24 hlocks
  · rw [if_neg c_2] at hF
    refine lv_aload_n hx hb d_Model_symbol_10 rfl (lv_at hl 0 rfl) ?_
    refine va_get (D := (dC, dI)) (ci := 9) (v := .ref a2) (C := R_Model) (T := F_Model) (N := 29) hx hb hg iw_Model hown hK hP 0 rfl rfl 6 (by decide) (hg _ gw_279) (fun _ h9 => h9) rfl d_Model_symbol_11 ?_
    refine lv_iconst (v := 4) hx hb d_Model_symbol_14 (by decide) ?_
    refine lv_iload_n hx hb d_Model_symbol_15 rfl (lv_at hl 1 rfl) ?_
    refine lv_imul hx hb d_Model_symbol_16 ?_
    refine lv_iload_n hx hb d_Model_symbol_17 rfl (lv_at hl 2 rfl) ?_
    refine lv_iadd hx hb d_Model_symbol_18 ?_
    obtain ⟨h_3, hF⟩ := rd_chk hF
    refine va_iald hx hb hK hP 2 0 rfl rfl h_3 d_Model_symbol_19 ?_
    refine lv_goto (tgt := 24) hx hb d_Model_symbol_20 (by decide) ?_
    have e0 := Option.some.inj hF
    exact W.iret (v := (f2 (Int32.toNatClampNeg ((4 * p1) + p2)))) hx hb hr (fun t ht hW => ⟨⟨(f2 (Int32.toNatClampNeg ((4 * p1) + p2))), (), rfl, e0, by rw [ht]; exact hP, va_K.moved hW.alike hK, (by exact hD)⟩, hS.F ht⟩) hS.2.2 d_Model_symbol_24 hlocks
-- ===== RepairDeskModel.spread(III)Z
abbrev wd_Model_spread (kA : Nat → ClassId) (a0 a1 a2 a3 : Nat) (v0_0 v0_1 v0_2 v0_5 v0_6 v0_8 v0_9 v0_10 v0_11 v0_12 v0_14 v0_15 v0_16 v0_17 v0_18 v0_19 v0_20 v0_21 v0_22 v0_23 v0_24 v0_25 v0_26 v0_27 v0_28 : Value) (x0_3 : Int32) (f1 : (Nat → Int32)) (f2 : (Nat → Int32)) (f3 : (Nat → Int32)) : va_W := [(a0, .inr (9, [v0_0, v0_1, v0_2, .int x0_3, .ref a2, v0_5, v0_6, .ref a3, v0_8, v0_9, v0_10, v0_11, v0_12, .ref a1, v0_14, v0_15, v0_16, v0_17, v0_18, v0_19, v0_20, v0_21, v0_22, v0_23, v0_24, v0_25, v0_26, v0_27, v0_28])), (a1, .inl (kA 0, 2310, .inl f1)), (a2, .inl (kA 0, 11, .inl f2)), (a3, .inl (kA 1, 11, .inl f3))]
abbrev rm_Model_spread : Room := { frames := 0, cells := 0, slots := 0, locals := 0 }
def B_Model_spread_0 (K : Nat → Int32 → Int32 → Int32 → Int32 → Int32 → (Nat → Int32) → Option (Int32 × (Nat → Int32))) (x0_3 : Int32) (f2 : (Nat → Int32)) (f3 : (Nat → Int32)) (l1 : Int32) (l2 : Int32) (l3 : Int32) (l4 : Int32) (l5 : Int32) (f1 : (Nat → Int32)) : Option (Int32 × (Nat → Int32)) := (if x0_3 ≤ l5 then (if l4 = 0 ∨ l4 = 1 then some (l4, f1) else none) else (if (l5 : Int32) < 0 ∨ 11 ≤ (Int32.toNatClampNeg l5) then none else (if (f3 (Int32.toNatClampNeg l5)) = 0 then (K 0 l1 l2 l3 l4 (l5 + 1) f1) else (if (l5 : Int32) < 0 ∨ 11 ≤ (Int32.toNatClampNeg l5) then none else (if ¬ (f2 (Int32.toNatClampNeg l5)) = l2 then (K 0 l1 l2 l3 l4 (l5 + 1) f1) else (if ¬ l4 = 0 then (if (((55 * l1) + (5 * l5)) : Int32) < 0 ∨ 2310 ≤ (Int32.toNatClampNeg ((55 * l1) + (5 * l5))) then none else (if (((55 * l1) + (5 * l5)) : Int32) < 0 ∨ 2310 ≤ (Int32.toNatClampNeg ((55 * l1) + (5 * l5))) then none else (K 0 l1 l2 l3 1 (l5 + 1) (upd f1 (Int32.toNatClampNeg ((55 * l1) + (5 * l5))) ((f1 (Int32.toNatClampNeg ((55 * l1) + (5 * l5)))) ||| l3))))) else (if (((55 * l1) + (5 * l5)) : Int32) < 0 ∨ 2310 ≤ (Int32.toNatClampNeg ((55 * l1) + (5 * l5))) then none else (if (((55 * l1) + (5 * l5)) : Int32) < 0 ∨ 2310 ≤ (Int32.toNatClampNeg ((55 * l1) + (5 * l5))) then none else (if ((f1 (Int32.toNatClampNeg ((55 * l1) + (5 * l5)))) ||| l3) = (f1 (Int32.toNatClampNeg ((55 * l1) + (5 * l5)))) then (if (((55 * l1) + (5 * l5)) : Int32) < 0 ∨ 2310 ≤ (Int32.toNatClampNeg ((55 * l1) + (5 * l5))) then none else (if (((55 * l1) + (5 * l5)) : Int32) < 0 ∨ 2310 ≤ (Int32.toNatClampNeg ((55 * l1) + (5 * l5))) then none else (K 0 l1 l2 l3 0 (l5 + 1) (upd f1 (Int32.toNatClampNeg ((55 * l1) + (5 * l5))) ((f1 (Int32.toNatClampNeg ((55 * l1) + (5 * l5)))) ||| l3))))) else (if (((55 * l1) + (5 * l5)) : Int32) < 0 ∨ 2310 ≤ (Int32.toNatClampNeg ((55 * l1) + (5 * l5))) then none else (if (((55 * l1) + (5 * l5)) : Int32) < 0 ∨ 2310 ≤ (Int32.toNatClampNeg ((55 * l1) + (5 * l5))) then none else (K 0 l1 l2 l3 1 (l5 + 1) (upd f1 (Int32.toNatClampNeg ((55 * l1) + (5 * l5))) ((f1 (Int32.toNatClampNeg ((55 * l1) + (5 * l5)))) ||| l3))))))))))))))
def F_Model_spread (x0_3 : Int32) (f2 : (Nat → Int32)) (f3 : (Nat → Int32)) : Nat → Nat → Int32 → Int32 → Int32 → Int32 → Int32 → (Nat → Int32) → Option (Int32 × (Nat → Int32))
  | 0 => fun _ _ _ _ _ _ _ => none
  | n + 1 => fun hd l1 l2 l3 l4 l5 f1 => match hd with
    | 0 => B_Model_spread_0 (F_Model_spread x0_3 f2 f3 n) x0_3 f2 f3 l1 l2 l3 l4 l5 f1
    | _ => none
set_option maxHeartbeats 4000000 in
set_option maxRecDepth 100000 in
theorem L_Model_spread {p : Program} {l : Launch} {e : Env} {s : State} {m : MethodId} {args : Array Value} {below : List Frame} {meth : Method} {c : Code} {A : Nat → Prop} {dC : Nat → ClassId} {dI : Nat → Nat → Nat} {kA : Nat → ClassId} (hx : p.tables.exec = Jvm.exec) (hb : c.code = b_Model_spread) (hr : meth.sig.returnType = some .boolean) (hlocks : meth.locks = false) (hml : c.maxLocals = 7) (hown : s.vm.findClass R_Model = some m.cls) (hts : ∀ w ∈ w_Model_spread, w.before args s = true) (hA : ∀ q : Nat, s.heap.size ≤ q → A q) (hK : va_K (dC, dI) classes (tys_ kA) s) (a0 a1 a2 a3 : Nat) (v0_0 v0_1 v0_2 v0_5 v0_6 v0_8 v0_9 v0_10 v0_11 v0_12 v0_14 v0_15 v0_16 v0_17 v0_18 v0_19 v0_20 v0_21 v0_22 v0_23 v0_24 v0_25 v0_26 v0_27 v0_28 : Value) (x0_3 : Int32) (f2 : (Nat → Int32)) (f3 : (Nat → Int32)) (r : Int32) (of1 : (Nat → Int32)) : ∀ n : Nat, (∀ (l1 l2 l3 l4 l5 : Int32) (f1 : (Nat → Int32)), F_Model_spread x0_3 f2 f3 n 0 l1 l2 l3 l4 l5 f1 = some (r, of1) → ∀ (H : Heap) (locs : List Loc) (ls : Array Slot), va_P (dC, dI) classes (wd_Model_spread kA a0 a1 a2 a3 v0_0 v0_1 v0_2 v0_5 v0_6 v0_8 v0_9 v0_10 v0_11 v0_12 v0_14 v0_15 v0_16 v0_17 v0_18 v0_19 v0_20 v0_21 v0_22 v0_23 v0_24 v0_25 v0_26 v0_27 v0_28 x0_3 f1 f2 f3) H → va_D A (wd_Model_spread kA a0 a1 a2 a3 v0_0 v0_1 v0_2 v0_5 v0_6 v0_8 v0_9 v0_10 v0_11 v0_12 v0_14 v0_15 v0_16 v0_17 v0_18 v0_19 v0_20 v0_21 v0_22 v0_23 v0_24 v0_25 v0_26 v0_27 v0_28 x0_3 f1 f2 f3) → va_S A s.heap H locs → lv_has ls 7 [(0, .ref a0), (1, .int l1), (2, .int l2), (3, .int l3), (4, .int l4), (5, .int l5)] → W p l e (headSpec w_Model_spread rm_Model_spread).room s m args below meth c H locs 0 0 (MQ below (va_Qi (fun (r1 : Int32) (_ : Unit) => r1 = r) (fun _ t => va_P (dC, dI) classes (wd_Model_spread kA a0 a1 a2 a3 v0_0 v0_1 v0_2 v0_5 v0_6 v0_8 v0_9 v0_10 v0_11 v0_12 v0_14 v0_15 v0_16 v0_17 v0_18 v0_19 v0_20 v0_21 v0_22 v0_23 v0_24 v0_25 v0_26 v0_27 v0_28 x0_3 of1 f2 f3) t.heap ∧ va_K (dC, dI) classes (tys_ kA) t ∧ va_D A (wd_Model_spread kA a0 a1 a2 a3 v0_0 v0_1 v0_2 v0_5 v0_6 v0_8 v0_9 v0_10 v0_11 v0_12 v0_14 v0_15 v0_16 v0_17 v0_18 v0_19 v0_20 v0_21 v0_22 v0_23 v0_24 v0_25 v0_26 v0_27 v0_28 x0_3 of1 f2 f3)) A) args s 0 0 A) (F0 m 6 ls [])) := by
  have hg := fun (w : Cond) (h : w ∈ gw) => hts w (List.mem_cons_of_mem _ h)
  intro n
  induction n with
  | zero =>
    exact fun _ _ _ _ _ _ hF => absurd (show (none : Option _) = some _ from hF) (fun z => by cases z)
  | succ n ih =>
    intro l1 l2 l3 l4 l5 f1 hF H locs ls hP hD hS hl
    have hF : B_Model_spread_0 (F_Model_spread x0_3 f2 f3 n) x0_3 f2 f3 l1 l2 l3 l4 l5 f1 = some (r, of1) := hF
    unfold B_Model_spread_0 at hF
    refine lv_iload hx hb d_Model_spread_6 (lv_at hl 5 rfl) ?_
    refine lv_aload_n hx hb d_Model_spread_8 rfl (lv_at hl 0 rfl) ?_
    refine va_get (D := (dC, dI)) (ci := 9) (v := .int x0_3) (C := R_Model) (T := F_Model) (N := 29) hx hb hg iw_Model hown hK hP 0 rfl rfl 3 (by decide) (hg _ gw_276) (fun _ h9 => h9) rfl d_Model_spread_9 ?_
    refine lv_icmp_ge (tgt := 100) hx hb d_Model_spread_12 (by decide) (fun c_1 => ?_) (fun c_1 => ?_)
    · rw [if_pos c_1] at hF
      refine lv_iload hx hb d_Model_spread_100 (lv_at hl 4 rfl) ?_
      obtain ⟨b_2, hF⟩ := rd_bool hF
      have e0 := Option.some.inj hF
      have q0 := Prod.mk.inj e0
      exact W.zret (v := l4) hx hb hr (rd_nb b_2) (fun t ht hW => ⟨⟨l4, (), rfl, q0.1, by rw [ht, ← q0.2]; exact hP, va_K.moved hW.alike hK, (by rw [← q0.2]; exact hD)⟩, hS.F ht⟩) hS.2.2 d_Model_spread_102 hlocks
    · rw [if_neg c_1] at hF
      refine lv_bipush (v := 55) hx hb d_Model_spread_15 (by decide) ?_
      refine lv_iload_n hx hb d_Model_spread_17 rfl (lv_at hl 1 rfl) ?_
      refine lv_imul hx hb d_Model_spread_18 ?_
      refine lv_iconst (v := 5) hx hb d_Model_spread_19 (by decide) ?_
      refine lv_iload hx hb d_Model_spread_20 (lv_at hl 5 rfl) ?_
      refine lv_imul hx hb d_Model_spread_22 ?_
      refine lv_iadd hx hb d_Model_spread_23 ?_
      refine lv_istore (lv' := [(6, .int ((55 * l1) + (5 * l5))), (0, .ref a0), (1, .int l1), (2, .int l2), (3, .int l3), (4, .int l4), (5, .int l5)]) hx hb d_Model_spread_24 hl (by decide) rfl (fun ls hl => ?_)
      refine lv_aload_n hx hb d_Model_spread_26 rfl (lv_at hl 1 rfl) ?_
      refine va_get (D := (dC, dI)) (ci := 9) (v := .ref a3) (C := R_Model) (T := F_Model) (N := 29) hx hb hg iw_Model hown hK hP 0 rfl rfl 7 (by decide) (hg _ gw_288) (fun _ h9 => h9) rfl d_Model_spread_27 ?_
      refine lv_iload hx hb d_Model_spread_30 (lv_at hl 6 rfl) ?_
      obtain ⟨h_3, hF⟩ := rd_chk hF
      refine va_zald hx hb hK hP 3 1 rfl rfl h_3 d_Model_spread_32 ?_
      refine lv_if_eq (tgt := 94) hx hb d_Model_spread_33 (by decide) (fun c_4 => ?_) (fun c_4 => ?_)
      · rw [if_pos c_4] at hF
        refine lv_iinc (v := (l5 + 1)) (lv' := [(5, .int (l5 + 1)), (6, .int ((55 * l1) + (5 * l5))), (0, .ref a0), (1, .int l1), (2, .int l2), (3, .int l3), (4, .int l4)]) hx hb d_Model_spread_94 hl (k := 6) rfl (by rfl) (by decide) rfl (fun ls hl => ?_)
        refine lv_goto (tgt := 6) hx hb d_Model_spread_97 (by decide) ?_
        exact ih l1 l2 l3 l4 (l5 + 1) f1 hF _ _ _ hP hD hS (lv_sub hl [2, 3, 4, 5, 6, 0] rfl)
      · rw [if_neg c_4] at hF
        refine lv_aload_n hx hb d_Model_spread_36 rfl (lv_at hl 1 rfl) ?_
        refine va_get (D := (dC, dI)) (ci := 9) (v := .ref a2) (C := R_Model) (T := F_Model) (N := 29) hx hb hg iw_Model hown hK hP 0 rfl rfl 4 (by decide) (hg _ gw_277) (fun _ h9 => h9) rfl d_Model_spread_37 ?_
        refine lv_iload hx hb d_Model_spread_40 (lv_at hl 6 rfl) ?_
        obtain ⟨h_5, hF⟩ := rd_chk hF
        refine va_iald hx hb hK hP 2 0 rfl rfl h_5 d_Model_spread_42 ?_
        refine lv_iload_n hx hb d_Model_spread_43 rfl (lv_at hl 3 rfl) ?_
        refine lv_icmp_ne (tgt := 94) hx hb d_Model_spread_44 (by decide) (fun c_6 => ?_) (fun c_6 => ?_)
        · rw [if_pos c_6] at hF
          refine lv_iinc (v := (l5 + 1)) (lv' := [(5, .int (l5 + 1)), (6, .int ((55 * l1) + (5 * l5))), (0, .ref a0), (1, .int l1), (2, .int l2), (3, .int l3), (4, .int l4)]) hx hb d_Model_spread_94 hl (k := 6) rfl (by rfl) (by decide) rfl (fun ls hl => ?_)
          refine lv_goto (tgt := 6) hx hb d_Model_spread_97 (by decide) ?_
          exact ih l1 l2 l3 l4 (l5 + 1) f1 hF _ _ _ hP hD hS (lv_sub hl [2, 3, 4, 5, 6, 0] rfl)
        · rw [if_neg (fun z => z c_6)] at hF
          refine lv_iload hx hb d_Model_spread_47 (lv_at hl 5 rfl) ?_
          refine lv_if_ne (tgt := 71) hx hb d_Model_spread_49 (by decide) (fun c_7 => ?_) (fun c_7 => ?_)
          · rw [if_pos c_7] at hF
            refine lv_iconst (v := 1) hx hb d_Model_spread_71 (by decide) ?_
            refine lv_goto (tgt := 76) hx hb d_Model_spread_72 (by decide) ?_
            refine lv_istore (lv' := [(4, .int 1), (6, .int ((55 * l1) + (5 * l5))), (0, .ref a0), (1, .int l1), (2, .int l2), (3, .int l3), (5, .int l5)]) hx hb d_Model_spread_76 hl (by decide) rfl (fun ls hl => ?_)
            refine lv_aload_n hx hb d_Model_spread_78 rfl (lv_at hl 2 rfl) ?_
            refine va_get (D := (dC, dI)) (ci := 9) (v := .ref a1) (C := R_Model) (T := F_Model) (N := 29) hx hb hg iw_Model hown hK hP 0 rfl rfl 13 (by decide) (hg _ gw_297) (fun _ h9 => h9) rfl d_Model_spread_79 ?_
            refine lv_iload hx hb d_Model_spread_82 (lv_at hl 1 rfl) ?_
            refine lv_aload_n hx hb d_Model_spread_84 rfl (lv_at hl 2 rfl) ?_
            refine va_get (D := (dC, dI)) (ci := 9) (v := .ref a1) (C := R_Model) (T := F_Model) (N := 29) hx hb hg iw_Model hown hK hP 0 rfl rfl 13 (by decide) (hg _ gw_297) (fun _ h9 => h9) rfl d_Model_spread_85 ?_
            refine lv_iload hx hb d_Model_spread_88 (lv_at hl 1 rfl) ?_
            obtain ⟨h_8, hF⟩ := rd_chk hF
            refine va_iald hx hb hK hP 1 0 rfl rfl h_8 d_Model_spread_90 ?_
            refine lv_iload_n hx hb d_Model_spread_91 rfl (lv_at hl 5 rfl) ?_
            refine lv_ior hx hb d_Model_spread_92 ?_
            obtain ⟨h_9, hF⟩ := rd_chk hF
            refine va_iast hx hb hK hP hD hS 1 0 rfl rfl h_9 d_Model_spread_93 (fun H locs hP hD hS => ?_)
            have hP : va_P (dC, dI) classes (wd_Model_spread kA a0 a1 a2 a3 v0_0 v0_1 v0_2 v0_5 v0_6 v0_8 v0_9 v0_10 v0_11 v0_12 v0_14 v0_15 v0_16 v0_17 v0_18 v0_19 v0_20 v0_21 v0_22 v0_23 v0_24 v0_25 v0_26 v0_27 v0_28 x0_3 (upd f1 (Int32.toNatClampNeg ((55 * l1) + (5 * l5))) ((f1 (Int32.toNatClampNeg ((55 * l1) + (5 * l5)))) ||| l3)) f2 f3) H := hP
            have hD : va_D A (wd_Model_spread kA a0 a1 a2 a3 v0_0 v0_1 v0_2 v0_5 v0_6 v0_8 v0_9 v0_10 v0_11 v0_12 v0_14 v0_15 v0_16 v0_17 v0_18 v0_19 v0_20 v0_21 v0_22 v0_23 v0_24 v0_25 v0_26 v0_27 v0_28 x0_3 (upd f1 (Int32.toNatClampNeg ((55 * l1) + (5 * l5))) ((f1 (Int32.toNatClampNeg ((55 * l1) + (5 * l5)))) ||| l3)) f2 f3) := hD
            refine lv_iinc (v := (l5 + 1)) (lv' := [(5, .int (l5 + 1)), (4, .int 1), (6, .int ((55 * l1) + (5 * l5))), (0, .ref a0), (1, .int l1), (2, .int l2), (3, .int l3)]) hx hb d_Model_spread_94 hl (k := 6) rfl (by rfl) (by decide) rfl (fun ls hl => ?_)
            refine lv_goto (tgt := 6) hx hb d_Model_spread_97 (by decide) ?_
            exact ih l1 l2 l3 1 (l5 + 1) (upd f1 (Int32.toNatClampNeg ((55 * l1) + (5 * l5))) ((f1 (Int32.toNatClampNeg ((55 * l1) + (5 * l5)))) ||| l3)) hF _ _ _ hP hD hS (lv_sub hl [3, 4, 5, 6, 1, 0] rfl)
          · rw [if_neg (fun z => z c_7)] at hF
            refine lv_aload_n hx hb d_Model_spread_52 rfl (lv_at hl 1 rfl) ?_
            refine va_get (D := (dC, dI)) (ci := 9) (v := .ref a1) (C := R_Model) (T := F_Model) (N := 29) hx hb hg iw_Model hown hK hP 0 rfl rfl 13 (by decide) (hg _ gw_297) (fun _ h9 => h9) rfl d_Model_spread_53 ?_
            refine lv_iload hx hb d_Model_spread_56 (lv_at hl 0 rfl) ?_
            obtain ⟨h_10, hF⟩ := rd_chk hF
            refine va_iald hx hb hK hP 1 0 rfl rfl h_10 d_Model_spread_58 ?_
            refine lv_iload_n hx hb d_Model_spread_59 rfl (lv_at hl 4 rfl) ?_
            refine lv_ior hx hb d_Model_spread_60 ?_
            refine lv_aload_n hx hb d_Model_spread_61 rfl (lv_at hl 1 rfl) ?_
            refine va_get (D := (dC, dI)) (ci := 9) (v := .ref a1) (C := R_Model) (T := F_Model) (N := 29) hx hb hg iw_Model hown hK hP 0 rfl rfl 13 (by decide) (hg _ gw_297) (fun _ h9 => h9) rfl d_Model_spread_62 ?_
            refine lv_iload hx hb d_Model_spread_65 (lv_at hl 0 rfl) ?_
            obtain ⟨h_11, hF⟩ := rd_chk hF
            refine va_iald hx hb hK hP 1 0 rfl rfl h_11 d_Model_spread_67 ?_
            refine lv_icmp_eq (tgt := 75) hx hb d_Model_spread_68 (by decide) (fun c_12 => ?_) (fun c_12 => ?_)
            · rw [if_pos c_12] at hF
              refine lv_iconst (v := 0) hx hb d_Model_spread_75 (by decide) ?_
              refine lv_istore (lv' := [(4, .int 0), (6, .int ((55 * l1) + (5 * l5))), (0, .ref a0), (1, .int l1), (2, .int l2), (3, .int l3), (5, .int l5)]) hx hb d_Model_spread_76 hl (by decide) rfl (fun ls hl => ?_)
              refine lv_aload_n hx hb d_Model_spread_78 rfl (lv_at hl 2 rfl) ?_
              refine va_get (D := (dC, dI)) (ci := 9) (v := .ref a1) (C := R_Model) (T := F_Model) (N := 29) hx hb hg iw_Model hown hK hP 0 rfl rfl 13 (by decide) (hg _ gw_297) (fun _ h9 => h9) rfl d_Model_spread_79 ?_
              refine lv_iload hx hb d_Model_spread_82 (lv_at hl 1 rfl) ?_
              refine lv_aload_n hx hb d_Model_spread_84 rfl (lv_at hl 2 rfl) ?_
              refine va_get (D := (dC, dI)) (ci := 9) (v := .ref a1) (C := R_Model) (T := F_Model) (N := 29) hx hb hg iw_Model hown hK hP 0 rfl rfl 13 (by decide) (hg _ gw_297) (fun _ h9 => h9) rfl d_Model_spread_85 ?_
              refine lv_iload hx hb d_Model_spread_88 (lv_at hl 1 rfl) ?_
              obtain ⟨h_13, hF⟩ := rd_chk hF
              refine va_iald hx hb hK hP 1 0 rfl rfl h_13 d_Model_spread_90 ?_
              refine lv_iload_n hx hb d_Model_spread_91 rfl (lv_at hl 5 rfl) ?_
              refine lv_ior hx hb d_Model_spread_92 ?_
              obtain ⟨h_14, hF⟩ := rd_chk hF
              refine va_iast hx hb hK hP hD hS 1 0 rfl rfl h_14 d_Model_spread_93 (fun H locs hP hD hS => ?_)
              have hP : va_P (dC, dI) classes (wd_Model_spread kA a0 a1 a2 a3 v0_0 v0_1 v0_2 v0_5 v0_6 v0_8 v0_9 v0_10 v0_11 v0_12 v0_14 v0_15 v0_16 v0_17 v0_18 v0_19 v0_20 v0_21 v0_22 v0_23 v0_24 v0_25 v0_26 v0_27 v0_28 x0_3 (upd f1 (Int32.toNatClampNeg ((55 * l1) + (5 * l5))) ((f1 (Int32.toNatClampNeg ((55 * l1) + (5 * l5)))) ||| l3)) f2 f3) H := hP
              have hD : va_D A (wd_Model_spread kA a0 a1 a2 a3 v0_0 v0_1 v0_2 v0_5 v0_6 v0_8 v0_9 v0_10 v0_11 v0_12 v0_14 v0_15 v0_16 v0_17 v0_18 v0_19 v0_20 v0_21 v0_22 v0_23 v0_24 v0_25 v0_26 v0_27 v0_28 x0_3 (upd f1 (Int32.toNatClampNeg ((55 * l1) + (5 * l5))) ((f1 (Int32.toNatClampNeg ((55 * l1) + (5 * l5)))) ||| l3)) f2 f3) := hD
              refine lv_iinc (v := (l5 + 1)) (lv' := [(5, .int (l5 + 1)), (4, .int 0), (6, .int ((55 * l1) + (5 * l5))), (0, .ref a0), (1, .int l1), (2, .int l2), (3, .int l3)]) hx hb d_Model_spread_94 hl (k := 6) rfl (by rfl) (by decide) rfl (fun ls hl => ?_)
              refine lv_goto (tgt := 6) hx hb d_Model_spread_97 (by decide) ?_
              exact ih l1 l2 l3 0 (l5 + 1) (upd f1 (Int32.toNatClampNeg ((55 * l1) + (5 * l5))) ((f1 (Int32.toNatClampNeg ((55 * l1) + (5 * l5)))) ||| l3)) hF _ _ _ hP hD hS (lv_sub hl [3, 4, 5, 6, 1, 0] rfl)
            · rw [if_neg c_12] at hF
              refine lv_iconst (v := 1) hx hb d_Model_spread_71 (by decide) ?_
              refine lv_goto (tgt := 76) hx hb d_Model_spread_72 (by decide) ?_
              refine lv_istore (lv' := [(4, .int 1), (6, .int ((55 * l1) + (5 * l5))), (0, .ref a0), (1, .int l1), (2, .int l2), (3, .int l3), (5, .int l5)]) hx hb d_Model_spread_76 hl (by decide) rfl (fun ls hl => ?_)
              refine lv_aload_n hx hb d_Model_spread_78 rfl (lv_at hl 2 rfl) ?_
              refine va_get (D := (dC, dI)) (ci := 9) (v := .ref a1) (C := R_Model) (T := F_Model) (N := 29) hx hb hg iw_Model hown hK hP 0 rfl rfl 13 (by decide) (hg _ gw_297) (fun _ h9 => h9) rfl d_Model_spread_79 ?_
              refine lv_iload hx hb d_Model_spread_82 (lv_at hl 1 rfl) ?_
              refine lv_aload_n hx hb d_Model_spread_84 rfl (lv_at hl 2 rfl) ?_
              refine va_get (D := (dC, dI)) (ci := 9) (v := .ref a1) (C := R_Model) (T := F_Model) (N := 29) hx hb hg iw_Model hown hK hP 0 rfl rfl 13 (by decide) (hg _ gw_297) (fun _ h9 => h9) rfl d_Model_spread_85 ?_
              refine lv_iload hx hb d_Model_spread_88 (lv_at hl 1 rfl) ?_
              obtain ⟨h_15, hF⟩ := rd_chk hF
              refine va_iald hx hb hK hP 1 0 rfl rfl h_15 d_Model_spread_90 ?_
              refine lv_iload_n hx hb d_Model_spread_91 rfl (lv_at hl 5 rfl) ?_
              refine lv_ior hx hb d_Model_spread_92 ?_
              obtain ⟨h_16, hF⟩ := rd_chk hF
              refine va_iast hx hb hK hP hD hS 1 0 rfl rfl h_16 d_Model_spread_93 (fun H locs hP hD hS => ?_)
              have hP : va_P (dC, dI) classes (wd_Model_spread kA a0 a1 a2 a3 v0_0 v0_1 v0_2 v0_5 v0_6 v0_8 v0_9 v0_10 v0_11 v0_12 v0_14 v0_15 v0_16 v0_17 v0_18 v0_19 v0_20 v0_21 v0_22 v0_23 v0_24 v0_25 v0_26 v0_27 v0_28 x0_3 (upd f1 (Int32.toNatClampNeg ((55 * l1) + (5 * l5))) ((f1 (Int32.toNatClampNeg ((55 * l1) + (5 * l5)))) ||| l3)) f2 f3) H := hP
              have hD : va_D A (wd_Model_spread kA a0 a1 a2 a3 v0_0 v0_1 v0_2 v0_5 v0_6 v0_8 v0_9 v0_10 v0_11 v0_12 v0_14 v0_15 v0_16 v0_17 v0_18 v0_19 v0_20 v0_21 v0_22 v0_23 v0_24 v0_25 v0_26 v0_27 v0_28 x0_3 (upd f1 (Int32.toNatClampNeg ((55 * l1) + (5 * l5))) ((f1 (Int32.toNatClampNeg ((55 * l1) + (5 * l5)))) ||| l3)) f2 f3) := hD
              refine lv_iinc (v := (l5 + 1)) (lv' := [(5, .int (l5 + 1)), (4, .int 1), (6, .int ((55 * l1) + (5 * l5))), (0, .ref a0), (1, .int l1), (2, .int l2), (3, .int l3)]) hx hb d_Model_spread_94 hl (k := 6) rfl (by rfl) (by decide) rfl (fun ls hl => ?_)
              refine lv_goto (tgt := 6) hx hb d_Model_spread_97 (by decide) ?_
              exact ih l1 l2 l3 1 (l5 + 1) (upd f1 (Int32.toNatClampNeg ((55 * l1) + (5 * l5))) ((f1 (Int32.toNatClampNeg ((55 * l1) + (5 * l5)))) ||| l3)) hF _ _ _ hP hD hS (lv_sub hl [3, 4, 5, 6, 1, 0] rfl)
def S_Model_spread (p1 : Int32) (p2 : Int32) (p3 : Int32) (x0_3 : Int32) (f1 : (Nat → Int32)) (f2 : (Nat → Int32)) (f3 : (Nat → Int32)) : Option (Int32 × (Nat → Int32)) := (F_Model_spread x0_3 f2 f3 fuel_ 0 p1 p2 p3 0 0 f1)
set_option maxHeartbeats 4000000 in
set_option maxRecDepth 100000 in
theorem c_Model_spread (l : Launch) (dC : Nat → ClassId) (dI : Nat → Nat → Nat) (kA : Nat → ClassId) (sz : Nat) (a0 a1 a2 a3 : Nat) (v0_0 v0_1 v0_2 v0_5 v0_6 v0_8 v0_9 v0_10 v0_11 v0_12 v0_14 v0_15 v0_16 v0_17 v0_18 v0_19 v0_20 v0_21 v0_22 v0_23 v0_24 v0_25 v0_26 v0_27 v0_28 : Value) (p1 : Int32) (p2 : Int32) (p3 : Int32) (x0_3 : Int32) (f1 : (Nat → Int32)) (f2 : (Nat → Int32)) (f3 : (Nat → Int32)) (r : Int32) (of1 : (Nat → Int32)) (hF : S_Model_spread p1 p2 p3 x0_3 f1 f2 f3 = some (r, of1)) : Met l y_Model_spread w_Model_spread rm_Model_spread (va_Pc [.ref a0, .int p1, .int p2, .int p3] (fun U => U.heap.size = sz ∧ va_P (dC, dI) classes (wd_Model_spread kA a0 a1 a2 a3 v0_0 v0_1 v0_2 v0_5 v0_6 v0_8 v0_9 v0_10 v0_11 v0_12 v0_14 v0_15 v0_16 v0_17 v0_18 v0_19 v0_20 v0_21 v0_22 v0_23 v0_24 v0_25 v0_26 v0_27 v0_28 x0_3 f1 f2 f3) U.heap ∧ va_K (dC, dI) classes (tys_ kA) U ∧ va_D (fun _ => True) (wd_Model_spread kA a0 a1 a2 a3 v0_0 v0_1 v0_2 v0_5 v0_6 v0_8 v0_9 v0_10 v0_11 v0_12 v0_14 v0_15 v0_16 v0_17 v0_18 v0_19 v0_20 v0_21 v0_22 v0_23 v0_24 v0_25 v0_26 v0_27 v0_28 x0_3 f1 f2 f3))) (va_Qi (fun (r1 : Int32) (_ : Unit) => r1 = r) (fun _ t => va_P (dC, dI) classes (wd_Model_spread kA a0 a1 a2 a3 v0_0 v0_1 v0_2 v0_5 v0_6 v0_8 v0_9 v0_10 v0_11 v0_12 v0_14 v0_15 v0_16 v0_17 v0_18 v0_19 v0_20 v0_21 v0_22 v0_23 v0_24 v0_25 v0_26 v0_27 v0_28 x0_3 of1 f2 f3) t.heap ∧ va_K (dC, dI) classes (tys_ kA) t ∧ va_D (va_A (wd_Model_spread kA a0 a1 a2 a3 v0_0 v0_1 v0_2 v0_5 v0_6 v0_8 v0_9 v0_10 v0_11 v0_12 v0_14 v0_15 v0_16 v0_17 v0_18 v0_19 v0_20 v0_21 v0_22 v0_23 v0_24 v0_25 v0_26 v0_27 v0_28 x0_3 f1 f2 f3) sz) (wd_Model_spread kA a0 a1 a2 a3 v0_0 v0_1 v0_2 v0_5 v0_6 v0_8 v0_9 v0_10 v0_11 v0_12 v0_14 v0_15 v0_16 v0_17 v0_18 v0_19 v0_20 v0_21 v0_22 v0_23 v0_24 v0_25 v0_26 v0_27 v0_28 x0_3 of1 f2 f3)) (va_A (wd_Model_spread kA a0 a1 a2 a3 v0_0 v0_1 v0_2 v0_5 v0_6 v0_8 v0_9 v0_10 v0_11 v0_12 v0_14 v0_15 v0_16 v0_17 v0_18 v0_19 v0_20 v0_21 v0_22 v0_23 v0_24 v0_25 v0_26 v0_27 v0_28 x0_3 f1 f2 f3) sz)) 0 0 (va_A (wd_Model_spread kA a0 a1 a2 a3 v0_0 v0_1 v0_2 v0_5 v0_6 v0_8 v0_9 v0_10 v0_11 v0_12 v0_14 v0_15 v0_16 v0_17 v0_18 v0_19 v0_20 v0_21 v0_22 v0_23 v0_24 v0_25 v0_26 v0_27 v0_28 x0_3 f1 f2 f3) sz) := by
  refine Met.ofW (cc := b_Model_spread) (maxL := 7) (ret := some .boolean) (by decide) rfl ?_
  intro p e s m args below meth c s₁ B hml hv
  obtain ⟨rfl, hsz, hP, hK, hD0⟩ := hv
  have hx := B.exec
  have hb := B.bytes
  have hr := B.returns
  have hts := atoms_spec (ws := w_Model_spread) B.pre
  have hown : s.vm.findClass R_Model = some m.cls := findClass_of_methodNamed B.named
  have hg := fun (w : Cond) (h : w ∈ gw) => hts w (List.mem_cons_of_mem _ h)
  have hlocks := B.notSynchronized
  subst hsz
  have hD := hD0.self (sz := s.heap.size)
  generalize hAe : va_A (wd_Model_spread kA a0 a1 a2 a3 v0_0 v0_1 v0_2 v0_5 v0_6 v0_8 v0_9 v0_10 v0_11 v0_12 v0_14 v0_15 v0_16 v0_17 v0_18 v0_19 v0_20 v0_21 v0_22 v0_23 v0_24 v0_25 v0_26 v0_27 v0_28 x0_3 f1 f2 f3) s.heap.size = A at hD ⊢
  have hA : ∀ q : Nat, s.heap.size ≤ q → A q := fun q h => by rw [← hAe]; exact Or.inr h
  have hS : va_S A s.heap s.heap [] := va_S.rf
  have hl := lv_entry ([.ref a0, .int p1, .int p2, .int p3]) (n := 7) (Nat.le_of_ble_eq_true rfl)
  rw [lg_entry_eq]
  generalize (lg_sl ([.ref a0, .int p1, .int p2, .int p3]) ++ List.replicate (7 - (lg_sl ([.ref a0, .int p1, .int p2, .int p3])).length) Slot.unset).toArray = ls at hl ⊢
  have hl : lv_has ls 7 [(0, .ref a0), (1, .int p1), (2, .int p2), (3, .int p3)] := hl
  unfold S_Model_spread at hF
  have ih := L_Model_spread (l := l) (e := e) (below := below) hx hb hr hlocks hml hown hts hA hK a0 a1 a2 a3 v0_0 v0_1 v0_2 v0_5 v0_6 v0_8 v0_9 v0_10 v0_11 v0_12 v0_14 v0_15 v0_16 v0_17 v0_18 v0_19 v0_20 v0_21 v0_22 v0_23 v0_24 v0_25 v0_26 v0_27 v0_28 x0_3 f2 f3 r of1 fuel_
  refine lv_iconst (v := 0) hx hb d_Model_spread_0 (by decide) ?_
  refine lv_istore (lv' := [(4, .int 0), (0, .ref a0), (1, .int p1), (2, .int p2), (3, .int p3)]) hx hb d_Model_spread_1 hl (by decide) rfl (fun ls hl => ?_)
  refine lv_iconst (v := 0) hx hb d_Model_spread_3 (by decide) ?_
  refine lv_istore (lv' := [(5, .int 0), (4, .int 0), (0, .ref a0), (1, .int p1), (2, .int p2), (3, .int p3)]) hx hb d_Model_spread_4 hl (by decide) rfl (fun ls hl => ?_)
  exact ih p1 p2 p3 0 0 f1 hF _ _ _ hP hD hS (lv_sub hl [2, 3, 4, 5, 1, 0] rfl)
-- ===== RepairDeskModel.close(I)V
abbrev wd_Model_close (kA : Nat → ClassId) (a0 a1 a2 a3 a4 a5 a6 a7 : Nat) (v0_0 v0_1 v0_2 v0_8 v0_11 v0_12 v0_14 v0_15 v0_16 v0_17 v0_18 v0_19 v0_20 v0_21 v0_22 v0_23 v0_24 v0_25 v0_26 v0_27 v0_28 : Value) (x0_3 : Int32) (f1 : (Nat → Int32)) (f2 : (Nat → Int32)) (f3 : (Nat → Int32)) (f4 : (Nat → Int32)) (f5 : (Nat → Int32)) (f6 : (Nat → Int32)) (f7 : (Nat → Int32)) : va_W := [(a0, .inr (9, [v0_0, v0_1, v0_2, .int x0_3, .ref a4, .ref a5, .ref a6, .ref a7, v0_8, .ref a1, .ref a2, v0_11, v0_12, .ref a3, v0_14, v0_15, v0_16, v0_17, v0_18, v0_19, v0_20, v0_21, v0_22, v0_23, v0_24, v0_25, v0_26, v0_27, v0_28])), (a1, .inl (kA 1, 6, .inl f1)), (a2, .inl (kA 0, 6, .inl f2)), (a3, .inl (kA 0, 2310, .inl f3)), (a4, .inl (kA 0, 11, .inl f4)), (a5, .inl (kA 0, 11, .inl f5)), (a6, .inl (kA 0, 44, .inl f6)), (a7, .inl (kA 1, 11, .inl f7))]
abbrev rm_Model_close : Room := { frames := 1, cells := 0, slots := 0, locals := 26 }
def B_Model_close_0 (K : Nat → Int32 → Int32 → Int32 → Int32 → Int32 → Int32 → (Nat → Int32) → Option ((Nat → Int32))) (x0_3 : Int32) (f1 : (Nat → Int32)) (f2 : (Nat → Int32)) (f4 : (Nat → Int32)) (f5 : (Nat → Int32)) (f6 : (Nat → Int32)) (f7 : (Nat → Int32)) (l1 : Int32) (l2 : Int32) (l3 : Int32) (l4 : Int32) (l5 : Int32) (s0 : Int32) (f3 : (Nat → Int32)) : Option ((Nat → Int32)) := (if l2 = 0 then (some f3) else (K 1 l1 0 0 0 0 0 f3))
def B_Model_close_1 (K : Nat → Int32 → Int32 → Int32 → Int32 → Int32 → Int32 → (Nat → Int32) → Option ((Nat → Int32))) (x0_3 : Int32) (f1 : (Nat → Int32)) (f2 : (Nat → Int32)) (f4 : (Nat → Int32)) (f5 : (Nat → Int32)) (f6 : (Nat → Int32)) (f7 : (Nat → Int32)) (l1 : Int32) (l2 : Int32) (l3 : Int32) (l4 : Int32) (l5 : Int32) (s0 : Int32) (f3 : (Nat → Int32)) : Option ((Nat → Int32)) := (if 11 ≤ l3 then (K 0 l1 l2 0 0 0 0 f3) else (K 2 l1 l2 l3 0 0 0 f3))
def B_Model_close_2 (K : Nat → Int32 → Int32 → Int32 → Int32 → Int32 → Int32 → (Nat → Int32) → Option ((Nat → Int32))) (x0_3 : Int32) (f1 : (Nat → Int32)) (f2 : (Nat → Int32)) (f4 : (Nat → Int32)) (f5 : (Nat → Int32)) (f6 : (Nat → Int32)) (f7 : (Nat → Int32)) (l1 : Int32) (l2 : Int32) (l3 : Int32) (l4 : Int32) (l5 : Int32) (s0 : Int32) (f3 : (Nat → Int32)) : Option ((Nat → Int32)) := (if 5 ≤ l4 then (K 1 l1 l2 (l3 + 1) 0 0 0 f3) else (if ((((55 * l1) + (5 * l3)) + l4) : Int32) < 0 ∨ 2310 ≤ (Int32.toNatClampNeg (((55 * l1) + (5 * l3)) + l4)) then none else (if (f3 (Int32.toNatClampNeg (((55 * l1) + (5 * l3)) + l4))) = 0 then (K 3 l1 l2 l3 l4 (f3 (Int32.toNatClampNeg (((55 * l1) + (5 * l3)) + l4))) (-1) f3) else ((S_Model_symbol l3 l4 f5 f6).bind fun u_6 => (K 3 l1 l2 l3 l4 (f3 (Int32.toNatClampNeg (((55 * l1) + (5 * l3)) + l4))) u_6 f3)))))
def B_Model_close_3 (K : Nat → Int32 → Int32 → Int32 → Int32 → Int32 → Int32 → (Nat → Int32) → Option ((Nat → Int32))) (x0_3 : Int32) (f1 : (Nat → Int32)) (f2 : (Nat → Int32)) (f4 : (Nat → Int32)) (f5 : (Nat → Int32)) (f6 : (Nat → Int32)) (f7 : (Nat → Int32)) (l1 : Int32) (l2 : Int32) (l3 : Int32) (l4 : Int32) (l5 : Int32) (s0 : Int32) (f3 : (Nat → Int32)) : Option ((Nat → Int32)) := (if s0 < 6 then (K 2 l1 l2 l3 (l4 + 1) 0 0 f3) else ((S_Model_begins l3 (l4 + 1) l5 f1 f2 f5 f6).bind fun u_8 => ((S_Model_spread l1 (s0 - 6) u_8 x0_3 f3 f4 f7).bind fun u_9 => (if ¬ u_9.1 = 0 then (K 2 l1 1 l3 (l4 + 1) 0 0 u_9.2) else (if l2 = 0 then (K 2 l1 0 l3 (l4 + 1) 0 0 u_9.2) else (K 2 l1 1 l3 (l4 + 1) 0 0 u_9.2))))))
def F_Model_close (x0_3 : Int32) (f1 : (Nat → Int32)) (f2 : (Nat → Int32)) (f4 : (Nat → Int32)) (f5 : (Nat → Int32)) (f6 : (Nat → Int32)) (f7 : (Nat → Int32)) : Nat → Nat → Int32 → Int32 → Int32 → Int32 → Int32 → Int32 → (Nat → Int32) → Option ((Nat → Int32))
  | 0 => fun _ _ _ _ _ _ _ _ => none
  | n + 1 => fun hd l1 l2 l3 l4 l5 s0 f3 => match hd with
    | 0 => B_Model_close_0 (F_Model_close x0_3 f1 f2 f4 f5 f6 f7 n) x0_3 f1 f2 f4 f5 f6 f7 l1 l2 l3 l4 l5 s0 f3
    | 1 => B_Model_close_1 (F_Model_close x0_3 f1 f2 f4 f5 f6 f7 n) x0_3 f1 f2 f4 f5 f6 f7 l1 l2 l3 l4 l5 s0 f3
    | 2 => B_Model_close_2 (F_Model_close x0_3 f1 f2 f4 f5 f6 f7 n) x0_3 f1 f2 f4 f5 f6 f7 l1 l2 l3 l4 l5 s0 f3
    | 3 => B_Model_close_3 (F_Model_close x0_3 f1 f2 f4 f5 f6 f7 n) x0_3 f1 f2 f4 f5 f6 f7 l1 l2 l3 l4 l5 s0 f3
    | _ => none
set_option maxHeartbeats 4000000 in
set_option maxRecDepth 100000 in
theorem L_Model_close {p : Program} {l : Launch} {e : Env} {s : State} {m : MethodId} {args : Array Value} {below : List Frame} {meth : Method} {c : Code} {A : Nat → Prop} {dC : Nat → ClassId} {dI : Nat → Nat → Nat} {kA : Nat → ClassId} (hx : p.tables.exec = Jvm.exec) (hb : c.code = b_Model_close) (hr : meth.sig.returnType = none) (hlocks : meth.locks = false) (hml : c.maxLocals = 7) (hown : s.vm.findClass R_Model = some m.cls) (hts : ∀ w ∈ w_Model_close, w.before args s = true) (hA : ∀ q : Nat, s.heap.size ≤ q → A q) (hK : va_K (dC, dI) classes (tys_ kA) s) (a0 a1 a2 a3 a4 a5 a6 a7 : Nat) (v0_0 v0_1 v0_2 v0_8 v0_11 v0_12 v0_14 v0_15 v0_16 v0_17 v0_18 v0_19 v0_20 v0_21 v0_22 v0_23 v0_24 v0_25 v0_26 v0_27 v0_28 : Value) (x0_3 : Int32) (f1 : (Nat → Int32)) (f2 : (Nat → Int32)) (f4 : (Nat → Int32)) (f5 : (Nat → Int32)) (f6 : (Nat → Int32)) (f7 : (Nat → Int32)) (of3 : (Nat → Int32)) : ∀ n : Nat, (∀ (l1 l2 l3 l4 l5 s0 : Int32) (f3 : (Nat → Int32)), F_Model_close x0_3 f1 f2 f4 f5 f6 f7 n 0 l1 l2 l3 l4 l5 s0 f3 = some of3 → ∀ (H : Heap) (locs : List Loc) (ls : Array Slot), va_P (dC, dI) classes (wd_Model_close kA a0 a1 a2 a3 a4 a5 a6 a7 v0_0 v0_1 v0_2 v0_8 v0_11 v0_12 v0_14 v0_15 v0_16 v0_17 v0_18 v0_19 v0_20 v0_21 v0_22 v0_23 v0_24 v0_25 v0_26 v0_27 v0_28 x0_3 f1 f2 f3 f4 f5 f6 f7) H → va_D A (wd_Model_close kA a0 a1 a2 a3 a4 a5 a6 a7 v0_0 v0_1 v0_2 v0_8 v0_11 v0_12 v0_14 v0_15 v0_16 v0_17 v0_18 v0_19 v0_20 v0_21 v0_22 v0_23 v0_24 v0_25 v0_26 v0_27 v0_28 x0_3 f1 f2 f3 f4 f5 f6 f7) → va_S A s.heap H locs → lv_has ls 7 [(0, .ref a0), (1, .int l1), (2, .int l2)] → W p l e (headSpec w_Model_close rm_Model_close).room s m args below meth c H locs 0 0 (MQ below (va_Qv (fun (_ : Unit) => True) (fun _ t => va_P (dC, dI) classes (wd_Model_close kA a0 a1 a2 a3 a4 a5 a6 a7 v0_0 v0_1 v0_2 v0_8 v0_11 v0_12 v0_14 v0_15 v0_16 v0_17 v0_18 v0_19 v0_20 v0_21 v0_22 v0_23 v0_24 v0_25 v0_26 v0_27 v0_28 x0_3 f1 f2 of3 f4 f5 f6 f7) t.heap ∧ va_K (dC, dI) classes (tys_ kA) t ∧ va_D A (wd_Model_close kA a0 a1 a2 a3 a4 a5 a6 a7 v0_0 v0_1 v0_2 v0_8 v0_11 v0_12 v0_14 v0_15 v0_16 v0_17 v0_18 v0_19 v0_20 v0_21 v0_22 v0_23 v0_24 v0_25 v0_26 v0_27 v0_28 x0_3 f1 f2 of3 f4 f5 f6 f7)) A) args s 0 0 A) (F0 m 2 ls [])) ∧ (∀ (l1 l2 l3 l4 l5 s0 : Int32) (f3 : (Nat → Int32)), F_Model_close x0_3 f1 f2 f4 f5 f6 f7 n 1 l1 l2 l3 l4 l5 s0 f3 = some of3 → ∀ (H : Heap) (locs : List Loc) (ls : Array Slot), va_P (dC, dI) classes (wd_Model_close kA a0 a1 a2 a3 a4 a5 a6 a7 v0_0 v0_1 v0_2 v0_8 v0_11 v0_12 v0_14 v0_15 v0_16 v0_17 v0_18 v0_19 v0_20 v0_21 v0_22 v0_23 v0_24 v0_25 v0_26 v0_27 v0_28 x0_3 f1 f2 f3 f4 f5 f6 f7) H → va_D A (wd_Model_close kA a0 a1 a2 a3 a4 a5 a6 a7 v0_0 v0_1 v0_2 v0_8 v0_11 v0_12 v0_14 v0_15 v0_16 v0_17 v0_18 v0_19 v0_20 v0_21 v0_22 v0_23 v0_24 v0_25 v0_26 v0_27 v0_28 x0_3 f1 f2 f3 f4 f5 f6 f7) → va_S A s.heap H locs → lv_has ls 7 [(0, .ref a0), (1, .int l1), (2, .int l2), (3, .int l3)] → W p l e (headSpec w_Model_close rm_Model_close).room s m args below meth c H locs 0 0 (MQ below (va_Qv (fun (_ : Unit) => True) (fun _ t => va_P (dC, dI) classes (wd_Model_close kA a0 a1 a2 a3 a4 a5 a6 a7 v0_0 v0_1 v0_2 v0_8 v0_11 v0_12 v0_14 v0_15 v0_16 v0_17 v0_18 v0_19 v0_20 v0_21 v0_22 v0_23 v0_24 v0_25 v0_26 v0_27 v0_28 x0_3 f1 f2 of3 f4 f5 f6 f7) t.heap ∧ va_K (dC, dI) classes (tys_ kA) t ∧ va_D A (wd_Model_close kA a0 a1 a2 a3 a4 a5 a6 a7 v0_0 v0_1 v0_2 v0_8 v0_11 v0_12 v0_14 v0_15 v0_16 v0_17 v0_18 v0_19 v0_20 v0_21 v0_22 v0_23 v0_24 v0_25 v0_26 v0_27 v0_28 x0_3 f1 f2 of3 f4 f5 f6 f7)) A) args s 0 0 A) (F0 m 10 ls [])) ∧ (∀ (l1 l2 l3 l4 l5 s0 : Int32) (f3 : (Nat → Int32)), F_Model_close x0_3 f1 f2 f4 f5 f6 f7 n 2 l1 l2 l3 l4 l5 s0 f3 = some of3 → ∀ (H : Heap) (locs : List Loc) (ls : Array Slot), va_P (dC, dI) classes (wd_Model_close kA a0 a1 a2 a3 a4 a5 a6 a7 v0_0 v0_1 v0_2 v0_8 v0_11 v0_12 v0_14 v0_15 v0_16 v0_17 v0_18 v0_19 v0_20 v0_21 v0_22 v0_23 v0_24 v0_25 v0_26 v0_27 v0_28 x0_3 f1 f2 f3 f4 f5 f6 f7) H → va_D A (wd_Model_close kA a0 a1 a2 a3 a4 a5 a6 a7 v0_0 v0_1 v0_2 v0_8 v0_11 v0_12 v0_14 v0_15 v0_16 v0_17 v0_18 v0_19 v0_20 v0_21 v0_22 v0_23 v0_24 v0_25 v0_26 v0_27 v0_28 x0_3 f1 f2 f3 f4 f5 f6 f7) → va_S A s.heap H locs → lv_has ls 7 [(0, .ref a0), (1, .int l1), (2, .int l2), (3, .int l3), (4, .int l4)] → W p l e (headSpec w_Model_close rm_Model_close).room s m args below meth c H locs 0 0 (MQ below (va_Qv (fun (_ : Unit) => True) (fun _ t => va_P (dC, dI) classes (wd_Model_close kA a0 a1 a2 a3 a4 a5 a6 a7 v0_0 v0_1 v0_2 v0_8 v0_11 v0_12 v0_14 v0_15 v0_16 v0_17 v0_18 v0_19 v0_20 v0_21 v0_22 v0_23 v0_24 v0_25 v0_26 v0_27 v0_28 x0_3 f1 f2 of3 f4 f5 f6 f7) t.heap ∧ va_K (dC, dI) classes (tys_ kA) t ∧ va_D A (wd_Model_close kA a0 a1 a2 a3 a4 a5 a6 a7 v0_0 v0_1 v0_2 v0_8 v0_11 v0_12 v0_14 v0_15 v0_16 v0_17 v0_18 v0_19 v0_20 v0_21 v0_22 v0_23 v0_24 v0_25 v0_26 v0_27 v0_28 x0_3 f1 f2 of3 f4 f5 f6 f7)) A) args s 0 0 A) (F0 m 19 ls [])) ∧ (∀ (l1 l2 l3 l4 l5 s0 : Int32) (f3 : (Nat → Int32)), F_Model_close x0_3 f1 f2 f4 f5 f6 f7 n 3 l1 l2 l3 l4 l5 s0 f3 = some of3 → ∀ (H : Heap) (locs : List Loc) (ls : Array Slot), va_P (dC, dI) classes (wd_Model_close kA a0 a1 a2 a3 a4 a5 a6 a7 v0_0 v0_1 v0_2 v0_8 v0_11 v0_12 v0_14 v0_15 v0_16 v0_17 v0_18 v0_19 v0_20 v0_21 v0_22 v0_23 v0_24 v0_25 v0_26 v0_27 v0_28 x0_3 f1 f2 f3 f4 f5 f6 f7) H → va_D A (wd_Model_close kA a0 a1 a2 a3 a4 a5 a6 a7 v0_0 v0_1 v0_2 v0_8 v0_11 v0_12 v0_14 v0_15 v0_16 v0_17 v0_18 v0_19 v0_20 v0_21 v0_22 v0_23 v0_24 v0_25 v0_26 v0_27 v0_28 x0_3 f1 f2 f3 f4 f5 f6 f7) → va_S A s.heap H locs → lv_has ls 7 [(0, .ref a0), (1, .int l1), (2, .int l2), (3, .int l3), (4, .int l4), (5, .int l5)] → W p l e (headSpec w_Model_close rm_Model_close).room s m args below meth c H locs 0 0 (MQ below (va_Qv (fun (_ : Unit) => True) (fun _ t => va_P (dC, dI) classes (wd_Model_close kA a0 a1 a2 a3 a4 a5 a6 a7 v0_0 v0_1 v0_2 v0_8 v0_11 v0_12 v0_14 v0_15 v0_16 v0_17 v0_18 v0_19 v0_20 v0_21 v0_22 v0_23 v0_24 v0_25 v0_26 v0_27 v0_28 x0_3 f1 f2 of3 f4 f5 f6 f7) t.heap ∧ va_K (dC, dI) classes (tys_ kA) t ∧ va_D A (wd_Model_close kA a0 a1 a2 a3 a4 a5 a6 a7 v0_0 v0_1 v0_2 v0_8 v0_11 v0_12 v0_14 v0_15 v0_16 v0_17 v0_18 v0_19 v0_20 v0_21 v0_22 v0_23 v0_24 v0_25 v0_26 v0_27 v0_28 x0_3 f1 f2 of3 f4 f5 f6 f7)) A) args s 0 0 A) (F0 m 59 ls [.int s0])) := by
  have hg := fun (w : Cond) (h : w ∈ gw) => hts w (List.mem_cons_of_mem _ h)
  intro n
  induction n with
  | zero =>
    exact ⟨fun _ _ _ _ _ _ _ hF => absurd (show (none : Option _) = some _ from hF) (fun z => by cases z), fun _ _ _ _ _ _ _ hF => absurd (show (none : Option _) = some _ from hF) (fun z => by cases z), fun _ _ _ _ _ _ _ hF => absurd (show (none : Option _) = some _ from hF) (fun z => by cases z), fun _ _ _ _ _ _ _ hF => absurd (show (none : Option _) = some _ from hF) (fun z => by cases z)⟩
  | succ n ih =>
    refine ⟨?_, ?_, ?_, ?_⟩
    · intro l1 l2 l3 l4 l5 s0 f3 hF H locs ls hP hD hS hl
      have hF : B_Model_close_0 (F_Model_close x0_3 f1 f2 f4 f5 f6 f7 n) x0_3 f1 f2 f4 f5 f6 f7 l1 l2 l3 l4 l5 s0 f3 = some of3 := hF
      unfold B_Model_close_0 at hF
      refine lv_iload_n hx hb d_Model_close_2 rfl (lv_at hl 2 rfl) ?_
      refine lv_if_eq (tgt := 117) hx hb d_Model_close_3 (by decide) (fun c_1 => ?_) (fun c_1 => ?_)
      · rw [if_pos c_1] at hF
        have e0 := Option.some.inj hF
        exact W.vret hx hb hr (fun t ht hW => ⟨⟨(), rfl, trivial, by rw [ht, ← e0]; exact hP, va_K.moved hW.alike hK, (by rw [← e0]; exact hD)⟩, hS.F ht⟩) hS.2.2 d_Model_close_117 hlocks
      · rw [if_neg c_1] at hF
        refine lv_iconst (v := 0) hx hb d_Model_close_6 (by decide) ?_
        refine lv_istore_n (lv' := [(2, .int 0), (0, .ref a0), (1, .int l1)]) hx hb d_Model_close_7 rfl hl (by decide) rfl (fun ls hl => ?_)
        refine lv_iconst (v := 0) hx hb d_Model_close_8 (by decide) ?_
        refine lv_istore_n (lv' := [(3, .int 0), (2, .int 0), (0, .ref a0), (1, .int l1)]) hx hb d_Model_close_9 rfl hl (by decide) rfl (fun ls hl => ?_)
        exact ih.2.1 l1 0 0 0 0 0 f3 hF _ _ _ hP hD hS (lv_sub hl [2, 3, 1, 0] rfl)
    · intro l1 l2 l3 l4 l5 s0 f3 hF H locs ls hP hD hS hl
      have hF : B_Model_close_1 (F_Model_close x0_3 f1 f2 f4 f5 f6 f7 n) x0_3 f1 f2 f4 f5 f6 f7 l1 l2 l3 l4 l5 s0 f3 = some of3 := hF
      unfold B_Model_close_1 at hF
      refine lv_iload_n hx hb d_Model_close_10 rfl (lv_at hl 3 rfl) ?_
      refine lv_bipush (v := 11) hx hb d_Model_close_11 (by decide) ?_
      refine lv_icmp_ge (tgt := 114) hx hb d_Model_close_13 (by decide) (fun c_2 => ?_) (fun c_2 => ?_)
      · rw [if_pos c_2] at hF
        refine lv_goto (tgt := 2) hx hb d_Model_close_114 (by decide) ?_
        exact ih.1 l1 l2 0 0 0 0 f3 hF _ _ _ hP hD hS (lv_sub hl [0, 1, 2] rfl)
      · rw [if_neg c_2] at hF
        refine lv_iconst (v := 0) hx hb d_Model_close_16 (by decide) ?_
        refine lv_istore (lv' := [(4, .int 0), (0, .ref a0), (1, .int l1), (2, .int l2), (3, .int l3)]) hx hb d_Model_close_17 hl (by decide) rfl (fun ls hl => ?_)
        exact ih.2.2.1 l1 l2 l3 0 0 0 f3 hF _ _ _ hP hD hS (lv_sub hl [1, 2, 3, 4, 0] rfl)
    · intro l1 l2 l3 l4 l5 s0 f3 hF H locs ls hP hD hS hl
      have hF : B_Model_close_2 (F_Model_close x0_3 f1 f2 f4 f5 f6 f7 n) x0_3 f1 f2 f4 f5 f6 f7 l1 l2 l3 l4 l5 s0 f3 = some of3 := hF
      unfold B_Model_close_2 at hF
      refine lv_iload hx hb d_Model_close_19 (lv_at hl 4 rfl) ?_
      refine lv_iconst (v := 5) hx hb d_Model_close_21 (by decide) ?_
      refine lv_icmp_ge (tgt := 108) hx hb d_Model_close_22 (by decide) (fun c_3 => ?_) (fun c_3 => ?_)
      · rw [if_pos c_3] at hF
        refine lv_iinc (v := (l3 + 1)) (lv' := [(3, .int (l3 + 1)), (0, .ref a0), (1, .int l1), (2, .int l2), (4, .int l4)]) hx hb d_Model_close_108 hl (k := 3) rfl (by rfl) (by decide) rfl (fun ls hl => ?_)
        refine lv_goto (tgt := 10) hx hb d_Model_close_111 (by decide) ?_
        exact ih.2.1 l1 l2 (l3 + 1) 0 0 0 f3 hF _ _ _ hP hD hS (lv_sub hl [1, 2, 3, 0] rfl)
      · rw [if_neg c_3] at hF
        refine lv_aload_n hx hb d_Model_close_25 rfl (lv_at hl 0 rfl) ?_
        refine va_get (D := (dC, dI)) (ci := 9) (v := .ref a3) (C := R_Model) (T := F_Model) (N := 29) hx hb hg iw_Model hown hK hP 0 rfl rfl 13 (by decide) (hg _ gw_297) (fun _ h9 => h9) rfl d_Model_close_26 ?_
        refine lv_bipush (v := 55) hx hb d_Model_close_29 (by decide) ?_
        refine lv_iload_n hx hb d_Model_close_31 rfl (lv_at hl 1 rfl) ?_
        refine lv_imul hx hb d_Model_close_32 ?_
        refine lv_iconst (v := 5) hx hb d_Model_close_33 (by decide) ?_
        refine lv_iload_n hx hb d_Model_close_34 rfl (lv_at hl 3 rfl) ?_
        refine lv_imul hx hb d_Model_close_35 ?_
        refine lv_iadd hx hb d_Model_close_36 ?_
        refine lv_iload hx hb d_Model_close_37 (lv_at hl 4 rfl) ?_
        refine lv_iadd hx hb d_Model_close_39 ?_
        obtain ⟨h_4, hF⟩ := rd_chk hF
        refine va_iald hx hb hK hP 3 0 rfl rfl h_4 d_Model_close_40 ?_
        refine lv_istore (lv' := [(5, .int (f3 (Int32.toNatClampNeg (((55 * l1) + (5 * l3)) + l4)))), (0, .ref a0), (1, .int l1), (2, .int l2), (3, .int l3), (4, .int l4)]) hx hb d_Model_close_41 hl (by decide) rfl (fun ls hl => ?_)
        refine lv_iload hx hb d_Model_close_43 (lv_at hl 0 rfl) ?_
        refine lv_if_eq (tgt := 58) hx hb d_Model_close_45 (by decide) (fun c_5 => ?_) (fun c_5 => ?_)
        · rw [if_pos c_5] at hF
          refine lv_iconst (v := (-1)) hx hb d_Model_close_58 (by decide) ?_
          exact ih.2.2.2 l1 l2 l3 l4 (f3 (Int32.toNatClampNeg (((55 * l1) + (5 * l3)) + l4))) (-1) f3 hF _ _ _ hP hD hS (lv_sub hl [1, 2, 3, 4, 5, 0] rfl)
        · rw [if_neg c_5] at hF
          refine lv_aload_n hx hb d_Model_close_48 rfl (lv_at hl 1 rfl) ?_
          refine lv_iload_n hx hb d_Model_close_49 rfl (lv_at hl 4 rfl) ?_
          refine lv_iload hx hb d_Model_close_50 (lv_at hl 5 rfl) ?_
          obtain ⟨u_6, hS_6, hF⟩ := rd_bind hF
          have hPc := hP.sub (ws' := (wd_Model_symbol kA a0 a5 a6 v0_0 v0_1 v0_2 (.int x0_3) (.ref a4) (.ref a7) v0_8 (.ref a1) (.ref a2) v0_11 v0_12 (.ref a3) v0_14 v0_15 v0_16 v0_17 v0_18 v0_19 v0_20 v0_21 v0_22 v0_23 v0_24 v0_25 v0_26 v0_27 v0_28 f5 f6)) [0, 5, 6] rfl
          have hDc := hD.sub (ws' := (wd_Model_symbol kA a0 a5 a6 v0_0 v0_1 v0_2 (.int x0_3) (.ref a4) (.ref a7) v0_8 (.ref a1) (.ref a2) v0_11 v0_12 (.ref a3) v0_14 v0_15 v0_16 v0_17 v0_18 v0_19 v0_20 v0_21 v0_22 v0_23 v0_24 v0_25 v0_26 v0_27 v0_28 f5 f6)) [0, 5, 6] (by decide) rfl
          have hFc := va_free (wc := (wd_Model_symbol kA a0 a5 a6 v0_0 v0_1 v0_2 (.int x0_3) (.ref a4) (.ref a7) v0_8 (.ref a1) (.ref a2) v0_11 v0_12 (.ref a3) v0_14 v0_15 v0_16 v0_17 v0_18 v0_19 v0_20 v0_21 v0_22 v0_23 v0_24 v0_25 v0_26 v0_27 v0_28 f5 f6)) hD hS hA [0, 5, 6] rfl
          refine va_calli (va_runV (As := [.int l3, .int l4]) (rest := []) ⟨hx, hb, hml, hown, hts⟩ (c_Model_symbol l dC dI kA H.size a0 a5 a6 v0_0 v0_1 v0_2 (.int x0_3) (.ref a4) (.ref a7) v0_8 (.ref a1) (.ref a2) v0_11 v0_12 (.ref a3) v0_14 v0_15 v0_16 v0_17 v0_18 v0_19 v0_20 v0_21 v0_22 v0_23 v0_24 v0_25 v0_26 v0_27 v0_28 l3 l4 f5 f6 u_6 hS_6) (cwV 2 hts (gw_V gw_298 gw_299 gw_300 gw_267 gw_301) rfl rfl rfl (by decide +kernel) ⟨Nat.le_of_ble_eq_true rfl, Nat.le_of_ble_eq_true rfl⟩) ⟨fun a U g mk q => by obtain ⟨q0, q1, qP, qK, qD⟩ := q; exact ⟨q0, q1, qP, va_K.moved (u := U) (U := U.calling g mk a) (Vm.Alike.refl U.vm) qK, qD⟩, va_recv hK hP (ci := 9) (q0 := 0) rfl rfl, fun U hU hW => ⟨rfl, by rw [hU], by rw [hU]; exact hPc, va_K.moved hW.alike hK, hDc.weaken (fun _ _ _ _ => trivial)⟩⟩ rfl rfl hl.1 rfl (lv_room (Nat.le_of_ble_eq_true rfl)) d_Model_close_52 ⟨Nat.zero_le _, Nat.zero_le _⟩) hS (fun q _ h => hFc q h) hFc (fun r1 u t H1 locs ht hvm hw hB hz1 hk1 hS => ?_)
          rw [show r1 = _ from hw]
          obtain ⟨hP1, hK1, hD1⟩ := hB
          rw [ht] at hP1
          obtain ⟨hP, hD⟩ := va_join (wr := [(a1, .inl (kA 1, 6, .inl f1)), (a2, .inl (kA 0, 6, .inl f2)), (a3, .inl (kA 0, 2310, .inl f3)), (a4, .inl (kA 0, 11, .inl f4)), (a7, .inl (kA 1, 11, .inl f7))]) (w1 := (wd_Model_symbol kA a0 a5 a6 v0_0 v0_1 v0_2 (.int x0_3) (.ref a4) (.ref a7) v0_8 (.ref a1) (.ref a2) v0_11 v0_12 (.ref a3) v0_14 v0_15 v0_16 v0_17 v0_18 v0_19 v0_20 v0_21 v0_22 v0_23 v0_24 v0_25 v0_26 v0_27 v0_28 f5 f6)) hP hD [0, 5, 6] [1, 2, 3, 4, 7] rfl rfl (by decide) (by decide) hk1 hFc hP1 hD1
          have hP := hP.sub (ws' := (wd_Model_close kA a0 a1 a2 a3 a4 a5 a6 a7 v0_0 v0_1 v0_2 v0_8 v0_11 v0_12 v0_14 v0_15 v0_16 v0_17 v0_18 v0_19 v0_20 v0_21 v0_22 v0_23 v0_24 v0_25 v0_26 v0_27 v0_28 x0_3 f1 f2 f3 f4 f5 f6 f7)) [5, 0, 1, 2, 3, 6, 7, 4] rfl
          have hD := hD.sub (ws' := (wd_Model_close kA a0 a1 a2 a3 a4 a5 a6 a7 v0_0 v0_1 v0_2 v0_8 v0_11 v0_12 v0_14 v0_15 v0_16 v0_17 v0_18 v0_19 v0_20 v0_21 v0_22 v0_23 v0_24 v0_25 v0_26 v0_27 v0_28 x0_3 f1 f2 f3 f4 f5 f6 f7)) [5, 0, 1, 2, 3, 6, 7, 4] (by decide) rfl
          clear hPc hDc hFc hP1 hK1 hD1
          generalize H1 = H at hP hS ⊢
          refine lv_goto (tgt := 59) hx hb d_Model_close_55 (by decide) ?_
          exact ih.2.2.2 l1 l2 l3 l4 (f3 (Int32.toNatClampNeg (((55 * l1) + (5 * l3)) + l4))) u_6 f3 hF _ _ _ hP hD hS (lv_sub hl [1, 2, 3, 4, 5, 0] rfl)
    · intro l1 l2 l3 l4 l5 s0 f3 hF H locs ls hP hD hS hl
      have hF : B_Model_close_3 (F_Model_close x0_3 f1 f2 f4 f5 f6 f7 n) x0_3 f1 f2 f4 f5 f6 f7 l1 l2 l3 l4 l5 s0 f3 = some of3 := hF
      unfold B_Model_close_3 at hF
      refine lv_istore (lv' := [(6, .int s0), (0, .ref a0), (1, .int l1), (2, .int l2), (3, .int l3), (4, .int l4), (5, .int l5)]) hx hb d_Model_close_59 hl (by decide) rfl (fun ls hl => ?_)
      refine lv_iload hx hb d_Model_close_61 (lv_at hl 0 rfl) ?_
      refine lv_bipush (v := 6) hx hb d_Model_close_63 (by decide) ?_
      refine lv_icmp_lt (tgt := 102) hx hb d_Model_close_65 (by decide) (fun c_7 => ?_) (fun c_7 => ?_)
      · rw [if_pos c_7] at hF
        refine lv_iinc (v := (l4 + 1)) (lv' := [(4, .int (l4 + 1)), (6, .int s0), (0, .ref a0), (1, .int l1), (2, .int l2), (3, .int l3), (5, .int l5)]) hx hb d_Model_close_102 hl (k := 5) rfl (by rfl) (by decide) rfl (fun ls hl => ?_)
        refine lv_goto (tgt := 19) hx hb d_Model_close_105 (by decide) ?_
        exact ih.2.2.1 l1 l2 l3 (l4 + 1) 0 0 f3 hF _ _ _ hP hD hS (lv_sub hl [2, 3, 4, 5, 0] rfl)
      · rw [if_neg c_7] at hF
        refine lv_aload_n hx hb d_Model_close_68 rfl (lv_at hl 1 rfl) ?_
        refine lv_iload_n hx hb d_Model_close_69 rfl (lv_at hl 2 rfl) ?_
        refine lv_iload hx hb d_Model_close_70 (lv_at hl 0 rfl) ?_
        refine lv_bipush (v := 6) hx hb d_Model_close_72 (by decide) ?_
        refine lv_isub hx hb d_Model_close_74 ?_
        refine lv_aload_n hx hb d_Model_close_75 rfl (lv_at hl 1 rfl) ?_
        refine lv_iload_n hx hb d_Model_close_76 rfl (lv_at hl 4 rfl) ?_
        refine lv_iload hx hb d_Model_close_77 (lv_at hl 5 rfl) ?_
        refine lv_iconst (v := 1) hx hb d_Model_close_79 (by decide) ?_
        refine lv_iadd hx hb d_Model_close_80 ?_
        refine lv_iload hx hb d_Model_close_81 (lv_at hl 6 rfl) ?_
        obtain ⟨u_8, hS_8, hF⟩ := rd_bind hF
        have hPc := hP.sub (ws' := (wd_Model_begins kA a0 a1 a2 a5 a6 v0_0 v0_1 v0_2 (.int x0_3) (.ref a4) (.ref a7) v0_8 v0_11 v0_12 (.ref a3) v0_14 v0_15 v0_16 v0_17 v0_18 v0_19 v0_20 v0_21 v0_22 v0_23 v0_24 v0_25 v0_26 v0_27 v0_28 f1 f2 f5 f6)) [0, 1, 2, 5, 6] rfl
        have hDc := hD.sub (ws' := (wd_Model_begins kA a0 a1 a2 a5 a6 v0_0 v0_1 v0_2 (.int x0_3) (.ref a4) (.ref a7) v0_8 v0_11 v0_12 (.ref a3) v0_14 v0_15 v0_16 v0_17 v0_18 v0_19 v0_20 v0_21 v0_22 v0_23 v0_24 v0_25 v0_26 v0_27 v0_28 f1 f2 f5 f6)) [0, 1, 2, 5, 6] (by decide) rfl
        have hFc := va_free (wc := (wd_Model_begins kA a0 a1 a2 a5 a6 v0_0 v0_1 v0_2 (.int x0_3) (.ref a4) (.ref a7) v0_8 v0_11 v0_12 (.ref a3) v0_14 v0_15 v0_16 v0_17 v0_18 v0_19 v0_20 v0_21 v0_22 v0_23 v0_24 v0_25 v0_26 v0_27 v0_28 f1 f2 f5 f6)) hD hS hA [0, 1, 2, 5, 6] rfl
        refine va_calli (va_runV (As := [.int l3, .int (l4 + 1), .int l5]) (rest := [.int (s0 - 6), .int l1, .ref a0]) ⟨hx, hb, hml, hown, hts⟩ (c_Model_begins l dC dI kA H.size a0 a1 a2 a5 a6 v0_0 v0_1 v0_2 (.int x0_3) (.ref a4) (.ref a7) v0_8 v0_11 v0_12 (.ref a3) v0_14 v0_15 v0_16 v0_17 v0_18 v0_19 v0_20 v0_21 v0_22 v0_23 v0_24 v0_25 v0_26 v0_27 v0_28 l3 (l4 + 1) l5 f1 f2 f5 f6 u_8 hS_8) (cwV 3 hts (gw_V gw_289 gw_290 gw_291 gw_267 gw_292) rfl rfl rfl (by decide +kernel) ⟨Nat.le_of_ble_eq_true rfl, Nat.le_of_ble_eq_true rfl⟩) ⟨fun a U g mk q => by obtain ⟨q0, q1, qP, qK, qD⟩ := q; exact ⟨q0, q1, qP, va_K.moved (u := U) (U := U.calling g mk a) (Vm.Alike.refl U.vm) qK, qD⟩, va_recv hK hP (ci := 9) (q0 := 0) rfl rfl, fun U hU hW => ⟨rfl, by rw [hU], by rw [hU]; exact hPc, va_K.moved hW.alike hK, hDc.weaken (fun _ _ _ _ => trivial)⟩⟩ rfl rfl hl.1 rfl (lv_room (Nat.le_of_ble_eq_true rfl)) d_Model_close_83 ⟨Nat.zero_le _, Nat.zero_le _⟩) hS (fun q _ h => hFc q h) hFc (fun r1 u t H1 locs ht hvm hw hB hz1 hk1 hS => ?_)
        rw [show r1 = _ from hw]
        obtain ⟨hP1, hK1, hD1⟩ := hB
        rw [ht] at hP1
        obtain ⟨hP, hD⟩ := va_join (wr := [(a3, .inl (kA 0, 2310, .inl f3)), (a4, .inl (kA 0, 11, .inl f4)), (a7, .inl (kA 1, 11, .inl f7))]) (w1 := (wd_Model_begins kA a0 a1 a2 a5 a6 v0_0 v0_1 v0_2 (.int x0_3) (.ref a4) (.ref a7) v0_8 v0_11 v0_12 (.ref a3) v0_14 v0_15 v0_16 v0_17 v0_18 v0_19 v0_20 v0_21 v0_22 v0_23 v0_24 v0_25 v0_26 v0_27 v0_28 f1 f2 f5 f6)) hP hD [0, 1, 2, 5, 6] [3, 4, 7] rfl rfl (by decide) (by decide) hk1 hFc hP1 hD1
        have hP := hP.sub (ws' := (wd_Model_close kA a0 a1 a2 a3 a4 a5 a6 a7 v0_0 v0_1 v0_2 v0_8 v0_11 v0_12 v0_14 v0_15 v0_16 v0_17 v0_18 v0_19 v0_20 v0_21 v0_22 v0_23 v0_24 v0_25 v0_26 v0_27 v0_28 x0_3 f1 f2 f3 f4 f5 f6 f7)) [3, 4, 5, 0, 1, 6, 7, 2] rfl
        have hD := hD.sub (ws' := (wd_Model_close kA a0 a1 a2 a3 a4 a5 a6 a7 v0_0 v0_1 v0_2 v0_8 v0_11 v0_12 v0_14 v0_15 v0_16 v0_17 v0_18 v0_19 v0_20 v0_21 v0_22 v0_23 v0_24 v0_25 v0_26 v0_27 v0_28 x0_3 f1 f2 f3 f4 f5 f6 f7)) [3, 4, 5, 0, 1, 6, 7, 2] (by decide) rfl
        clear hPc hDc hFc hP1 hK1 hD1
        generalize H1 = H at hP hS ⊢
        obtain ⟨u_9, hS_9, hF⟩ := rd_bind hF
        have hPc := hP.sub (ws' := (wd_Model_spread kA a0 a3 a4 a7 v0_0 v0_1 v0_2 (.ref a5) (.ref a6) v0_8 (.ref a1) (.ref a2) v0_11 v0_12 v0_14 v0_15 v0_16 v0_17 v0_18 v0_19 v0_20 v0_21 v0_22 v0_23 v0_24 v0_25 v0_26 v0_27 v0_28 x0_3 f3 f4 f7)) [0, 3, 4, 7] rfl
        have hDc := hD.sub (ws' := (wd_Model_spread kA a0 a3 a4 a7 v0_0 v0_1 v0_2 (.ref a5) (.ref a6) v0_8 (.ref a1) (.ref a2) v0_11 v0_12 v0_14 v0_15 v0_16 v0_17 v0_18 v0_19 v0_20 v0_21 v0_22 v0_23 v0_24 v0_25 v0_26 v0_27 v0_28 x0_3 f3 f4 f7)) [0, 3, 4, 7] (by decide) rfl
        have hFc := va_free (wc := (wd_Model_spread kA a0 a3 a4 a7 v0_0 v0_1 v0_2 (.ref a5) (.ref a6) v0_8 (.ref a1) (.ref a2) v0_11 v0_12 v0_14 v0_15 v0_16 v0_17 v0_18 v0_19 v0_20 v0_21 v0_22 v0_23 v0_24 v0_25 v0_26 v0_27 v0_28 x0_3 f3 f4 f7)) hD hS hA [0, 3, 4, 7] rfl
        refine va_calli (va_runV (As := [.int l1, .int (s0 - 6), .int u_8]) (rest := []) ⟨hx, hb, hml, hown, hts⟩ (c_Model_spread l dC dI kA H.size a0 a3 a4 a7 v0_0 v0_1 v0_2 (.ref a5) (.ref a6) v0_8 (.ref a1) (.ref a2) v0_11 v0_12 v0_14 v0_15 v0_16 v0_17 v0_18 v0_19 v0_20 v0_21 v0_22 v0_23 v0_24 v0_25 v0_26 v0_27 v0_28 l1 (s0 - 6) u_8 x0_3 f3 f4 f7 u_9.1 u_9.2 hS_9) (cwV 3 hts (gw_V gw_302 gw_303 gw_304 gw_267 gw_305) rfl rfl rfl (by decide +kernel) ⟨Nat.le_of_ble_eq_true rfl, Nat.le_of_ble_eq_true rfl⟩) ⟨fun a U g mk q => by obtain ⟨q0, q1, qP, qK, qD⟩ := q; exact ⟨q0, q1, qP, va_K.moved (u := U) (U := U.calling g mk a) (Vm.Alike.refl U.vm) qK, qD⟩, va_recv hK hP (ci := 9) (q0 := 0) rfl rfl, fun U hU hW => ⟨rfl, by rw [hU], by rw [hU]; exact hPc, va_K.moved hW.alike hK, hDc.weaken (fun _ _ _ _ => trivial)⟩⟩ rfl rfl hl.1 rfl (lv_room (Nat.le_of_ble_eq_true rfl)) d_Model_close_86 ⟨Nat.zero_le _, Nat.zero_le _⟩) hS (fun q _ h => hFc q h) hFc (fun r1 u t H1 locs ht hvm hw hB hz1 hk1 hS => ?_)
        rw [show r1 = _ from hw]
        obtain ⟨hP1, hK1, hD1⟩ := hB
        rw [ht] at hP1
        obtain ⟨hP, hD⟩ := va_join (wr := [(a1, .inl (kA 1, 6, .inl f1)), (a2, .inl (kA 0, 6, .inl f2)), (a5, .inl (kA 0, 11, .inl f5)), (a6, .inl (kA 0, 44, .inl f6))]) (w1 := (wd_Model_spread kA a0 a3 a4 a7 v0_0 v0_1 v0_2 (.ref a5) (.ref a6) v0_8 (.ref a1) (.ref a2) v0_11 v0_12 v0_14 v0_15 v0_16 v0_17 v0_18 v0_19 v0_20 v0_21 v0_22 v0_23 v0_24 v0_25 v0_26 v0_27 v0_28 x0_3 u_9.2 f4 f7)) hP hD [0, 3, 4, 7] [1, 2, 5, 6] rfl rfl (by decide) (by decide) hk1 hFc hP1 hD1
        have hP := hP.sub (ws' := (wd_Model_close kA a0 a1 a2 a3 a4 a5 a6 a7 v0_0 v0_1 v0_2 v0_8 v0_11 v0_12 v0_14 v0_15 v0_16 v0_17 v0_18 v0_19 v0_20 v0_21 v0_22 v0_23 v0_24 v0_25 v0_26 v0_27 v0_28 x0_3 f1 f2 u_9.2 f4 f5 f6 f7)) [4, 0, 1, 5, 6, 2, 3, 7] rfl
        have hD := hD.sub (ws' := (wd_Model_close kA a0 a1 a2 a3 a4 a5 a6 a7 v0_0 v0_1 v0_2 v0_8 v0_11 v0_12 v0_14 v0_15 v0_16 v0_17 v0_18 v0_19 v0_20 v0_21 v0_22 v0_23 v0_24 v0_25 v0_26 v0_27 v0_28 x0_3 f1 f2 u_9.2 f4 f5 f6 f7)) [4, 0, 1, 5, 6, 2, 3, 7] (by decide) rfl
        clear hPc hDc hFc hP1 hK1 hD1
        generalize H1 = H at hP hS ⊢
        refine lv_if_ne (tgt := 96) hx hb d_Model_close_89 (by decide) (fun c_10 => ?_) (fun c_10 => ?_)
        · rw [if_pos c_10] at hF
          refine lv_iconst (v := 1) hx hb d_Model_close_96 (by decide) ?_
          refine lv_goto (tgt := 101) hx hb d_Model_close_97 (by decide) ?_
          refine lv_istore_n (lv' := [(2, .int 1), (6, .int s0), (0, .ref a0), (1, .int l1), (3, .int l3), (4, .int l4), (5, .int l5)]) hx hb d_Model_close_101 rfl hl (by decide) rfl (fun ls hl => ?_)
          refine lv_iinc (v := (l4 + 1)) (lv' := [(4, .int (l4 + 1)), (2, .int 1), (6, .int s0), (0, .ref a0), (1, .int l1), (3, .int l3), (5, .int l5)]) hx hb d_Model_close_102 hl (k := 5) rfl (by rfl) (by decide) rfl (fun ls hl => ?_)
          refine lv_goto (tgt := 19) hx hb d_Model_close_105 (by decide) ?_
          exact ih.2.2.1 l1 1 l3 (l4 + 1) 0 0 u_9.2 hF _ _ _ hP hD hS (lv_sub hl [3, 4, 1, 5, 0] rfl)
        · rw [if_neg (fun z => z c_10)] at hF
          refine lv_iload_n hx hb d_Model_close_92 rfl (lv_at hl 3 rfl) ?_
          refine lv_if_eq (tgt := 100) hx hb d_Model_close_93 (by decide) (fun c_11 => ?_) (fun c_11 => ?_)
          · rw [if_pos c_11] at hF
            refine lv_iconst (v := 0) hx hb d_Model_close_100 (by decide) ?_
            refine lv_istore_n (lv' := [(2, .int 0), (6, .int s0), (0, .ref a0), (1, .int l1), (3, .int l3), (4, .int l4), (5, .int l5)]) hx hb d_Model_close_101 rfl hl (by decide) rfl (fun ls hl => ?_)
            refine lv_iinc (v := (l4 + 1)) (lv' := [(4, .int (l4 + 1)), (2, .int 0), (6, .int s0), (0, .ref a0), (1, .int l1), (3, .int l3), (5, .int l5)]) hx hb d_Model_close_102 hl (k := 5) rfl (by rfl) (by decide) rfl (fun ls hl => ?_)
            refine lv_goto (tgt := 19) hx hb d_Model_close_105 (by decide) ?_
            exact ih.2.2.1 l1 0 l3 (l4 + 1) 0 0 u_9.2 hF _ _ _ hP hD hS (lv_sub hl [3, 4, 1, 5, 0] rfl)
          · rw [if_neg c_11] at hF
            refine lv_iconst (v := 1) hx hb d_Model_close_96 (by decide) ?_
            refine lv_goto (tgt := 101) hx hb d_Model_close_97 (by decide) ?_
            refine lv_istore_n (lv' := [(2, .int 1), (6, .int s0), (0, .ref a0), (1, .int l1), (3, .int l3), (4, .int l4), (5, .int l5)]) hx hb d_Model_close_101 rfl hl (by decide) rfl (fun ls hl => ?_)
            refine lv_iinc (v := (l4 + 1)) (lv' := [(4, .int (l4 + 1)), (2, .int 1), (6, .int s0), (0, .ref a0), (1, .int l1), (3, .int l3), (5, .int l5)]) hx hb d_Model_close_102 hl (k := 5) rfl (by rfl) (by decide) rfl (fun ls hl => ?_)
            refine lv_goto (tgt := 19) hx hb d_Model_close_105 (by decide) ?_
            exact ih.2.2.1 l1 1 l3 (l4 + 1) 0 0 u_9.2 hF _ _ _ hP hD hS (lv_sub hl [3, 4, 1, 5, 0] rfl)
def S_Model_close (p1 : Int32) (x0_3 : Int32) (f1 : (Nat → Int32)) (f2 : (Nat → Int32)) (f3 : (Nat → Int32)) (f4 : (Nat → Int32)) (f5 : (Nat → Int32)) (f6 : (Nat → Int32)) (f7 : (Nat → Int32)) : Option ((Nat → Int32)) := (F_Model_close x0_3 f1 f2 f4 f5 f6 f7 fuel_ 0 p1 1 0 0 0 0 f3)
set_option maxHeartbeats 4000000 in
set_option maxRecDepth 100000 in
theorem c_Model_close (l : Launch) (dC : Nat → ClassId) (dI : Nat → Nat → Nat) (kA : Nat → ClassId) (sz : Nat) (a0 a1 a2 a3 a4 a5 a6 a7 : Nat) (v0_0 v0_1 v0_2 v0_8 v0_11 v0_12 v0_14 v0_15 v0_16 v0_17 v0_18 v0_19 v0_20 v0_21 v0_22 v0_23 v0_24 v0_25 v0_26 v0_27 v0_28 : Value) (p1 : Int32) (x0_3 : Int32) (f1 : (Nat → Int32)) (f2 : (Nat → Int32)) (f3 : (Nat → Int32)) (f4 : (Nat → Int32)) (f5 : (Nat → Int32)) (f6 : (Nat → Int32)) (f7 : (Nat → Int32)) (of3 : (Nat → Int32)) (hF : S_Model_close p1 x0_3 f1 f2 f3 f4 f5 f6 f7 = some of3) : Met l y_Model_close w_Model_close rm_Model_close (va_Pc [.ref a0, .int p1] (fun U => U.heap.size = sz ∧ va_P (dC, dI) classes (wd_Model_close kA a0 a1 a2 a3 a4 a5 a6 a7 v0_0 v0_1 v0_2 v0_8 v0_11 v0_12 v0_14 v0_15 v0_16 v0_17 v0_18 v0_19 v0_20 v0_21 v0_22 v0_23 v0_24 v0_25 v0_26 v0_27 v0_28 x0_3 f1 f2 f3 f4 f5 f6 f7) U.heap ∧ va_K (dC, dI) classes (tys_ kA) U ∧ va_D (fun _ => True) (wd_Model_close kA a0 a1 a2 a3 a4 a5 a6 a7 v0_0 v0_1 v0_2 v0_8 v0_11 v0_12 v0_14 v0_15 v0_16 v0_17 v0_18 v0_19 v0_20 v0_21 v0_22 v0_23 v0_24 v0_25 v0_26 v0_27 v0_28 x0_3 f1 f2 f3 f4 f5 f6 f7))) (va_Qv (fun (_ : Unit) => True) (fun _ t => va_P (dC, dI) classes (wd_Model_close kA a0 a1 a2 a3 a4 a5 a6 a7 v0_0 v0_1 v0_2 v0_8 v0_11 v0_12 v0_14 v0_15 v0_16 v0_17 v0_18 v0_19 v0_20 v0_21 v0_22 v0_23 v0_24 v0_25 v0_26 v0_27 v0_28 x0_3 f1 f2 of3 f4 f5 f6 f7) t.heap ∧ va_K (dC, dI) classes (tys_ kA) t ∧ va_D (va_A (wd_Model_close kA a0 a1 a2 a3 a4 a5 a6 a7 v0_0 v0_1 v0_2 v0_8 v0_11 v0_12 v0_14 v0_15 v0_16 v0_17 v0_18 v0_19 v0_20 v0_21 v0_22 v0_23 v0_24 v0_25 v0_26 v0_27 v0_28 x0_3 f1 f2 f3 f4 f5 f6 f7) sz) (wd_Model_close kA a0 a1 a2 a3 a4 a5 a6 a7 v0_0 v0_1 v0_2 v0_8 v0_11 v0_12 v0_14 v0_15 v0_16 v0_17 v0_18 v0_19 v0_20 v0_21 v0_22 v0_23 v0_24 v0_25 v0_26 v0_27 v0_28 x0_3 f1 f2 of3 f4 f5 f6 f7)) (va_A (wd_Model_close kA a0 a1 a2 a3 a4 a5 a6 a7 v0_0 v0_1 v0_2 v0_8 v0_11 v0_12 v0_14 v0_15 v0_16 v0_17 v0_18 v0_19 v0_20 v0_21 v0_22 v0_23 v0_24 v0_25 v0_26 v0_27 v0_28 x0_3 f1 f2 f3 f4 f5 f6 f7) sz)) 0 0 (va_A (wd_Model_close kA a0 a1 a2 a3 a4 a5 a6 a7 v0_0 v0_1 v0_2 v0_8 v0_11 v0_12 v0_14 v0_15 v0_16 v0_17 v0_18 v0_19 v0_20 v0_21 v0_22 v0_23 v0_24 v0_25 v0_26 v0_27 v0_28 x0_3 f1 f2 f3 f4 f5 f6 f7) sz) := by
  refine Met.ofW (cc := b_Model_close) (maxL := 7) (ret := none) (by decide) rfl ?_
  intro p e s m args below meth c s₁ B hml hv
  obtain ⟨rfl, hsz, hP, hK, hD0⟩ := hv
  have hx := B.exec
  have hb := B.bytes
  have hr := B.returns
  have hts := atoms_spec (ws := w_Model_close) B.pre
  have hown : s.vm.findClass R_Model = some m.cls := findClass_of_methodNamed B.named
  have hg := fun (w : Cond) (h : w ∈ gw) => hts w (List.mem_cons_of_mem _ h)
  have hlocks := B.notSynchronized
  subst hsz
  have hD := hD0.self (sz := s.heap.size)
  generalize hAe : va_A (wd_Model_close kA a0 a1 a2 a3 a4 a5 a6 a7 v0_0 v0_1 v0_2 v0_8 v0_11 v0_12 v0_14 v0_15 v0_16 v0_17 v0_18 v0_19 v0_20 v0_21 v0_22 v0_23 v0_24 v0_25 v0_26 v0_27 v0_28 x0_3 f1 f2 f3 f4 f5 f6 f7) s.heap.size = A at hD ⊢
  have hA : ∀ q : Nat, s.heap.size ≤ q → A q := fun q h => by rw [← hAe]; exact Or.inr h
  have hS : va_S A s.heap s.heap [] := va_S.rf
  have hl := lv_entry ([.ref a0, .int p1]) (n := 7) (Nat.le_of_ble_eq_true rfl)
  rw [lg_entry_eq]
  generalize (lg_sl ([.ref a0, .int p1]) ++ List.replicate (7 - (lg_sl ([.ref a0, .int p1])).length) Slot.unset).toArray = ls at hl ⊢
  have hl : lv_has ls 7 [(0, .ref a0), (1, .int p1)] := hl
  unfold S_Model_close at hF
  have ih := L_Model_close (l := l) (e := e) (below := below) hx hb hr hlocks hml hown hts hA hK a0 a1 a2 a3 a4 a5 a6 a7 v0_0 v0_1 v0_2 v0_8 v0_11 v0_12 v0_14 v0_15 v0_16 v0_17 v0_18 v0_19 v0_20 v0_21 v0_22 v0_23 v0_24 v0_25 v0_26 v0_27 v0_28 x0_3 f1 f2 f4 f5 f6 f7 of3 fuel_
  refine lv_iconst (v := 1) hx hb d_Model_close_0 (by decide) ?_
  refine lv_istore_n (lv' := [(2, .int 1), (0, .ref a0), (1, .int p1)]) hx hb d_Model_close_1 rfl hl (by decide) rfl (fun ls hl => ?_)
  exact ih.1 p1 1 0 0 0 0 f3 hF _ _ _ hP hD hS (lv_sub hl [1, 2, 0] rfl)
-- ===== RepairDeskModel.led(II)I
abbrev wd_Model_led (kA : Nat → ClassId) (a0 a1 a2 a3 a4 a5 a6 a7 : Nat) (v0_0 v0_1 v0_2 v0_8 v0_12 v0_14 v0_15 v0_16 v0_17 v0_18 v0_19 v0_20 v0_21 v0_22 v0_23 v0_24 v0_25 v0_26 v0_27 v0_28 : Value) (x0_3 : Int32) (x0_11 : Int32) (f1 : (Nat → Int32)) (f2 : (Nat → Int32)) (f3 : (Nat → Int32)) (f4 : (Nat → Int32)) (f5 : (Nat → Int32)) (f6 : (Nat → Int32)) (f7 : (Nat → Int32)) : va_W := [(a0, .inr (9, [v0_0, v0_1, v0_2, .int x0_3, .ref a4, .ref a5, .ref a6, .ref a7, v0_8, .ref a1, .ref a2, .int x0_11, v0_12, .ref a3, v0_14, v0_15, v0_16, v0_17, v0_18, v0_19, v0_20, v0_21, v0_22, v0_23, v0_24, v0_25, v0_26, v0_27, v0_28])), (a1, .inl (kA 1, 6, .inl f1)), (a2, .inl (kA 0, 6, .inl f2)), (a3, .inl (kA 0, 2310, .inl f3)), (a4, .inl (kA 0, 11, .inl f4)), (a5, .inl (kA 0, 11, .inl f5)), (a6, .inl (kA 0, 44, .inl f6)), (a7, .inl (kA 1, 11, .inl f7))]
abbrev rm_Model_led : Room := { frames := 2, cells := 0, slots := 0, locals := 52 }
def B_Model_led_0 (K : Nat → Int32 → Int32 → Int32 → Int32 → Int32 → Int32 → Int32 → (Nat → Int32) → Option (Int32 × Int32 × (Nat → Int32))) (x0_3 : Int32) (f1 : (Nat → Int32)) (f2 : (Nat → Int32)) (f4 : (Nat → Int32)) (f5 : (Nat → Int32)) (f6 : (Nat → Int32)) (f7 : (Nat → Int32)) (l1 : Int32) (l2 : Int32) (l3 : Int32) (l4 : Int32) (l5 : Int32) (l6 : Int32) (x0_11 : Int32) (f3 : (Nat → Int32)) : Option (Int32 × Int32 × (Nat → Int32)) := (if 55 ≤ l4 then (K 1 l1 l2 l3 0 0 0 x0_11 f3) else (if (((55 * x0_11) + l4) : Int32) < 0 ∨ 2310 ≤ (Int32.toNatClampNeg ((55 * x0_11) + l4)) then none else (K 0 l1 l2 l3 (l4 + 1) 0 0 x0_11 (upd f3 (Int32.toNatClampNeg ((55 * x0_11) + l4)) 0))))
def B_Model_led_1 (K : Nat → Int32 → Int32 → Int32 → Int32 → Int32 → Int32 → Int32 → (Nat → Int32) → Option (Int32 × Int32 × (Nat → Int32))) (x0_3 : Int32) (f1 : (Nat → Int32)) (f2 : (Nat → Int32)) (f4 : (Nat → Int32)) (f5 : (Nat → Int32)) (f6 : (Nat → Int32)) (f7 : (Nat → Int32)) (l1 : Int32) (l2 : Int32) (l3 : Int32) (l4 : Int32) (l5 : Int32) (l6 : Int32) (x0_11 : Int32) (f3 : (Nat → Int32)) : Option (Int32 × Int32 × (Nat → Int32)) := (if 11 ≤ l4 then (if ¬ l3 = 0 then ((S_Model_close x0_11 x0_3 f1 f2 f3 f4 f5 f6 f7).bind fun u_5 => (K 3 l1 l2 l3 0 0 0 x0_11 u_5)) else (some ((-1), x0_11, f3))) else (K 2 l1 l2 l3 l4 0 0 x0_11 f3))
def B_Model_led_2 (K : Nat → Int32 → Int32 → Int32 → Int32 → Int32 → Int32 → Int32 → (Nat → Int32) → Option (Int32 × Int32 × (Nat → Int32))) (x0_3 : Int32) (f1 : (Nat → Int32)) (f2 : (Nat → Int32)) (f4 : (Nat → Int32)) (f5 : (Nat → Int32)) (f6 : (Nat → Int32)) (f7 : (Nat → Int32)) (l1 : Int32) (l2 : Int32) (l3 : Int32) (l4 : Int32) (l5 : Int32) (l6 : Int32) (x0_11 : Int32) (f3 : (Nat → Int32)) : Option (Int32 × Int32 × (Nat → Int32)) := (if 4 ≤ l5 then (K 1 l1 l2 l3 (l4 + 1) 0 0 x0_11 f3) else (if ((((55 * l1) + (5 * l4)) + l5) : Int32) < 0 ∨ 2310 ≤ (Int32.toNatClampNeg (((55 * l1) + (5 * l4)) + l5)) then none else (if (f3 (Int32.toNatClampNeg (((55 * l1) + (5 * l4)) + l5))) = 0 then (K 2 l1 l2 l3 l4 (l5 + 1) 0 x0_11 f3) else ((S_Model_symbol l4 l5 f5 f6).bind fun u_9 => (if ¬ u_9 = l2 then (K 2 l1 l2 l3 l4 (l5 + 1) 0 x0_11 f3) else (if (((((55 * x0_11) + (5 * l4)) + l5) + 1) : Int32) < 0 ∨ 2310 ≤ (Int32.toNatClampNeg ((((55 * x0_11) + (5 * l4)) + l5) + 1)) then none else (K 2 l1 l2 1 l4 (l5 + 1) 0 x0_11 (upd f3 (Int32.toNatClampNeg ((((55 * x0_11) + (5 * l4)) + l5) + 1)) (f3 (Int32.toNatClampNeg (((55 * l1) + (5 * l4)) + l5)))))))))))
def B_Model_led_3 (K : Nat → Int32 → Int32 → Int32 → Int32 → Int32 → Int32 → Int32 → (Nat → Int32) → Option (Int32 × Int32 × (Nat → Int32))) (x0_3 : Int32) (f1 : (Nat → Int32)) (f2 : (Nat → Int32)) (f4 : (Nat → Int32)) (f5 : (Nat → Int32)) (f6 : (Nat → Int32)) (f7 : (Nat → Int32)) (l1 : Int32) (l2 : Int32) (l3 : Int32) (l4 : Int32) (l5 : Int32) (l6 : Int32) (x0_11 : Int32) (f3 : (Nat → Int32)) : Option (Int32 × Int32 × (Nat → Int32)) := (if x0_11 ≤ l4 then (some (((x0_11 + 1) - 1), (x0_11 + 1), f3)) else (K 4 l1 l2 l3 l4 1 0 x0_11 f3))
def B_Model_led_4 (K : Nat → Int32 → Int32 → Int32 → Int32 → Int32 → Int32 → Int32 → (Nat → Int32) → Option (Int32 × Int32 × (Nat → Int32))) (x0_3 : Int32) (f1 : (Nat → Int32)) (f2 : (Nat → Int32)) (f4 : (Nat → Int32)) (f5 : (Nat → Int32)) (f6 : (Nat → Int32)) (f7 : (Nat → Int32)) (l1 : Int32) (l2 : Int32) (l3 : Int32) (l4 : Int32) (l5 : Int32) (l6 : Int32) (x0_11 : Int32) (f3 : (Nat → Int32)) : Option (Int32 × Int32 × (Nat → Int32)) := (if 55 ≤ l6 then (if l5 = 0 then (K 3 l1 l2 l3 (l4 + 1) 0 0 x0_11 f3) else (some (l4, x0_11, f3))) else (if l5 = 0 then (if l5 = 0 then (K 3 l1 l2 l3 (l4 + 1) 0 0 x0_11 f3) else (some (l4, x0_11, f3))) else (if (((55 * l4) + l6) : Int32) < 0 ∨ 2310 ≤ (Int32.toNatClampNeg ((55 * l4) + l6)) then none else (if (((55 * x0_11) + l6) : Int32) < 0 ∨ 2310 ≤ (Int32.toNatClampNeg ((55 * x0_11) + l6)) then none else (if ¬ (f3 (Int32.toNatClampNeg ((55 * l4) + l6))) = (f3 (Int32.toNatClampNeg ((55 * x0_11) + l6))) then (K 4 l1 l2 l3 l4 0 (l6 + 1) x0_11 f3) else (K 4 l1 l2 l3 l4 1 (l6 + 1) x0_11 f3))))))
def F_Model_led (x0_3 : Int32) (f1 : (Nat → Int32)) (f2 : (Nat → Int32)) (f4 : (Nat → Int32)) (f5 : (Nat → Int32)) (f6 : (Nat → Int32)) (f7 : (Nat → Int32)) : Nat → Nat → Int32 → Int32 → Int32 → Int32 → Int32 → Int32 → Int32 → (Nat → Int32) → Option (Int32 × Int32 × (Nat → Int32))
  | 0 => fun _ _ _ _ _ _ _ _ _ => none
  | n + 1 => fun hd l1 l2 l3 l4 l5 l6 x0_11 f3 => match hd with
    | 0 => B_Model_led_0 (F_Model_led x0_3 f1 f2 f4 f5 f6 f7 n) x0_3 f1 f2 f4 f5 f6 f7 l1 l2 l3 l4 l5 l6 x0_11 f3
    | 1 => B_Model_led_1 (F_Model_led x0_3 f1 f2 f4 f5 f6 f7 n) x0_3 f1 f2 f4 f5 f6 f7 l1 l2 l3 l4 l5 l6 x0_11 f3
    | 2 => B_Model_led_2 (F_Model_led x0_3 f1 f2 f4 f5 f6 f7 n) x0_3 f1 f2 f4 f5 f6 f7 l1 l2 l3 l4 l5 l6 x0_11 f3
    | 3 => B_Model_led_3 (F_Model_led x0_3 f1 f2 f4 f5 f6 f7 n) x0_3 f1 f2 f4 f5 f6 f7 l1 l2 l3 l4 l5 l6 x0_11 f3
    | 4 => B_Model_led_4 (F_Model_led x0_3 f1 f2 f4 f5 f6 f7 n) x0_3 f1 f2 f4 f5 f6 f7 l1 l2 l3 l4 l5 l6 x0_11 f3
    | _ => none
set_option maxHeartbeats 4000000 in
set_option maxRecDepth 100000 in
theorem L_Model_led {p : Program} {l : Launch} {e : Env} {s : State} {m : MethodId} {args : Array Value} {below : List Frame} {meth : Method} {c : Code} {A : Nat → Prop} {dC : Nat → ClassId} {dI : Nat → Nat → Nat} {kA : Nat → ClassId} (hx : p.tables.exec = Jvm.exec) (hb : c.code = b_Model_led) (hr : meth.sig.returnType = some .int) (hlocks : meth.locks = false) (hml : c.maxLocals = 7) (hown : s.vm.findClass R_Model = some m.cls) (hts : ∀ w ∈ w_Model_led, w.before args s = true) (hA : ∀ q : Nat, s.heap.size ≤ q → A q) (hK : va_K (dC, dI) classes (tys_ kA) s) (a0 a1 a2 a3 a4 a5 a6 a7 : Nat) (v0_0 v0_1 v0_2 v0_8 v0_12 v0_14 v0_15 v0_16 v0_17 v0_18 v0_19 v0_20 v0_21 v0_22 v0_23 v0_24 v0_25 v0_26 v0_27 v0_28 : Value) (x0_3 : Int32) (f1 : (Nat → Int32)) (f2 : (Nat → Int32)) (f4 : (Nat → Int32)) (f5 : (Nat → Int32)) (f6 : (Nat → Int32)) (f7 : (Nat → Int32)) (r : Int32) (ox0_11 : Int32) (of3 : (Nat → Int32)) : ∀ n : Nat, (∀ (l1 l2 l3 l4 l5 l6 : Int32) (x0_11 : Int32) (f3 : (Nat → Int32)), F_Model_led x0_3 f1 f2 f4 f5 f6 f7 n 0 l1 l2 l3 l4 l5 l6 x0_11 f3 = some (r, ox0_11, of3) → ∀ (H : Heap) (locs : List Loc) (ls : Array Slot), va_P (dC, dI) classes (wd_Model_led kA a0 a1 a2 a3 a4 a5 a6 a7 v0_0 v0_1 v0_2 v0_8 v0_12 v0_14 v0_15 v0_16 v0_17 v0_18 v0_19 v0_20 v0_21 v0_22 v0_23 v0_24 v0_25 v0_26 v0_27 v0_28 x0_3 x0_11 f1 f2 f3 f4 f5 f6 f7) H → va_D A (wd_Model_led kA a0 a1 a2 a3 a4 a5 a6 a7 v0_0 v0_1 v0_2 v0_8 v0_12 v0_14 v0_15 v0_16 v0_17 v0_18 v0_19 v0_20 v0_21 v0_22 v0_23 v0_24 v0_25 v0_26 v0_27 v0_28 x0_3 x0_11 f1 f2 f3 f4 f5 f6 f7) → va_S A s.heap H locs → lv_has ls 7 [(0, .ref a0), (1, .int l1), (2, .int l2), (3, .int l3), (4, .int l4)] → W p l e (headSpec w_Model_led rm_Model_led).room s m args below meth c H locs 0 0 (MQ below (va_Qi (fun (r1 : Int32) (_ : Unit) => r1 = r) (fun _ t => va_P (dC, dI) classes (wd_Model_led kA a0 a1 a2 a3 a4 a5 a6 a7 v0_0 v0_1 v0_2 v0_8 v0_12 v0_14 v0_15 v0_16 v0_17 v0_18 v0_19 v0_20 v0_21 v0_22 v0_23 v0_24 v0_25 v0_26 v0_27 v0_28 x0_3 ox0_11 f1 f2 of3 f4 f5 f6 f7) t.heap ∧ va_K (dC, dI) classes (tys_ kA) t ∧ va_D A (wd_Model_led kA a0 a1 a2 a3 a4 a5 a6 a7 v0_0 v0_1 v0_2 v0_8 v0_12 v0_14 v0_15 v0_16 v0_17 v0_18 v0_19 v0_20 v0_21 v0_22 v0_23 v0_24 v0_25 v0_26 v0_27 v0_28 x0_3 ox0_11 f1 f2 of3 f4 f5 f6 f7)) A) args s 0 0 A) (F0 m 5 ls [])) ∧ (∀ (l1 l2 l3 l4 l5 l6 : Int32) (x0_11 : Int32) (f3 : (Nat → Int32)), F_Model_led x0_3 f1 f2 f4 f5 f6 f7 n 1 l1 l2 l3 l4 l5 l6 x0_11 f3 = some (r, ox0_11, of3) → ∀ (H : Heap) (locs : List Loc) (ls : Array Slot), va_P (dC, dI) classes (wd_Model_led kA a0 a1 a2 a3 a4 a5 a6 a7 v0_0 v0_1 v0_2 v0_8 v0_12 v0_14 v0_15 v0_16 v0_17 v0_18 v0_19 v0_20 v0_21 v0_22 v0_23 v0_24 v0_25 v0_26 v0_27 v0_28 x0_3 x0_11 f1 f2 f3 f4 f5 f6 f7) H → va_D A (wd_Model_led kA a0 a1 a2 a3 a4 a5 a6 a7 v0_0 v0_1 v0_2 v0_8 v0_12 v0_14 v0_15 v0_16 v0_17 v0_18 v0_19 v0_20 v0_21 v0_22 v0_23 v0_24 v0_25 v0_26 v0_27 v0_28 x0_3 x0_11 f1 f2 f3 f4 f5 f6 f7) → va_S A s.heap H locs → lv_has ls 7 [(0, .ref a0), (1, .int l1), (2, .int l2), (3, .int l3), (4, .int l4)] → W p l e (headSpec w_Model_led rm_Model_led).room s m args below meth c H locs 0 0 (MQ below (va_Qi (fun (r1 : Int32) (_ : Unit) => r1 = r) (fun _ t => va_P (dC, dI) classes (wd_Model_led kA a0 a1 a2 a3 a4 a5 a6 a7 v0_0 v0_1 v0_2 v0_8 v0_12 v0_14 v0_15 v0_16 v0_17 v0_18 v0_19 v0_20 v0_21 v0_22 v0_23 v0_24 v0_25 v0_26 v0_27 v0_28 x0_3 ox0_11 f1 f2 of3 f4 f5 f6 f7) t.heap ∧ va_K (dC, dI) classes (tys_ kA) t ∧ va_D A (wd_Model_led kA a0 a1 a2 a3 a4 a5 a6 a7 v0_0 v0_1 v0_2 v0_8 v0_12 v0_14 v0_15 v0_16 v0_17 v0_18 v0_19 v0_20 v0_21 v0_22 v0_23 v0_24 v0_25 v0_26 v0_27 v0_28 x0_3 ox0_11 f1 f2 of3 f4 f5 f6 f7)) A) args s 0 0 A) (F0 m 37 ls [])) ∧ (∀ (l1 l2 l3 l4 l5 l6 : Int32) (x0_11 : Int32) (f3 : (Nat → Int32)), F_Model_led x0_3 f1 f2 f4 f5 f6 f7 n 2 l1 l2 l3 l4 l5 l6 x0_11 f3 = some (r, ox0_11, of3) → ∀ (H : Heap) (locs : List Loc) (ls : Array Slot), va_P (dC, dI) classes (wd_Model_led kA a0 a1 a2 a3 a4 a5 a6 a7 v0_0 v0_1 v0_2 v0_8 v0_12 v0_14 v0_15 v0_16 v0_17 v0_18 v0_19 v0_20 v0_21 v0_22 v0_23 v0_24 v0_25 v0_26 v0_27 v0_28 x0_3 x0_11 f1 f2 f3 f4 f5 f6 f7) H → va_D A (wd_Model_led kA a0 a1 a2 a3 a4 a5 a6 a7 v0_0 v0_1 v0_2 v0_8 v0_12 v0_14 v0_15 v0_16 v0_17 v0_18 v0_19 v0_20 v0_21 v0_22 v0_23 v0_24 v0_25 v0_26 v0_27 v0_28 x0_3 x0_11 f1 f2 f3 f4 f5 f6 f7) → va_S A s.heap H locs → lv_has ls 7 [(0, .ref a0), (1, .int l1), (2, .int l2), (3, .int l3), (4, .int l4), (5, .int l5)] → W p l e (headSpec w_Model_led rm_Model_led).room s m args below meth c H locs 0 0 (MQ below (va_Qi (fun (r1 : Int32) (_ : Unit) => r1 = r) (fun _ t => va_P (dC, dI) classes (wd_Model_led kA a0 a1 a2 a3 a4 a5 a6 a7 v0_0 v0_1 v0_2 v0_8 v0_12 v0_14 v0_15 v0_16 v0_17 v0_18 v0_19 v0_20 v0_21 v0_22 v0_23 v0_24 v0_25 v0_26 v0_27 v0_28 x0_3 ox0_11 f1 f2 of3 f4 f5 f6 f7) t.heap ∧ va_K (dC, dI) classes (tys_ kA) t ∧ va_D A (wd_Model_led kA a0 a1 a2 a3 a4 a5 a6 a7 v0_0 v0_1 v0_2 v0_8 v0_12 v0_14 v0_15 v0_16 v0_17 v0_18 v0_19 v0_20 v0_21 v0_22 v0_23 v0_24 v0_25 v0_26 v0_27 v0_28 x0_3 ox0_11 f1 f2 of3 f4 f5 f6 f7)) A) args s 0 0 A) (F0 m 47 ls [])) ∧ (∀ (l1 l2 l3 l4 l5 l6 : Int32) (x0_11 : Int32) (f3 : (Nat → Int32)), F_Model_led x0_3 f1 f2 f4 f5 f6 f7 n 3 l1 l2 l3 l4 l5 l6 x0_11 f3 = some (r, ox0_11, of3) → ∀ (H : Heap) (locs : List Loc) (ls : Array Slot), va_P (dC, dI) classes (wd_Model_led kA a0 a1 a2 a3 a4 a5 a6 a7 v0_0 v0_1 v0_2 v0_8 v0_12 v0_14 v0_15 v0_16 v0_17 v0_18 v0_19 v0_20 v0_21 v0_22 v0_23 v0_24 v0_25 v0_26 v0_27 v0_28 x0_3 x0_11 f1 f2 f3 f4 f5 f6 f7) H → va_D A (wd_Model_led kA a0 a1 a2 a3 a4 a5 a6 a7 v0_0 v0_1 v0_2 v0_8 v0_12 v0_14 v0_15 v0_16 v0_17 v0_18 v0_19 v0_20 v0_21 v0_22 v0_23 v0_24 v0_25 v0_26 v0_27 v0_28 x0_3 x0_11 f1 f2 f3 f4 f5 f6 f7) → va_S A s.heap H locs → lv_has ls 7 [(0, .ref a0), (1, .int l1), (2, .int l2), (3, .int l3), (4, .int l4)] → W p l e (headSpec w_Model_led rm_Model_led).room s m args below meth c H locs 0 0 (MQ below (va_Qi (fun (r1 : Int32) (_ : Unit) => r1 = r) (fun _ t => va_P (dC, dI) classes (wd_Model_led kA a0 a1 a2 a3 a4 a5 a6 a7 v0_0 v0_1 v0_2 v0_8 v0_12 v0_14 v0_15 v0_16 v0_17 v0_18 v0_19 v0_20 v0_21 v0_22 v0_23 v0_24 v0_25 v0_26 v0_27 v0_28 x0_3 ox0_11 f1 f2 of3 f4 f5 f6 f7) t.heap ∧ va_K (dC, dI) classes (tys_ kA) t ∧ va_D A (wd_Model_led kA a0 a1 a2 a3 a4 a5 a6 a7 v0_0 v0_1 v0_2 v0_8 v0_12 v0_14 v0_15 v0_16 v0_17 v0_18 v0_19 v0_20 v0_21 v0_22 v0_23 v0_24 v0_25 v0_26 v0_27 v0_28 x0_3 ox0_11 f1 f2 of3 f4 f5 f6 f7)) A) args s 0 0 A) (F0 m 144 ls [])) ∧ (∀ (l1 l2 l3 l4 l5 l6 : Int32) (x0_11 : Int32) (f3 : (Nat → Int32)), F_Model_led x0_3 f1 f2 f4 f5 f6 f7 n 4 l1 l2 l3 l4 l5 l6 x0_11 f3 = some (r, ox0_11, of3) → ∀ (H : Heap) (locs : List Loc) (ls : Array Slot), va_P (dC, dI) classes (wd_Model_led kA a0 a1 a2 a3 a4 a5 a6 a7 v0_0 v0_1 v0_2 v0_8 v0_12 v0_14 v0_15 v0_16 v0_17 v0_18 v0_19 v0_20 v0_21 v0_22 v0_23 v0_24 v0_25 v0_26 v0_27 v0_28 x0_3 x0_11 f1 f2 f3 f4 f5 f6 f7) H → va_D A (wd_Model_led kA a0 a1 a2 a3 a4 a5 a6 a7 v0_0 v0_1 v0_2 v0_8 v0_12 v0_14 v0_15 v0_16 v0_17 v0_18 v0_19 v0_20 v0_21 v0_22 v0_23 v0_24 v0_25 v0_26 v0_27 v0_28 x0_3 x0_11 f1 f2 f3 f4 f5 f6 f7) → va_S A s.heap H locs → lv_has ls 7 [(0, .ref a0), (1, .int l1), (2, .int l2), (3, .int l3), (4, .int l4), (5, .int l5), (6, .int l6)] → W p l e (headSpec w_Model_led rm_Model_led).room s m args below meth c H locs 0 0 (MQ below (va_Qi (fun (r1 : Int32) (_ : Unit) => r1 = r) (fun _ t => va_P (dC, dI) classes (wd_Model_led kA a0 a1 a2 a3 a4 a5 a6 a7 v0_0 v0_1 v0_2 v0_8 v0_12 v0_14 v0_15 v0_16 v0_17 v0_18 v0_19 v0_20 v0_21 v0_22 v0_23 v0_24 v0_25 v0_26 v0_27 v0_28 x0_3 ox0_11 f1 f2 of3 f4 f5 f6 f7) t.heap ∧ va_K (dC, dI) classes (tys_ kA) t ∧ va_D A (wd_Model_led kA a0 a1 a2 a3 a4 a5 a6 a7 v0_0 v0_1 v0_2 v0_8 v0_12 v0_14 v0_15 v0_16 v0_17 v0_18 v0_19 v0_20 v0_21 v0_22 v0_23 v0_24 v0_25 v0_26 v0_27 v0_28 x0_3 ox0_11 f1 f2 of3 f4 f5 f6 f7)) A) args s 0 0 A) (F0 m 159 ls [])) := by
  have hg := fun (w : Cond) (h : w ∈ gw) => hts w (List.mem_cons_of_mem _ h)
  intro n
  induction n with
  | zero =>
    exact ⟨fun _ _ _ _ _ _ _ _ hF => absurd (show (none : Option _) = some _ from hF) (fun z => by cases z), fun _ _ _ _ _ _ _ _ hF => absurd (show (none : Option _) = some _ from hF) (fun z => by cases z), fun _ _ _ _ _ _ _ _ hF => absurd (show (none : Option _) = some _ from hF) (fun z => by cases z), fun _ _ _ _ _ _ _ _ hF => absurd (show (none : Option _) = some _ from hF) (fun z => by cases z), fun _ _ _ _ _ _ _ _ hF => absurd (show (none : Option _) = some _ from hF) (fun z => by cases z)⟩
  | succ n ih =>
    refine ⟨?_, ?_, ?_, ?_, ?_⟩
    · intro l1 l2 l3 l4 l5 l6 x0_11 f3 hF H locs ls hP hD hS hl
      have hF : B_Model_led_0 (F_Model_led x0_3 f1 f2 f4 f5 f6 f7 n) x0_3 f1 f2 f4 f5 f6 f7 l1 l2 l3 l4 l5 l6 x0_11 f3 = some (r, ox0_11, of3) := hF
      unfold B_Model_led_0 at hF
      refine lv_iload hx hb d_Model_led_5 (lv_at hl 4 rfl) ?_
      refine lv_bipush (v := 55) hx hb d_Model_led_7 (by decide) ?_
      refine lv_icmp_ge (tgt := 34) hx hb d_Model_led_9 (by decide) (fun c_1 => ?_) (fun c_1 => ?_)
      · rw [if_pos c_1] at hF
        refine lv_iconst (v := 0) hx hb d_Model_led_34 (by decide) ?_
        refine lv_istore (lv' := [(4, .int 0), (0, .ref a0), (1, .int l1), (2, .int l2), (3, .int l3)]) hx hb d_Model_led_35 hl (by decide) rfl (fun ls hl => ?_)
        exact ih.2.1 l1 l2 l3 0 0 0 x0_11 f3 hF _ _ _ hP hD hS (lv_sub hl [1, 2, 3, 4, 0] rfl)
      · rw [if_neg c_1] at hF
        refine lv_aload_n hx hb d_Model_led_12 rfl (lv_at hl 0 rfl) ?_
        refine va_get (D := (dC, dI)) (ci := 9) (v := .ref a3) (C := R_Model) (T := F_Model) (N := 29) hx hb hg iw_Model hown hK hP 0 rfl rfl 13 (by decide) (hg _ gw_297) (fun _ h9 => h9) rfl d_Model_led_13 ?_
        refine lv_bipush (v := 55) hx hb d_Model_led_16 (by decide) ?_
        refine lv_aload_n hx hb d_Model_led_18 rfl (lv_at hl 0 rfl) ?_
        refine va_get (D := (dC, dI)) (ci := 9) (v := .int x0_11) (C := R_Model) (T := F_Model) (N := 29) hx hb hg iw_Model hown hK hP 0 rfl rfl 11 (by decide) (hg _ gw_306) (fun _ h9 => h9) rfl d_Model_led_19 ?_
        refine lv_imul hx hb d_Model_led_22 ?_
        refine lv_iload hx hb d_Model_led_23 (lv_at hl 4 rfl) ?_
        refine lv_iadd hx hb d_Model_led_25 ?_
        refine lv_iconst (v := 0) hx hb d_Model_led_26 (by decide) ?_
        obtain ⟨h_2, hF⟩ := rd_chk hF
        refine va_iast hx hb hK hP hD hS 3 0 rfl rfl h_2 d_Model_led_27 (fun H locs hP hD hS => ?_)
        have hP : va_P (dC, dI) classes (wd_Model_led kA a0 a1 a2 a3 a4 a5 a6 a7 v0_0 v0_1 v0_2 v0_8 v0_12 v0_14 v0_15 v0_16 v0_17 v0_18 v0_19 v0_20 v0_21 v0_22 v0_23 v0_24 v0_25 v0_26 v0_27 v0_28 x0_3 x0_11 f1 f2 (upd f3 (Int32.toNatClampNeg ((55 * x0_11) + l4)) 0) f4 f5 f6 f7) H := hP
        have hD : va_D A (wd_Model_led kA a0 a1 a2 a3 a4 a5 a6 a7 v0_0 v0_1 v0_2 v0_8 v0_12 v0_14 v0_15 v0_16 v0_17 v0_18 v0_19 v0_20 v0_21 v0_22 v0_23 v0_24 v0_25 v0_26 v0_27 v0_28 x0_3 x0_11 f1 f2 (upd f3 (Int32.toNatClampNeg ((55 * x0_11) + l4)) 0) f4 f5 f6 f7) := hD
        refine lv_iinc (v := (l4 + 1)) (lv' := [(4, .int (l4 + 1)), (0, .ref a0), (1, .int l1), (2, .int l2), (3, .int l3)]) hx hb d_Model_led_28 hl (k := 4) rfl (by rfl) (by decide) rfl (fun ls hl => ?_)
        refine lv_goto (tgt := 5) hx hb d_Model_led_31 (by decide) ?_
        exact ih.1 l1 l2 l3 (l4 + 1) 0 0 x0_11 (upd f3 (Int32.toNatClampNeg ((55 * x0_11) + l4)) 0) hF _ _ _ hP hD hS (lv_sub hl [1, 2, 3, 4, 0] rfl)
    · intro l1 l2 l3 l4 l5 l6 x0_11 f3 hF H locs ls hP hD hS hl
      have hF : B_Model_led_1 (F_Model_led x0_3 f1 f2 f4 f5 f6 f7 n) x0_3 f1 f2 f4 f5 f6 f7 l1 l2 l3 l4 l5 l6 x0_11 f3 = some (r, ox0_11, of3) := hF
      unfold B_Model_led_1 at hF
      refine lv_iload hx hb d_Model_led_37 (lv_at hl 4 rfl) ?_
      refine lv_bipush (v := 11) hx hb d_Model_led_39 (by decide) ?_
      refine lv_icmp_ge (tgt := 127) hx hb d_Model_led_41 (by decide) (fun c_3 => ?_) (fun c_3 => ?_)
      · rw [if_pos c_3] at hF
        refine lv_iload_n hx hb d_Model_led_127 rfl (lv_at hl 3 rfl) ?_
        refine lv_if_ne (tgt := 133) hx hb d_Model_led_128 (by decide) (fun c_4 => ?_) (fun c_4 => ?_)
        · rw [if_pos c_4] at hF
          refine lv_aload_n hx hb d_Model_led_133 rfl (lv_at hl 0 rfl) ?_
          refine lv_aload_n hx hb d_Model_led_134 rfl (lv_at hl 0 rfl) ?_
          refine va_get (D := (dC, dI)) (ci := 9) (v := .int x0_11) (C := R_Model) (T := F_Model) (N := 29) hx hb hg iw_Model hown hK hP 0 rfl rfl 11 (by decide) (hg _ gw_306) (fun _ h9 => h9) rfl d_Model_led_135 ?_
          obtain ⟨u_5, hS_5, hF⟩ := rd_bind hF
          have hPc := hP.sub (ws' := (wd_Model_close kA a0 a1 a2 a3 a4 a5 a6 a7 v0_0 v0_1 v0_2 v0_8 (.int x0_11) v0_12 v0_14 v0_15 v0_16 v0_17 v0_18 v0_19 v0_20 v0_21 v0_22 v0_23 v0_24 v0_25 v0_26 v0_27 v0_28 x0_3 f1 f2 f3 f4 f5 f6 f7)) [0, 1, 2, 3, 4, 5, 6, 7] rfl
          have hDc := hD.sub (ws' := (wd_Model_close kA a0 a1 a2 a3 a4 a5 a6 a7 v0_0 v0_1 v0_2 v0_8 (.int x0_11) v0_12 v0_14 v0_15 v0_16 v0_17 v0_18 v0_19 v0_20 v0_21 v0_22 v0_23 v0_24 v0_25 v0_26 v0_27 v0_28 x0_3 f1 f2 f3 f4 f5 f6 f7)) [0, 1, 2, 3, 4, 5, 6, 7] (by decide) rfl
          have hFc := va_free (wc := (wd_Model_close kA a0 a1 a2 a3 a4 a5 a6 a7 v0_0 v0_1 v0_2 v0_8 (.int x0_11) v0_12 v0_14 v0_15 v0_16 v0_17 v0_18 v0_19 v0_20 v0_21 v0_22 v0_23 v0_24 v0_25 v0_26 v0_27 v0_28 x0_3 f1 f2 f3 f4 f5 f6 f7)) hD hS hA [0, 1, 2, 3, 4, 5, 6, 7] rfl
          refine va_callv (va_runV (As := [.int x0_11]) (rest := []) ⟨hx, hb, hml, hown, hts⟩ (c_Model_close l dC dI kA H.size a0 a1 a2 a3 a4 a5 a6 a7 v0_0 v0_1 v0_2 v0_8 (.int x0_11) v0_12 v0_14 v0_15 v0_16 v0_17 v0_18 v0_19 v0_20 v0_21 v0_22 v0_23 v0_24 v0_25 v0_26 v0_27 v0_28 x0_11 x0_3 f1 f2 f3 f4 f5 f6 f7 u_5 hS_5) (cwV 1 hts (gw_V gw_307 gw_308 gw_309 gw_267 gw_310) rfl rfl rfl (by decide +kernel) ⟨Nat.le_of_ble_eq_true rfl, Nat.le_of_ble_eq_true rfl⟩) ⟨fun a U g mk q => by obtain ⟨q0, q1, qP, qK, qD⟩ := q; exact ⟨q0, q1, qP, va_K.moved (u := U) (U := U.calling g mk a) (Vm.Alike.refl U.vm) qK, qD⟩, va_recv hK hP (ci := 9) (q0 := 0) rfl rfl, fun U hU hW => ⟨rfl, by rw [hU], by rw [hU]; exact hPc, va_K.moved hW.alike hK, hDc.weaken (fun _ _ _ _ => trivial)⟩⟩ rfl rfl hl.1 rfl (lv_room (Nat.le_of_ble_eq_true rfl)) d_Model_led_138 ⟨Nat.zero_le _, Nat.zero_le _⟩) hS (fun q _ h => hFc q h) hFc (fun u t H1 locs ht hvm hw hB hz1 hk1 hS => ?_)
          obtain ⟨hP1, hK1, hD1⟩ := hB
          rw [ht] at hP1
          obtain ⟨hP, hD⟩ := va_join (wr := []) (w1 := (wd_Model_close kA a0 a1 a2 a3 a4 a5 a6 a7 v0_0 v0_1 v0_2 v0_8 (.int x0_11) v0_12 v0_14 v0_15 v0_16 v0_17 v0_18 v0_19 v0_20 v0_21 v0_22 v0_23 v0_24 v0_25 v0_26 v0_27 v0_28 x0_3 f1 f2 u_5 f4 f5 f6 f7)) hP hD [0, 1, 2, 3, 4, 5, 6, 7] [] rfl rfl (by decide) (by decide) hk1 hFc hP1 hD1
          have hP := hP.sub (ws' := (wd_Model_led kA a0 a1 a2 a3 a4 a5 a6 a7 v0_0 v0_1 v0_2 v0_8 v0_12 v0_14 v0_15 v0_16 v0_17 v0_18 v0_19 v0_20 v0_21 v0_22 v0_23 v0_24 v0_25 v0_26 v0_27 v0_28 x0_3 x0_11 f1 f2 u_5 f4 f5 f6 f7)) [0, 1, 2, 3, 4, 5, 6, 7] rfl
          have hD := hD.sub (ws' := (wd_Model_led kA a0 a1 a2 a3 a4 a5 a6 a7 v0_0 v0_1 v0_2 v0_8 v0_12 v0_14 v0_15 v0_16 v0_17 v0_18 v0_19 v0_20 v0_21 v0_22 v0_23 v0_24 v0_25 v0_26 v0_27 v0_28 x0_3 x0_11 f1 f2 u_5 f4 f5 f6 f7)) [0, 1, 2, 3, 4, 5, 6, 7] (by decide) rfl
          clear hPc hDc hFc hP1 hK1 hD1
          generalize H1 = H at hP hS ⊢
          refine lv_iconst (v := 0) hx hb d_Model_led_141 (by decide) ?_
          refine lv_istore (lv' := [(4, .int 0), (0, .ref a0), (1, .int l1), (2, .int l2), (3, .int l3)]) hx hb d_Model_led_142 hl (by decide) rfl (fun ls hl => ?_)
          exact ih.2.2.2.1 l1 l2 l3 0 0 0 x0_11 u_5 hF _ _ _ hP hD hS (lv_sub hl [1, 2, 3, 4, 0] rfl)
        · rw [if_neg (fun z => z c_4)] at hF
          refine lv_iconst (v := (-1)) hx hb d_Model_led_131 (by decide) ?_
          have e0 := Option.some.inj hF
          have q0 := Prod.mk.inj e0
          have q1 := Prod.mk.inj q0.2
          exact W.iret (v := (-1)) hx hb hr (fun t ht hW => ⟨⟨(-1), (), rfl, q0.1, by rw [ht, ← q1.1, ← q1.2]; exact hP, va_K.moved hW.alike hK, (by rw [← q1.1, ← q1.2]; exact hD)⟩, hS.F ht⟩) hS.2.2 d_Model_led_132 hlocks
      · rw [if_neg c_3] at hF
        refine lv_iconst (v := 0) hx hb d_Model_led_44 (by decide) ?_
        refine lv_istore (lv' := [(5, .int 0), (0, .ref a0), (1, .int l1), (2, .int l2), (3, .int l3), (4, .int l4)]) hx hb d_Model_led_45 hl (by decide) rfl (fun ls hl => ?_)
        exact ih.2.2.1 l1 l2 l3 l4 0 0 x0_11 f3 hF _ _ _ hP hD hS (lv_sub hl [1, 2, 3, 4, 5, 0] rfl)
    · intro l1 l2 l3 l4 l5 l6 x0_11 f3 hF H locs ls hP hD hS hl
      have hF : B_Model_led_2 (F_Model_led x0_3 f1 f2 f4 f5 f6 f7 n) x0_3 f1 f2 f4 f5 f6 f7 l1 l2 l3 l4 l5 l6 x0_11 f3 = some (r, ox0_11, of3) := hF
      unfold B_Model_led_2 at hF
      refine lv_iload hx hb d_Model_led_47 (lv_at hl 5 rfl) ?_
      refine lv_iconst (v := 4) hx hb d_Model_led_49 (by decide) ?_
      refine lv_icmp_ge (tgt := 121) hx hb d_Model_led_50 (by decide) (fun c_6 => ?_) (fun c_6 => ?_)
      · rw [if_pos c_6] at hF
        refine lv_iinc (v := (l4 + 1)) (lv' := [(4, .int (l4 + 1)), (0, .ref a0), (1, .int l1), (2, .int l2), (3, .int l3), (5, .int l5)]) hx hb d_Model_led_121 hl (k := 4) rfl (by rfl) (by decide) rfl (fun ls hl => ?_)
        refine lv_goto (tgt := 37) hx hb d_Model_led_124 (by decide) ?_
        exact ih.2.1 l1 l2 l3 (l4 + 1) 0 0 x0_11 f3 hF _ _ _ hP hD hS (lv_sub hl [1, 2, 3, 4, 0] rfl)
      · rw [if_neg c_6] at hF
        refine lv_aload_n hx hb d_Model_led_53 rfl (lv_at hl 0 rfl) ?_
        refine va_get (D := (dC, dI)) (ci := 9) (v := .ref a3) (C := R_Model) (T := F_Model) (N := 29) hx hb hg iw_Model hown hK hP 0 rfl rfl 13 (by decide) (hg _ gw_297) (fun _ h9 => h9) rfl d_Model_led_54 ?_
        refine lv_bipush (v := 55) hx hb d_Model_led_57 (by decide) ?_
        refine lv_iload_n hx hb d_Model_led_59 rfl (lv_at hl 1 rfl) ?_
        refine lv_imul hx hb d_Model_led_60 ?_
        refine lv_iconst (v := 5) hx hb d_Model_led_61 (by decide) ?_
        refine lv_iload hx hb d_Model_led_62 (lv_at hl 4 rfl) ?_
        refine lv_imul hx hb d_Model_led_64 ?_
        refine lv_iadd hx hb d_Model_led_65 ?_
        refine lv_iload hx hb d_Model_led_66 (lv_at hl 5 rfl) ?_
        refine lv_iadd hx hb d_Model_led_68 ?_
        obtain ⟨h_7, hF⟩ := rd_chk hF
        refine va_iald hx hb hK hP 3 0 rfl rfl h_7 d_Model_led_69 ?_
        refine lv_istore (lv' := [(6, .int (f3 (Int32.toNatClampNeg (((55 * l1) + (5 * l4)) + l5)))), (0, .ref a0), (1, .int l1), (2, .int l2), (3, .int l3), (4, .int l4), (5, .int l5)]) hx hb d_Model_led_70 hl (by decide) rfl (fun ls hl => ?_)
        refine lv_iload hx hb d_Model_led_72 (lv_at hl 0 rfl) ?_
        refine lv_if_eq (tgt := 115) hx hb d_Model_led_74 (by decide) (fun c_8 => ?_) (fun c_8 => ?_)
        · rw [if_pos c_8] at hF
          refine lv_iinc (v := (l5 + 1)) (lv' := [(5, .int (l5 + 1)), (6, .int (f3 (Int32.toNatClampNeg (((55 * l1) + (5 * l4)) + l5)))), (0, .ref a0), (1, .int l1), (2, .int l2), (3, .int l3), (4, .int l4)]) hx hb d_Model_led_115 hl (k := 6) rfl (by rfl) (by decide) rfl (fun ls hl => ?_)
          refine lv_goto (tgt := 47) hx hb d_Model_led_118 (by decide) ?_
          exact ih.2.2.1 l1 l2 l3 l4 (l5 + 1) 0 x0_11 f3 hF _ _ _ hP hD hS (lv_sub hl [2, 3, 4, 5, 6, 0] rfl)
        · rw [if_neg c_8] at hF
          refine lv_aload_n hx hb d_Model_led_77 rfl (lv_at hl 1 rfl) ?_
          refine lv_iload hx hb d_Model_led_78 (lv_at hl 5 rfl) ?_
          refine lv_iload hx hb d_Model_led_80 (lv_at hl 6 rfl) ?_
          obtain ⟨u_9, hS_9, hF⟩ := rd_bind hF
          have hPc := hP.sub (ws' := (wd_Model_symbol kA a0 a5 a6 v0_0 v0_1 v0_2 (.int x0_3) (.ref a4) (.ref a7) v0_8 (.ref a1) (.ref a2) (.int x0_11) v0_12 (.ref a3) v0_14 v0_15 v0_16 v0_17 v0_18 v0_19 v0_20 v0_21 v0_22 v0_23 v0_24 v0_25 v0_26 v0_27 v0_28 f5 f6)) [0, 5, 6] rfl
          have hDc := hD.sub (ws' := (wd_Model_symbol kA a0 a5 a6 v0_0 v0_1 v0_2 (.int x0_3) (.ref a4) (.ref a7) v0_8 (.ref a1) (.ref a2) (.int x0_11) v0_12 (.ref a3) v0_14 v0_15 v0_16 v0_17 v0_18 v0_19 v0_20 v0_21 v0_22 v0_23 v0_24 v0_25 v0_26 v0_27 v0_28 f5 f6)) [0, 5, 6] (by decide) rfl
          have hFc := va_free (wc := (wd_Model_symbol kA a0 a5 a6 v0_0 v0_1 v0_2 (.int x0_3) (.ref a4) (.ref a7) v0_8 (.ref a1) (.ref a2) (.int x0_11) v0_12 (.ref a3) v0_14 v0_15 v0_16 v0_17 v0_18 v0_19 v0_20 v0_21 v0_22 v0_23 v0_24 v0_25 v0_26 v0_27 v0_28 f5 f6)) hD hS hA [0, 5, 6] rfl
          refine va_calli (va_runV (As := [.int l4, .int l5]) (rest := []) ⟨hx, hb, hml, hown, hts⟩ (c_Model_symbol l dC dI kA H.size a0 a5 a6 v0_0 v0_1 v0_2 (.int x0_3) (.ref a4) (.ref a7) v0_8 (.ref a1) (.ref a2) (.int x0_11) v0_12 (.ref a3) v0_14 v0_15 v0_16 v0_17 v0_18 v0_19 v0_20 v0_21 v0_22 v0_23 v0_24 v0_25 v0_26 v0_27 v0_28 l4 l5 f5 f6 u_9 hS_9) (cwV 2 hts (gw_V gw_298 gw_299 gw_300 gw_267 gw_301) rfl rfl rfl (by decide +kernel) ⟨Nat.le_of_ble_eq_true rfl, Nat.le_of_ble_eq_true rfl⟩) ⟨fun a U g mk q => by obtain ⟨q0, q1, qP, qK, qD⟩ := q; exact ⟨q0, q1, qP, va_K.moved (u := U) (U := U.calling g mk a) (Vm.Alike.refl U.vm) qK, qD⟩, va_recv hK hP (ci := 9) (q0 := 0) rfl rfl, fun U hU hW => ⟨rfl, by rw [hU], by rw [hU]; exact hPc, va_K.moved hW.alike hK, hDc.weaken (fun _ _ _ _ => trivial)⟩⟩ rfl rfl hl.1 rfl (lv_room (Nat.le_of_ble_eq_true rfl)) d_Model_led_82 ⟨Nat.zero_le _, Nat.zero_le _⟩) hS (fun q _ h => hFc q h) hFc (fun r1 u t H1 locs ht hvm hw hB hz1 hk1 hS => ?_)
          rw [show r1 = _ from hw]
          obtain ⟨hP1, hK1, hD1⟩ := hB
          rw [ht] at hP1
          obtain ⟨hP, hD⟩ := va_join (wr := [(a1, .inl (kA 1, 6, .inl f1)), (a2, .inl (kA 0, 6, .inl f2)), (a3, .inl (kA 0, 2310, .inl f3)), (a4, .inl (kA 0, 11, .inl f4)), (a7, .inl (kA 1, 11, .inl f7))]) (w1 := (wd_Model_symbol kA a0 a5 a6 v0_0 v0_1 v0_2 (.int x0_3) (.ref a4) (.ref a7) v0_8 (.ref a1) (.ref a2) (.int x0_11) v0_12 (.ref a3) v0_14 v0_15 v0_16 v0_17 v0_18 v0_19 v0_20 v0_21 v0_22 v0_23 v0_24 v0_25 v0_26 v0_27 v0_28 f5 f6)) hP hD [0, 5, 6] [1, 2, 3, 4, 7] rfl rfl (by decide) (by decide) hk1 hFc hP1 hD1
          have hP := hP.sub (ws' := (wd_Model_led kA a0 a1 a2 a3 a4 a5 a6 a7 v0_0 v0_1 v0_2 v0_8 v0_12 v0_14 v0_15 v0_16 v0_17 v0_18 v0_19 v0_20 v0_21 v0_22 v0_23 v0_24 v0_25 v0_26 v0_27 v0_28 x0_3 x0_11 f1 f2 f3 f4 f5 f6 f7)) [5, 0, 1, 2, 3, 6, 7, 4] rfl
          have hD := hD.sub (ws' := (wd_Model_led kA a0 a1 a2 a3 a4 a5 a6 a7 v0_0 v0_1 v0_2 v0_8 v0_12 v0_14 v0_15 v0_16 v0_17 v0_18 v0_19 v0_20 v0_21 v0_22 v0_23 v0_24 v0_25 v0_26 v0_27 v0_28 x0_3 x0_11 f1 f2 f3 f4 f5 f6 f7)) [5, 0, 1, 2, 3, 6, 7, 4] (by decide) rfl
          clear hPc hDc hFc hP1 hK1 hD1
          generalize H1 = H at hP hS ⊢
          refine lv_iload_n hx hb d_Model_led_85 rfl (lv_at hl 3 rfl) ?_
          refine lv_icmp_ne (tgt := 115) hx hb d_Model_led_86 (by decide) (fun c_10 => ?_) (fun c_10 => ?_)
          · rw [if_pos c_10] at hF
            refine lv_iinc (v := (l5 + 1)) (lv' := [(5, .int (l5 + 1)), (6, .int (f3 (Int32.toNatClampNeg (((55 * l1) + (5 * l4)) + l5)))), (0, .ref a0), (1, .int l1), (2, .int l2), (3, .int l3), (4, .int l4)]) hx hb d_Model_led_115 hl (k := 6) rfl (by rfl) (by decide) rfl (fun ls hl => ?_)
            refine lv_goto (tgt := 47) hx hb d_Model_led_118 (by decide) ?_
            exact ih.2.2.1 l1 l2 l3 l4 (l5 + 1) 0 x0_11 f3 hF _ _ _ hP hD hS (lv_sub hl [2, 3, 4, 5, 6, 0] rfl)
          · rw [if_neg (fun z => z c_10)] at hF
            refine lv_aload_n hx hb d_Model_led_89 rfl (lv_at hl 1 rfl) ?_
            refine va_get (D := (dC, dI)) (ci := 9) (v := .ref a3) (C := R_Model) (T := F_Model) (N := 29) hx hb hg iw_Model hown hK hP 0 rfl rfl 13 (by decide) (hg _ gw_297) (fun _ h9 => h9) rfl d_Model_led_90 ?_
            refine lv_bipush (v := 55) hx hb d_Model_led_93 (by decide) ?_
            refine lv_aload_n hx hb d_Model_led_95 rfl (lv_at hl 1 rfl) ?_
            refine va_get (D := (dC, dI)) (ci := 9) (v := .int x0_11) (C := R_Model) (T := F_Model) (N := 29) hx hb hg iw_Model hown hK hP 0 rfl rfl 11 (by decide) (hg _ gw_306) (fun _ h9 => h9) rfl d_Model_led_96 ?_
            refine lv_imul hx hb d_Model_led_99 ?_
            refine lv_iconst (v := 5) hx hb d_Model_led_100 (by decide) ?_
            refine lv_iload hx hb d_Model_led_101 (lv_at hl 5 rfl) ?_
            refine lv_imul hx hb d_Model_led_103 ?_
            refine lv_iadd hx hb d_Model_led_104 ?_
            refine lv_iload hx hb d_Model_led_105 (lv_at hl 6 rfl) ?_
            refine lv_iadd hx hb d_Model_led_107 ?_
            refine lv_iconst (v := 1) hx hb d_Model_led_108 (by decide) ?_
            refine lv_iadd hx hb d_Model_led_109 ?_
            refine lv_iload hx hb d_Model_led_110 (lv_at hl 0 rfl) ?_
            obtain ⟨h_11, hF⟩ := rd_chk hF
            refine va_iast hx hb hK hP hD hS 3 0 rfl rfl h_11 d_Model_led_112 (fun H locs hP hD hS => ?_)
            have hP : va_P (dC, dI) classes (wd_Model_led kA a0 a1 a2 a3 a4 a5 a6 a7 v0_0 v0_1 v0_2 v0_8 v0_12 v0_14 v0_15 v0_16 v0_17 v0_18 v0_19 v0_20 v0_21 v0_22 v0_23 v0_24 v0_25 v0_26 v0_27 v0_28 x0_3 x0_11 f1 f2 (upd f3 (Int32.toNatClampNeg ((((55 * x0_11) + (5 * l4)) + l5) + 1)) (f3 (Int32.toNatClampNeg (((55 * l1) + (5 * l4)) + l5)))) f4 f5 f6 f7) H := hP
            have hD : va_D A (wd_Model_led kA a0 a1 a2 a3 a4 a5 a6 a7 v0_0 v0_1 v0_2 v0_8 v0_12 v0_14 v0_15 v0_16 v0_17 v0_18 v0_19 v0_20 v0_21 v0_22 v0_23 v0_24 v0_25 v0_26 v0_27 v0_28 x0_3 x0_11 f1 f2 (upd f3 (Int32.toNatClampNeg ((((55 * x0_11) + (5 * l4)) + l5) + 1)) (f3 (Int32.toNatClampNeg (((55 * l1) + (5 * l4)) + l5)))) f4 f5 f6 f7) := hD
            refine lv_iconst (v := 1) hx hb d_Model_led_113 (by decide) ?_
            refine lv_istore_n (lv' := [(3, .int 1), (6, .int (f3 (Int32.toNatClampNeg (((55 * l1) + (5 * l4)) + l5)))), (0, .ref a0), (1, .int l1), (2, .int l2), (4, .int l4), (5, .int l5)]) hx hb d_Model_led_114 rfl hl (by decide) rfl (fun ls hl => ?_)
            refine lv_iinc (v := (l5 + 1)) (lv' := [(5, .int (l5 + 1)), (3, .int 1), (6, .int (f3 (Int32.toNatClampNeg (((55 * l1) + (5 * l4)) + l5)))), (0, .ref a0), (1, .int l1), (2, .int l2), (4, .int l4)]) hx hb d_Model_led_115 hl (k := 6) rfl (by rfl) (by decide) rfl (fun ls hl => ?_)
            refine lv_goto (tgt := 47) hx hb d_Model_led_118 (by decide) ?_
            exact ih.2.2.1 l1 l2 1 l4 (l5 + 1) 0 x0_11 (upd f3 (Int32.toNatClampNeg ((((55 * x0_11) + (5 * l4)) + l5) + 1)) (f3 (Int32.toNatClampNeg (((55 * l1) + (5 * l4)) + l5)))) hF _ _ _ hP hD hS (lv_sub hl [3, 4, 5, 1, 6, 0] rfl)
    · intro l1 l2 l3 l4 l5 l6 x0_11 f3 hF H locs ls hP hD hS hl
      have hF : B_Model_led_3 (F_Model_led x0_3 f1 f2 f4 f5 f6 f7 n) x0_3 f1 f2 f4 f5 f6 f7 l1 l2 l3 l4 l5 l6 x0_11 f3 = some (r, ox0_11, of3) := hF
      unfold B_Model_led_3 at hF
      refine lv_iload hx hb d_Model_led_144 (lv_at hl 4 rfl) ?_
      refine lv_aload_n hx hb d_Model_led_146 rfl (lv_at hl 0 rfl) ?_
      refine va_get (D := (dC, dI)) (ci := 9) (v := .int x0_11) (C := R_Model) (T := F_Model) (N := 29) hx hb hg iw_Model hown hK hP 0 rfl rfl 11 (by decide) (hg _ gw_306) (fun _ h9 => h9) rfl d_Model_led_147 ?_
      refine lv_icmp_ge (tgt := 229) hx hb d_Model_led_150 (by decide) (fun c_12 => ?_) (fun c_12 => ?_)
      · rw [if_pos c_12] at hF
        refine lv_aload_n hx hb d_Model_led_229 rfl (lv_at hl 0 rfl) ?_
        refine lv_dup hx hb d_Model_led_230 rfl ?_
        refine va_get (D := (dC, dI)) (ci := 9) (v := .int x0_11) (C := R_Model) (T := F_Model) (N := 29) hx hb hg iw_Model hown hK hP 0 rfl rfl 11 (by decide) (hg _ gw_306) (fun _ h9 => h9) rfl d_Model_led_231 ?_
        refine lv_iconst (v := 1) hx hb d_Model_led_234 (by decide) ?_
        refine lv_iadd hx hb d_Model_led_235 ?_
        refine va_put (D := (dC, dI)) (ci := 9) (v := .int (x0_11 + 1)) (ty := .int) (C := R_Model) (T := F_Model) (N := 29) hx hb hg iw_Model t_Model t_Model_ok n_Model hown hK hP hD hS 0 rfl rfl 11 (by decide) (hg _ gw_306) (fun _ h9 => h9) rfl (by decide +kernel) rfl rfl (Nat.le_of_ble_eq_true rfl) d_Model_led_236 (fun H locs hP hD hS => ?_)
        have hP : va_P (dC, dI) classes (wd_Model_led kA a0 a1 a2 a3 a4 a5 a6 a7 v0_0 v0_1 v0_2 v0_8 v0_12 v0_14 v0_15 v0_16 v0_17 v0_18 v0_19 v0_20 v0_21 v0_22 v0_23 v0_24 v0_25 v0_26 v0_27 v0_28 x0_3 (x0_11 + 1) f1 f2 f3 f4 f5 f6 f7) H := hP
        have hD : va_D A (wd_Model_led kA a0 a1 a2 a3 a4 a5 a6 a7 v0_0 v0_1 v0_2 v0_8 v0_12 v0_14 v0_15 v0_16 v0_17 v0_18 v0_19 v0_20 v0_21 v0_22 v0_23 v0_24 v0_25 v0_26 v0_27 v0_28 x0_3 (x0_11 + 1) f1 f2 f3 f4 f5 f6 f7) := hD
        refine lv_aload_n hx hb d_Model_led_239 rfl (lv_at hl 0 rfl) ?_
        refine va_get (D := (dC, dI)) (ci := 9) (v := .int (x0_11 + 1)) (C := R_Model) (T := F_Model) (N := 29) hx hb hg iw_Model hown hK hP 0 rfl rfl 11 (by decide) (hg _ gw_306) (fun _ h9 => h9) rfl d_Model_led_240 ?_
        refine lv_iconst (v := 1) hx hb d_Model_led_243 (by decide) ?_
        refine lv_isub hx hb d_Model_led_244 ?_
        have e0 := Option.some.inj hF
        have q0 := Prod.mk.inj e0
        have q1 := Prod.mk.inj q0.2
        exact W.iret (v := ((x0_11 + 1) - 1)) hx hb hr (fun t ht hW => ⟨⟨((x0_11 + 1) - 1), (), rfl, q0.1, by rw [ht, ← q1.1, ← q1.2]; exact hP, va_K.moved hW.alike hK, (by rw [← q1.1, ← q1.2]; exact hD)⟩, hS.F ht⟩) hS.2.2 d_Model_led_245 hlocks
      · rw [if_neg c_12] at hF
        refine lv_iconst (v := 1) hx hb d_Model_led_153 (by decide) ?_
        refine lv_istore (lv' := [(5, .int 1), (0, .ref a0), (1, .int l1), (2, .int l2), (3, .int l3), (4, .int l4)]) hx hb d_Model_led_154 hl (by decide) rfl (fun ls hl => ?_)
        refine lv_iconst (v := 0) hx hb d_Model_led_156 (by decide) ?_
        refine lv_istore (lv' := [(6, .int 0), (5, .int 1), (0, .ref a0), (1, .int l1), (2, .int l2), (3, .int l3), (4, .int l4)]) hx hb d_Model_led_157 hl (by decide) rfl (fun ls hl => ?_)
        exact ih.2.2.2.2 l1 l2 l3 l4 1 0 x0_11 f3 hF _ _ _ hP hD hS (lv_sub hl [2, 3, 4, 5, 6, 1, 0] rfl)
    · intro l1 l2 l3 l4 l5 l6 x0_11 f3 hF H locs ls hP hD hS hl
      have hF : B_Model_led_4 (F_Model_led x0_3 f1 f2 f4 f5 f6 f7 n) x0_3 f1 f2 f4 f5 f6 f7 l1 l2 l3 l4 l5 l6 x0_11 f3 = some (r, ox0_11, of3) := hF
      unfold B_Model_led_4 at hF
      refine lv_iload hx hb d_Model_led_159 (lv_at hl 6 rfl) ?_
      refine lv_bipush (v := 55) hx hb d_Model_led_161 (by decide) ?_
      refine lv_icmp_ge (tgt := 215) hx hb d_Model_led_163 (by decide) (fun c_13 => ?_) (fun c_13 => ?_)
      · rw [if_pos c_13] at hF
        refine lv_iload hx hb d_Model_led_215 (lv_at hl 5 rfl) ?_
        refine lv_if_eq (tgt := 223) hx hb d_Model_led_217 (by decide) (fun c_14 => ?_) (fun c_14 => ?_)
        · rw [if_pos c_14] at hF
          refine lv_iinc (v := (l4 + 1)) (lv' := [(4, .int (l4 + 1)), (0, .ref a0), (1, .int l1), (2, .int l2), (3, .int l3), (5, .int l5), (6, .int l6)]) hx hb d_Model_led_223 hl (k := 4) rfl (by rfl) (by decide) rfl (fun ls hl => ?_)
          refine lv_goto (tgt := 144) hx hb d_Model_led_226 (by decide) ?_
          exact ih.2.2.2.1 l1 l2 l3 (l4 + 1) 0 0 x0_11 f3 hF _ _ _ hP hD hS (lv_sub hl [1, 2, 3, 4, 0] rfl)
        · rw [if_neg c_14] at hF
          refine lv_iload hx hb d_Model_led_220 (lv_at hl 4 rfl) ?_
          have e0 := Option.some.inj hF
          have q0 := Prod.mk.inj e0
          have q1 := Prod.mk.inj q0.2
          exact W.iret (v := l4) hx hb hr (fun t ht hW => ⟨⟨l4, (), rfl, q0.1, by rw [ht, ← q1.1, ← q1.2]; exact hP, va_K.moved hW.alike hK, (by rw [← q1.1, ← q1.2]; exact hD)⟩, hS.F ht⟩) hS.2.2 d_Model_led_222 hlocks
      · rw [if_neg c_13] at hF
        refine lv_iload hx hb d_Model_led_166 (lv_at hl 5 rfl) ?_
        refine lv_if_eq (tgt := 215) hx hb d_Model_led_168 (by decide) (fun c_15 => ?_) (fun c_15 => ?_)
        · rw [if_pos c_15] at hF
          refine lv_iload hx hb d_Model_led_215 (lv_at hl 5 rfl) ?_
          refine lv_if_eq (tgt := 223) hx hb d_Model_led_217 (by decide) (fun c_16 => ?_) (fun c_16 => ?_)
          · rw [if_pos c_16] at hF
            refine lv_iinc (v := (l4 + 1)) (lv' := [(4, .int (l4 + 1)), (0, .ref a0), (1, .int l1), (2, .int l2), (3, .int l3), (5, .int l5), (6, .int l6)]) hx hb d_Model_led_223 hl (k := 4) rfl (by rfl) (by decide) rfl (fun ls hl => ?_)
            refine lv_goto (tgt := 144) hx hb d_Model_led_226 (by decide) ?_
            exact ih.2.2.2.1 l1 l2 l3 (l4 + 1) 0 0 x0_11 f3 hF _ _ _ hP hD hS (lv_sub hl [1, 2, 3, 4, 0] rfl)
          · rw [if_neg c_16] at hF
            refine lv_iload hx hb d_Model_led_220 (lv_at hl 4 rfl) ?_
            have e0 := Option.some.inj hF
            have q0 := Prod.mk.inj e0
            have q1 := Prod.mk.inj q0.2
            exact W.iret (v := l4) hx hb hr (fun t ht hW => ⟨⟨l4, (), rfl, q0.1, by rw [ht, ← q1.1, ← q1.2]; exact hP, va_K.moved hW.alike hK, (by rw [← q1.1, ← q1.2]; exact hD)⟩, hS.F ht⟩) hS.2.2 d_Model_led_222 hlocks
        · rw [if_neg c_15] at hF
          refine lv_aload_n hx hb d_Model_led_171 rfl (lv_at hl 0 rfl) ?_
          refine va_get (D := (dC, dI)) (ci := 9) (v := .ref a3) (C := R_Model) (T := F_Model) (N := 29) hx hb hg iw_Model hown hK hP 0 rfl rfl 13 (by decide) (hg _ gw_297) (fun _ h9 => h9) rfl d_Model_led_172 ?_
          refine lv_bipush (v := 55) hx hb d_Model_led_175 (by decide) ?_
          refine lv_iload hx hb d_Model_led_177 (lv_at hl 4 rfl) ?_
          refine lv_imul hx hb d_Model_led_179 ?_
          refine lv_iload hx hb d_Model_led_180 (lv_at hl 6 rfl) ?_
          refine lv_iadd hx hb d_Model_led_182 ?_
          obtain ⟨h_17, hF⟩ := rd_chk hF
          refine va_iald hx hb hK hP 3 0 rfl rfl h_17 d_Model_led_183 ?_
          refine lv_aload_n hx hb d_Model_led_184 rfl (lv_at hl 0 rfl) ?_
          refine va_get (D := (dC, dI)) (ci := 9) (v := .ref a3) (C := R_Model) (T := F_Model) (N := 29) hx hb hg iw_Model hown hK hP 0 rfl rfl 13 (by decide) (hg _ gw_297) (fun _ h9 => h9) rfl d_Model_led_185 ?_
          refine lv_bipush (v := 55) hx hb d_Model_led_188 (by decide) ?_
          refine lv_aload_n hx hb d_Model_led_190 rfl (lv_at hl 0 rfl) ?_
          refine va_get (D := (dC, dI)) (ci := 9) (v := .int x0_11) (C := R_Model) (T := F_Model) (N := 29) hx hb hg iw_Model hown hK hP 0 rfl rfl 11 (by decide) (hg _ gw_306) (fun _ h9 => h9) rfl d_Model_led_191 ?_
          refine lv_imul hx hb d_Model_led_194 ?_
          refine lv_iload hx hb d_Model_led_195 (lv_at hl 6 rfl) ?_
          refine lv_iadd hx hb d_Model_led_197 ?_
          obtain ⟨h_18, hF⟩ := rd_chk hF
          refine va_iald hx hb hK hP 3 0 rfl rfl h_18 d_Model_led_198 ?_
          refine lv_icmp_ne (tgt := 206) hx hb d_Model_led_199 (by decide) (fun c_19 => ?_) (fun c_19 => ?_)
          · rw [if_pos c_19] at hF
            refine lv_iconst (v := 0) hx hb d_Model_led_206 (by decide) ?_
            refine lv_istore (lv' := [(5, .int 0), (0, .ref a0), (1, .int l1), (2, .int l2), (3, .int l3), (4, .int l4), (6, .int l6)]) hx hb d_Model_led_207 hl (by decide) rfl (fun ls hl => ?_)
            refine lv_iinc (v := (l6 + 1)) (lv' := [(6, .int (l6 + 1)), (5, .int 0), (0, .ref a0), (1, .int l1), (2, .int l2), (3, .int l3), (4, .int l4)]) hx hb d_Model_led_209 hl (k := 6) rfl (by rfl) (by decide) rfl (fun ls hl => ?_)
            refine lv_goto (tgt := 159) hx hb d_Model_led_212 (by decide) ?_
            exact ih.2.2.2.2 l1 l2 l3 l4 0 (l6 + 1) x0_11 f3 hF _ _ _ hP hD hS (lv_sub hl [2, 3, 4, 5, 6, 1, 0] rfl)
          · rw [if_neg (fun z => z c_19)] at hF
            refine lv_iconst (v := 1) hx hb d_Model_led_202 (by decide) ?_
            refine lv_goto (tgt := 207) hx hb d_Model_led_203 (by decide) ?_
            refine lv_istore (lv' := [(5, .int 1), (0, .ref a0), (1, .int l1), (2, .int l2), (3, .int l3), (4, .int l4), (6, .int l6)]) hx hb d_Model_led_207 hl (by decide) rfl (fun ls hl => ?_)
            refine lv_iinc (v := (l6 + 1)) (lv' := [(6, .int (l6 + 1)), (5, .int 1), (0, .ref a0), (1, .int l1), (2, .int l2), (3, .int l3), (4, .int l4)]) hx hb d_Model_led_209 hl (k := 6) rfl (by rfl) (by decide) rfl (fun ls hl => ?_)
            refine lv_goto (tgt := 159) hx hb d_Model_led_212 (by decide) ?_
            exact ih.2.2.2.2 l1 l2 l3 l4 1 (l6 + 1) x0_11 f3 hF _ _ _ hP hD hS (lv_sub hl [2, 3, 4, 5, 6, 1, 0] rfl)
def S_Model_led (p1 : Int32) (p2 : Int32) (x0_3 : Int32) (x0_11 : Int32) (f1 : (Nat → Int32)) (f2 : (Nat → Int32)) (f3 : (Nat → Int32)) (f4 : (Nat → Int32)) (f5 : (Nat → Int32)) (f6 : (Nat → Int32)) (f7 : (Nat → Int32)) : Option (Int32 × Int32 × (Nat → Int32)) := (F_Model_led x0_3 f1 f2 f4 f5 f6 f7 fuel_ 0 p1 p2 0 0 0 0 x0_11 f3)
set_option maxHeartbeats 4000000 in
set_option maxRecDepth 100000 in
theorem c_Model_led (l : Launch) (dC : Nat → ClassId) (dI : Nat → Nat → Nat) (kA : Nat → ClassId) (sz : Nat) (a0 a1 a2 a3 a4 a5 a6 a7 : Nat) (v0_0 v0_1 v0_2 v0_8 v0_12 v0_14 v0_15 v0_16 v0_17 v0_18 v0_19 v0_20 v0_21 v0_22 v0_23 v0_24 v0_25 v0_26 v0_27 v0_28 : Value) (p1 : Int32) (p2 : Int32) (x0_3 : Int32) (x0_11 : Int32) (f1 : (Nat → Int32)) (f2 : (Nat → Int32)) (f3 : (Nat → Int32)) (f4 : (Nat → Int32)) (f5 : (Nat → Int32)) (f6 : (Nat → Int32)) (f7 : (Nat → Int32)) (r : Int32) (ox0_11 : Int32) (of3 : (Nat → Int32)) (hF : S_Model_led p1 p2 x0_3 x0_11 f1 f2 f3 f4 f5 f6 f7 = some (r, ox0_11, of3)) : Met l y_Model_led w_Model_led rm_Model_led (va_Pc [.ref a0, .int p1, .int p2] (fun U => U.heap.size = sz ∧ va_P (dC, dI) classes (wd_Model_led kA a0 a1 a2 a3 a4 a5 a6 a7 v0_0 v0_1 v0_2 v0_8 v0_12 v0_14 v0_15 v0_16 v0_17 v0_18 v0_19 v0_20 v0_21 v0_22 v0_23 v0_24 v0_25 v0_26 v0_27 v0_28 x0_3 x0_11 f1 f2 f3 f4 f5 f6 f7) U.heap ∧ va_K (dC, dI) classes (tys_ kA) U ∧ va_D (fun _ => True) (wd_Model_led kA a0 a1 a2 a3 a4 a5 a6 a7 v0_0 v0_1 v0_2 v0_8 v0_12 v0_14 v0_15 v0_16 v0_17 v0_18 v0_19 v0_20 v0_21 v0_22 v0_23 v0_24 v0_25 v0_26 v0_27 v0_28 x0_3 x0_11 f1 f2 f3 f4 f5 f6 f7))) (va_Qi (fun (r1 : Int32) (_ : Unit) => r1 = r) (fun _ t => va_P (dC, dI) classes (wd_Model_led kA a0 a1 a2 a3 a4 a5 a6 a7 v0_0 v0_1 v0_2 v0_8 v0_12 v0_14 v0_15 v0_16 v0_17 v0_18 v0_19 v0_20 v0_21 v0_22 v0_23 v0_24 v0_25 v0_26 v0_27 v0_28 x0_3 ox0_11 f1 f2 of3 f4 f5 f6 f7) t.heap ∧ va_K (dC, dI) classes (tys_ kA) t ∧ va_D (va_A (wd_Model_led kA a0 a1 a2 a3 a4 a5 a6 a7 v0_0 v0_1 v0_2 v0_8 v0_12 v0_14 v0_15 v0_16 v0_17 v0_18 v0_19 v0_20 v0_21 v0_22 v0_23 v0_24 v0_25 v0_26 v0_27 v0_28 x0_3 x0_11 f1 f2 f3 f4 f5 f6 f7) sz) (wd_Model_led kA a0 a1 a2 a3 a4 a5 a6 a7 v0_0 v0_1 v0_2 v0_8 v0_12 v0_14 v0_15 v0_16 v0_17 v0_18 v0_19 v0_20 v0_21 v0_22 v0_23 v0_24 v0_25 v0_26 v0_27 v0_28 x0_3 ox0_11 f1 f2 of3 f4 f5 f6 f7)) (va_A (wd_Model_led kA a0 a1 a2 a3 a4 a5 a6 a7 v0_0 v0_1 v0_2 v0_8 v0_12 v0_14 v0_15 v0_16 v0_17 v0_18 v0_19 v0_20 v0_21 v0_22 v0_23 v0_24 v0_25 v0_26 v0_27 v0_28 x0_3 x0_11 f1 f2 f3 f4 f5 f6 f7) sz)) 0 0 (va_A (wd_Model_led kA a0 a1 a2 a3 a4 a5 a6 a7 v0_0 v0_1 v0_2 v0_8 v0_12 v0_14 v0_15 v0_16 v0_17 v0_18 v0_19 v0_20 v0_21 v0_22 v0_23 v0_24 v0_25 v0_26 v0_27 v0_28 x0_3 x0_11 f1 f2 f3 f4 f5 f6 f7) sz) := by
  refine Met.ofW (cc := b_Model_led) (maxL := 7) (ret := some .int) (by decide) rfl ?_
  intro p e s m args below meth c s₁ B hml hv
  obtain ⟨rfl, hsz, hP, hK, hD0⟩ := hv
  have hx := B.exec
  have hb := B.bytes
  have hr := B.returns
  have hts := atoms_spec (ws := w_Model_led) B.pre
  have hown : s.vm.findClass R_Model = some m.cls := findClass_of_methodNamed B.named
  have hg := fun (w : Cond) (h : w ∈ gw) => hts w (List.mem_cons_of_mem _ h)
  have hlocks := B.notSynchronized
  subst hsz
  have hD := hD0.self (sz := s.heap.size)
  generalize hAe : va_A (wd_Model_led kA a0 a1 a2 a3 a4 a5 a6 a7 v0_0 v0_1 v0_2 v0_8 v0_12 v0_14 v0_15 v0_16 v0_17 v0_18 v0_19 v0_20 v0_21 v0_22 v0_23 v0_24 v0_25 v0_26 v0_27 v0_28 x0_3 x0_11 f1 f2 f3 f4 f5 f6 f7) s.heap.size = A at hD ⊢
  have hA : ∀ q : Nat, s.heap.size ≤ q → A q := fun q h => by rw [← hAe]; exact Or.inr h
  have hS : va_S A s.heap s.heap [] := va_S.rf
  have hl := lv_entry ([.ref a0, .int p1, .int p2]) (n := 7) (Nat.le_of_ble_eq_true rfl)
  rw [lg_entry_eq]
  generalize (lg_sl ([.ref a0, .int p1, .int p2]) ++ List.replicate (7 - (lg_sl ([.ref a0, .int p1, .int p2])).length) Slot.unset).toArray = ls at hl ⊢
  have hl : lv_has ls 7 [(0, .ref a0), (1, .int p1), (2, .int p2)] := hl
  unfold S_Model_led at hF
  have ih := L_Model_led (l := l) (e := e) (below := below) hx hb hr hlocks hml hown hts hA hK a0 a1 a2 a3 a4 a5 a6 a7 v0_0 v0_1 v0_2 v0_8 v0_12 v0_14 v0_15 v0_16 v0_17 v0_18 v0_19 v0_20 v0_21 v0_22 v0_23 v0_24 v0_25 v0_26 v0_27 v0_28 x0_3 f1 f2 f4 f5 f6 f7 r ox0_11 of3 fuel_
  refine lv_iconst (v := 0) hx hb d_Model_led_0 (by decide) ?_
  refine lv_istore_n (lv' := [(3, .int 0), (0, .ref a0), (1, .int p1), (2, .int p2)]) hx hb d_Model_led_1 rfl hl (by decide) rfl (fun ls hl => ?_)
  refine lv_iconst (v := 0) hx hb d_Model_led_2 (by decide) ?_
  refine lv_istore (lv' := [(4, .int 0), (3, .int 0), (0, .ref a0), (1, .int p1), (2, .int p2)]) hx hb d_Model_led_3 hl (by decide) rfl (fun ls hl => ?_)
  exact ih.1 p1 p2 0 0 0 0 x0_11 f3 hF _ _ _ hP hD hS (lv_sub hl [2, 3, 4, 1, 0] rfl)
-- ===== RepairDeskModel.isConflict(I)Z
abbrev wd_Model_isConflict (kA : Nat → ClassId) (a0 a1 a2 a3 : Nat) (v0_0 v0_1 v0_2 v0_3 v0_4 v0_7 v0_8 v0_9 v0_10 v0_11 v0_12 v0_14 v0_15 v0_16 v0_17 v0_18 v0_19 v0_20 v0_21 v0_22 v0_23 v0_24 v0_25 v0_26 v0_27 v0_28 : Value) (f1 : (Nat → Int32)) (f2 : (Nat → Int32)) (f3 : (Nat → Int32)) : va_W := [(a0, .inr (9, [v0_0, v0_1, v0_2, v0_3, v0_4, .ref a2, .ref a3, v0_7, v0_8, v0_9, v0_10, v0_11, v0_12, .ref a1, v0_14, v0_15, v0_16, v0_17, v0_18, v0_19, v0_20, v0_21, v0_22, v0_23, v0_24, v0_25, v0_26, v0_27, v0_28])), (a1, .inl (kA 0, 2310, .inl f1)), (a2, .inl (kA 0, 11, .inl f2)), (a3, .inl (kA 0, 44, .inl f3))]
abbrev rm_Model_isConflict : Room := { frames := 1, cells := 0, slots := 0, locals := 22 }
def B_Model_isConflict_0 (K : Nat → Int32 → Int32 → Int32 → Int32 → Int32 → Int32 → Option (Int32)) (f1 : (Nat → Int32)) (f2 : (Nat → Int32)) (f3 : (Nat → Int32)) (l1 : Int32) (l2 : Int32) (l3 : Int32) (l4 : Int32) (l5 : Int32) (s0 : Int32) : Option (Int32) := (if 11 ≤ l2 then (some 0) else (if (l2 : Int32) < 0 ∨ 11 ≤ (Int32.toNatClampNeg l2) then none else (if ((((55 * l1) + (5 * l2)) + (f2 (Int32.toNatClampNeg l2))) : Int32) < 0 ∨ 2310 ≤ (Int32.toNatClampNeg (((55 * l1) + (5 * l2)) + (f2 (Int32.toNatClampNeg l2)))) then none else (K 1 l1 l2 (f1 (Int32.toNatClampNeg (((55 * l1) + (5 * l2)) + (f2 (Int32.toNatClampNeg l2))))) 0 0 0))))
def B_Model_isConflict_1 (K : Nat → Int32 → Int32 → Int32 → Int32 → Int32 → Int32 → Option (Int32)) (f1 : (Nat → Int32)) (f2 : (Nat → Int32)) (f3 : (Nat → Int32)) (l1 : Int32) (l2 : Int32) (l3 : Int32) (l4 : Int32) (l5 : Int32) (s0 : Int32) : Option (Int32) := (if 11 ≤ l4 then (K 0 l1 (l2 + 1) 0 0 0 0) else (if l3 = 0 then (K 0 l1 (l2 + 1) 0 0 0 0) else (K 2 l1 l2 l3 l4 0 0)))
def B_Model_isConflict_2 (K : Nat → Int32 → Int32 → Int32 → Int32 → Int32 → Int32 → Option (Int32)) (f1 : (Nat → Int32)) (f2 : (Nat → Int32)) (f3 : (Nat → Int32)) (l1 : Int32) (l2 : Int32) (l3 : Int32) (l4 : Int32) (l5 : Int32) (s0 : Int32) : Option (Int32) := (if 5 ≤ l5 then (K 1 l1 l2 l3 (l4 + 1) 0 0) else (if ¬ l4 = l2 then (K 3 l1 l2 l3 l4 l5 0) else (if (l2 : Int32) < 0 ∨ 11 ≤ (Int32.toNatClampNeg l2) then none else (if l5 = (f2 (Int32.toNatClampNeg l2)) then (K 4 l1 l2 l3 l4 l5 0) else (K 3 l1 l2 l3 l4 l5 0)))))
def B_Model_isConflict_3 (K : Nat → Int32 → Int32 → Int32 → Int32 → Int32 → Int32 → Option (Int32)) (f1 : (Nat → Int32)) (f2 : (Nat → Int32)) (f3 : (Nat → Int32)) (l1 : Int32) (l2 : Int32) (l3 : Int32) (l4 : Int32) (l5 : Int32) (s0 : Int32) : Option (Int32) := (if (l4 : Int32) < 0 ∨ 11 ≤ (Int32.toNatClampNeg l4) then none else (if l5 ≤ (f2 (Int32.toNatClampNeg l4)) then (if ((((55 * l1) + (5 * l4)) + l5) : Int32) < 0 ∨ 2310 ≤ (Int32.toNatClampNeg (((55 * l1) + (5 * l4)) + l5)) then none else (K 5 l1 l2 l3 l4 l5 (f1 (Int32.toNatClampNeg (((55 * l1) + (5 * l4)) + l5))))) else (K 4 l1 l2 l3 l4 l5 0)))
def B_Model_isConflict_4 (K : Nat → Int32 → Int32 → Int32 → Int32 → Int32 → Int32 → Option (Int32)) (f1 : (Nat → Int32)) (f2 : (Nat → Int32)) (f3 : (Nat → Int32)) (l1 : Int32) (l2 : Int32) (l3 : Int32) (l4 : Int32) (l5 : Int32) (s0 : Int32) : Option (Int32) := (K 5 l1 l2 l3 l4 l5 0)
def B_Model_isConflict_5 (K : Nat → Int32 → Int32 → Int32 → Int32 → Int32 → Int32 → Option (Int32)) (f1 : (Nat → Int32)) (f2 : (Nat → Int32)) (f3 : (Nat → Int32)) (l1 : Int32) (l2 : Int32) (l3 : Int32) (l4 : Int32) (l5 : Int32) (s0 : Int32) : Option (Int32) := ((S_Model_symbol l4 l5 f2 f3).bind fun u_13 => (if s0 = 0 then (K 2 l1 l2 l3 l4 (l5 + 1) 0) else (if (l4 : Int32) < 0 ∨ 11 ≤ (Int32.toNatClampNeg l4) then none else (if ¬ l5 = (f2 (Int32.toNatClampNeg l4)) then (if 6 ≤ u_13 then (K 2 l1 l2 l3 l4 (l5 + 1) 0) else (if ¬ (((l3 : Int32) >>> ((u_13 : Int32) &&& 31)) &&& 1) = 1 then (K 2 l1 l2 l3 l4 (l5 + 1) 0) else (some 1))) else (if (s0 &&& l3) = 0 then (K 2 l1 l2 l3 l4 (l5 + 1) 0) else (some 1))))))
def F_Model_isConflict (f1 : (Nat → Int32)) (f2 : (Nat → Int32)) (f3 : (Nat → Int32)) : Nat → Nat → Int32 → Int32 → Int32 → Int32 → Int32 → Int32 → Option (Int32)
  | 0 => fun _ _ _ _ _ _ _ => none
  | n + 1 => fun hd l1 l2 l3 l4 l5 s0 => match hd with
    | 0 => B_Model_isConflict_0 (F_Model_isConflict f1 f2 f3 n) f1 f2 f3 l1 l2 l3 l4 l5 s0
    | 1 => B_Model_isConflict_1 (F_Model_isConflict f1 f2 f3 n) f1 f2 f3 l1 l2 l3 l4 l5 s0
    | 2 => B_Model_isConflict_2 (F_Model_isConflict f1 f2 f3 n) f1 f2 f3 l1 l2 l3 l4 l5 s0
    | 3 => B_Model_isConflict_3 (F_Model_isConflict f1 f2 f3 n) f1 f2 f3 l1 l2 l3 l4 l5 s0
    | 4 => B_Model_isConflict_4 (F_Model_isConflict f1 f2 f3 n) f1 f2 f3 l1 l2 l3 l4 l5 s0
    | 5 => B_Model_isConflict_5 (F_Model_isConflict f1 f2 f3 n) f1 f2 f3 l1 l2 l3 l4 l5 s0
    | _ => none
set_option maxHeartbeats 4000000 in
set_option maxRecDepth 100000 in
theorem L_Model_isConflict {p : Program} {l : Launch} {e : Env} {s : State} {m : MethodId} {args : Array Value} {below : List Frame} {meth : Method} {c : Code} {A : Nat → Prop} {dC : Nat → ClassId} {dI : Nat → Nat → Nat} {kA : Nat → ClassId} (hx : p.tables.exec = Jvm.exec) (hb : c.code = b_Model_isConflict) (hr : meth.sig.returnType = some .boolean) (hlocks : meth.locks = false) (hml : c.maxLocals = 8) (hown : s.vm.findClass R_Model = some m.cls) (hts : ∀ w ∈ w_Model_isConflict, w.before args s = true) (hA : ∀ q : Nat, s.heap.size ≤ q → A q) (hK : va_K (dC, dI) classes (tys_ kA) s) (a0 a1 a2 a3 : Nat) (v0_0 v0_1 v0_2 v0_3 v0_4 v0_7 v0_8 v0_9 v0_10 v0_11 v0_12 v0_14 v0_15 v0_16 v0_17 v0_18 v0_19 v0_20 v0_21 v0_22 v0_23 v0_24 v0_25 v0_26 v0_27 v0_28 : Value) (f1 : (Nat → Int32)) (f2 : (Nat → Int32)) (f3 : (Nat → Int32)) (r : Int32) : ∀ n : Nat, (∀ (l1 l2 l3 l4 l5 s0 : Int32), F_Model_isConflict f1 f2 f3 n 0 l1 l2 l3 l4 l5 s0 = some r → ∀ (H : Heap) (locs : List Loc) (ls : Array Slot), va_P (dC, dI) classes (wd_Model_isConflict kA a0 a1 a2 a3 v0_0 v0_1 v0_2 v0_3 v0_4 v0_7 v0_8 v0_9 v0_10 v0_11 v0_12 v0_14 v0_15 v0_16 v0_17 v0_18 v0_19 v0_20 v0_21 v0_22 v0_23 v0_24 v0_25 v0_26 v0_27 v0_28 f1 f2 f3) H → va_D A (wd_Model_isConflict kA a0 a1 a2 a3 v0_0 v0_1 v0_2 v0_3 v0_4 v0_7 v0_8 v0_9 v0_10 v0_11 v0_12 v0_14 v0_15 v0_16 v0_17 v0_18 v0_19 v0_20 v0_21 v0_22 v0_23 v0_24 v0_25 v0_26 v0_27 v0_28 f1 f2 f3) → va_S A s.heap H locs → lv_has ls 8 [(0, .ref a0), (1, .int l1), (2, .int l2)] → W p l e (headSpec w_Model_isConflict rm_Model_isConflict).room s m args below meth c H locs 0 0 (MQ below (va_Qi (fun (r1 : Int32) (_ : Unit) => r1 = r) (fun _ t => va_P (dC, dI) classes (wd_Model_isConflict kA a0 a1 a2 a3 v0_0 v0_1 v0_2 v0_3 v0_4 v0_7 v0_8 v0_9 v0_10 v0_11 v0_12 v0_14 v0_15 v0_16 v0_17 v0_18 v0_19 v0_20 v0_21 v0_22 v0_23 v0_24 v0_25 v0_26 v0_27 v0_28 f1 f2 f3) t.heap ∧ va_K (dC, dI) classes (tys_ kA) t ∧ va_D A (wd_Model_isConflict kA a0 a1 a2 a3 v0_0 v0_1 v0_2 v0_3 v0_4 v0_7 v0_8 v0_9 v0_10 v0_11 v0_12 v0_14 v0_15 v0_16 v0_17 v0_18 v0_19 v0_20 v0_21 v0_22 v0_23 v0_24 v0_25 v0_26 v0_27 v0_28 f1 f2 f3)) A) args s 0 0 A) (F0 m 2 ls [])) ∧ (∀ (l1 l2 l3 l4 l5 s0 : Int32), F_Model_isConflict f1 f2 f3 n 1 l1 l2 l3 l4 l5 s0 = some r → ∀ (H : Heap) (locs : List Loc) (ls : Array Slot), va_P (dC, dI) classes (wd_Model_isConflict kA a0 a1 a2 a3 v0_0 v0_1 v0_2 v0_3 v0_4 v0_7 v0_8 v0_9 v0_10 v0_11 v0_12 v0_14 v0_15 v0_16 v0_17 v0_18 v0_19 v0_20 v0_21 v0_22 v0_23 v0_24 v0_25 v0_26 v0_27 v0_28 f1 f2 f3) H → va_D A (wd_Model_isConflict kA a0 a1 a2 a3 v0_0 v0_1 v0_2 v0_3 v0_4 v0_7 v0_8 v0_9 v0_10 v0_11 v0_12 v0_14 v0_15 v0_16 v0_17 v0_18 v0_19 v0_20 v0_21 v0_22 v0_23 v0_24 v0_25 v0_26 v0_27 v0_28 f1 f2 f3) → va_S A s.heap H locs → lv_has ls 8 [(0, .ref a0), (1, .int l1), (2, .int l2), (3, .int l3), (4, .int l4)] → W p l e (headSpec w_Model_isConflict rm_Model_isConflict).room s m args below meth c H locs 0 0 (MQ below (va_Qi (fun (r1 : Int32) (_ : Unit) => r1 = r) (fun _ t => va_P (dC, dI) classes (wd_Model_isConflict kA a0 a1 a2 a3 v0_0 v0_1 v0_2 v0_3 v0_4 v0_7 v0_8 v0_9 v0_10 v0_11 v0_12 v0_14 v0_15 v0_16 v0_17 v0_18 v0_19 v0_20 v0_21 v0_22 v0_23 v0_24 v0_25 v0_26 v0_27 v0_28 f1 f2 f3) t.heap ∧ va_K (dC, dI) classes (tys_ kA) t ∧ va_D A (wd_Model_isConflict kA a0 a1 a2 a3 v0_0 v0_1 v0_2 v0_3 v0_4 v0_7 v0_8 v0_9 v0_10 v0_11 v0_12 v0_14 v0_15 v0_16 v0_17 v0_18 v0_19 v0_20 v0_21 v0_22 v0_23 v0_24 v0_25 v0_26 v0_27 v0_28 f1 f2 f3)) A) args s 0 0 A) (F0 m 32 ls [])) ∧ (∀ (l1 l2 l3 l4 l5 s0 : Int32), F_Model_isConflict f1 f2 f3 n 2 l1 l2 l3 l4 l5 s0 = some r → ∀ (H : Heap) (locs : List Loc) (ls : Array Slot), va_P (dC, dI) classes (wd_Model_isConflict kA a0 a1 a2 a3 v0_0 v0_1 v0_2 v0_3 v0_4 v0_7 v0_8 v0_9 v0_10 v0_11 v0_12 v0_14 v0_15 v0_16 v0_17 v0_18 v0_19 v0_20 v0_21 v0_22 v0_23 v0_24 v0_25 v0_26 v0_27 v0_28 f1 f2 f3) H → va_D A (wd_Model_isConflict kA a0 a1 a2 a3 v0_0 v0_1 v0_2 v0_3 v0_4 v0_7 v0_8 v0_9 v0_10 v0_11 v0_12 v0_14 v0_15 v0_16 v0_17 v0_18 v0_19 v0_20 v0_21 v0_22 v0_23 v0_24 v0_25 v0_26 v0_27 v0_28 f1 f2 f3) → va_S A s.heap H locs → lv_has ls 8 [(0, .ref a0), (1, .int l1), (2, .int l2), (3, .int l3), (4, .int l4), (5, .int l5)] → W p l e (headSpec w_Model_isConflict rm_Model_isConflict).room s m args below meth c H locs 0 0 (MQ below (va_Qi (fun (r1 : Int32) (_ : Unit) => r1 = r) (fun _ t => va_P (dC, dI) classes (wd_Model_isConflict kA a0 a1 a2 a3 v0_0 v0_1 v0_2 v0_3 v0_4 v0_7 v0_8 v0_9 v0_10 v0_11 v0_12 v0_14 v0_15 v0_16 v0_17 v0_18 v0_19 v0_20 v0_21 v0_22 v0_23 v0_24 v0_25 v0_26 v0_27 v0_28 f1 f2 f3) t.heap ∧ va_K (dC, dI) classes (tys_ kA) t ∧ va_D A (wd_Model_isConflict kA a0 a1 a2 a3 v0_0 v0_1 v0_2 v0_3 v0_4 v0_7 v0_8 v0_9 v0_10 v0_11 v0_12 v0_14 v0_15 v0_16 v0_17 v0_18 v0_19 v0_20 v0_21 v0_22 v0_23 v0_24 v0_25 v0_26 v0_27 v0_28 f1 f2 f3)) A) args s 0 0 A) (F0 m 46 ls [])) ∧ (∀ (l1 l2 l3 l4 l5 s0 : Int32), F_Model_isConflict f1 f2 f3 n 3 l1 l2 l3 l4 l5 s0 = some r → ∀ (H : Heap) (locs : List Loc) (ls : Array Slot), va_P (dC, dI) classes (wd_Model_isConflict kA a0 a1 a2 a3 v0_0 v0_1 v0_2 v0_3 v0_4 v0_7 v0_8 v0_9 v0_10 v0_11 v0_12 v0_14 v0_15 v0_16 v0_17 v0_18 v0_19 v0_20 v0_21 v0_22 v0_23 v0_24 v0_25 v0_26 v0_27 v0_28 f1 f2 f3) H → va_D A (wd_Model_isConflict kA a0 a1 a2 a3 v0_0 v0_1 v0_2 v0_3 v0_4 v0_7 v0_8 v0_9 v0_10 v0_11 v0_12 v0_14 v0_15 v0_16 v0_17 v0_18 v0_19 v0_20 v0_21 v0_22 v0_23 v0_24 v0_25 v0_26 v0_27 v0_28 f1 f2 f3) → va_S A s.heap H locs → lv_has ls 8 [(0, .ref a0), (1, .int l1), (2, .int l2), (3, .int l3), (4, .int l4), (5, .int l5)] → W p l e (headSpec w_Model_isConflict rm_Model_isConflict).room s m args below meth c H locs 0 0 (MQ below (va_Qi (fun (r1 : Int32) (_ : Unit) => r1 = r) (fun _ t => va_P (dC, dI) classes (wd_Model_isConflict kA a0 a1 a2 a3 v0_0 v0_1 v0_2 v0_3 v0_4 v0_7 v0_8 v0_9 v0_10 v0_11 v0_12 v0_14 v0_15 v0_16 v0_17 v0_18 v0_19 v0_20 v0_21 v0_22 v0_23 v0_24 v0_25 v0_26 v0_27 v0_28 f1 f2 f3) t.heap ∧ va_K (dC, dI) classes (tys_ kA) t ∧ va_D A (wd_Model_isConflict kA a0 a1 a2 a3 v0_0 v0_1 v0_2 v0_3 v0_4 v0_7 v0_8 v0_9 v0_10 v0_11 v0_12 v0_14 v0_15 v0_16 v0_17 v0_18 v0_19 v0_20 v0_21 v0_22 v0_23 v0_24 v0_25 v0_26 v0_27 v0_28 f1 f2 f3)) A) args s 0 0 A) (F0 m 69 ls [])) ∧ (∀ (l1 l2 l3 l4 l5 s0 : Int32), F_Model_isConflict f1 f2 f3 n 4 l1 l2 l3 l4 l5 s0 = some r → ∀ (H : Heap) (locs : List Loc) (ls : Array Slot), va_P (dC, dI) classes (wd_Model_isConflict kA a0 a1 a2 a3 v0_0 v0_1 v0_2 v0_3 v0_4 v0_7 v0_8 v0_9 v0_10 v0_11 v0_12 v0_14 v0_15 v0_16 v0_17 v0_18 v0_19 v0_20 v0_21 v0_22 v0_23 v0_24 v0_25 v0_26 v0_27 v0_28 f1 f2 f3) H → va_D A (wd_Model_isConflict kA a0 a1 a2 a3 v0_0 v0_1 v0_2 v0_3 v0_4 v0_7 v0_8 v0_9 v0_10 v0_11 v0_12 v0_14 v0_15 v0_16 v0_17 v0_18 v0_19 v0_20 v0_21 v0_22 v0_23 v0_24 v0_25 v0_26 v0_27 v0_28 f1 f2 f3) → va_S A s.heap H locs → lv_has ls 8 [(0, .ref a0), (1, .int l1), (2, .int l2), (3, .int l3), (4, .int l4), (5, .int l5)] → W p l e (headSpec w_Model_isConflict rm_Model_isConflict).room s m args below meth c H locs 0 0 (MQ below (va_Qi (fun (r1 : Int32) (_ : Unit) => r1 = r) (fun _ t => va_P (dC, dI) classes (wd_Model_isConflict kA a0 a1 a2 a3 v0_0 v0_1 v0_2 v0_3 v0_4 v0_7 v0_8 v0_9 v0_10 v0_11 v0_12 v0_14 v0_15 v0_16 v0_17 v0_18 v0_19 v0_20 v0_21 v0_22 v0_23 v0_24 v0_25 v0_26 v0_27 v0_28 f1 f2 f3) t.heap ∧ va_K (dC, dI) classes (tys_ kA) t ∧ va_D A (wd_Model_isConflict kA a0 a1 a2 a3 v0_0 v0_1 v0_2 v0_3 v0_4 v0_7 v0_8 v0_9 v0_10 v0_11 v0_12 v0_14 v0_15 v0_16 v0_17 v0_18 v0_19 v0_20 v0_21 v0_22 v0_23 v0_24 v0_25 v0_26 v0_27 v0_28 f1 f2 f3)) A) args s 0 0 A) (F0 m 81 ls [])) ∧ (∀ (l1 l2 l3 l4 l5 s0 : Int32), F_Model_isConflict f1 f2 f3 n 5 l1 l2 l3 l4 l5 s0 = some r → ∀ (H : Heap) (locs : List Loc) (ls : Array Slot), va_P (dC, dI) classes (wd_Model_isConflict kA a0 a1 a2 a3 v0_0 v0_1 v0_2 v0_3 v0_4 v0_7 v0_8 v0_9 v0_10 v0_11 v0_12 v0_14 v0_15 v0_16 v0_17 v0_18 v0_19 v0_20 v0_21 v0_22 v0_23 v0_24 v0_25 v0_26 v0_27 v0_28 f1 f2 f3) H → va_D A (wd_Model_isConflict kA a0 a1 a2 a3 v0_0 v0_1 v0_2 v0_3 v0_4 v0_7 v0_8 v0_9 v0_10 v0_11 v0_12 v0_14 v0_15 v0_16 v0_17 v0_18 v0_19 v0_20 v0_21 v0_22 v0_23 v0_24 v0_25 v0_26 v0_27 v0_28 f1 f2 f3) → va_S A s.heap H locs → lv_has ls 8 [(0, .ref a0), (1, .int l1), (2, .int l2), (3, .int l3), (4, .int l4), (5, .int l5)] → W p l e (headSpec w_Model_isConflict rm_Model_isConflict).room s m args below meth c H locs 0 0 (MQ below (va_Qi (fun (r1 : Int32) (_ : Unit) => r1 = r) (fun _ t => va_P (dC, dI) classes (wd_Model_isConflict kA a0 a1 a2 a3 v0_0 v0_1 v0_2 v0_3 v0_4 v0_7 v0_8 v0_9 v0_10 v0_11 v0_12 v0_14 v0_15 v0_16 v0_17 v0_18 v0_19 v0_20 v0_21 v0_22 v0_23 v0_24 v0_25 v0_26 v0_27 v0_28 f1 f2 f3) t.heap ∧ va_K (dC, dI) classes (tys_ kA) t ∧ va_D A (wd_Model_isConflict kA a0 a1 a2 a3 v0_0 v0_1 v0_2 v0_3 v0_4 v0_7 v0_8 v0_9 v0_10 v0_11 v0_12 v0_14 v0_15 v0_16 v0_17 v0_18 v0_19 v0_20 v0_21 v0_22 v0_23 v0_24 v0_25 v0_26 v0_27 v0_28 f1 f2 f3)) A) args s 0 0 A) (F0 m 102 ls [.int s0])) := by
  have hg := fun (w : Cond) (h : w ∈ gw) => hts w (List.mem_cons_of_mem _ h)
  intro n
  induction n with
  | zero =>
    exact ⟨fun _ _ _ _ _ _ hF => absurd (show (none : Option _) = some _ from hF) (fun z => by cases z), fun _ _ _ _ _ _ hF => absurd (show (none : Option _) = some _ from hF) (fun z => by cases z), fun _ _ _ _ _ _ hF => absurd (show (none : Option _) = some _ from hF) (fun z => by cases z), fun _ _ _ _ _ _ hF => absurd (show (none : Option _) = some _ from hF) (fun z => by cases z), fun _ _ _ _ _ _ hF => absurd (show (none : Option _) = some _ from hF) (fun z => by cases z), fun _ _ _ _ _ _ hF => absurd (show (none : Option _) = some _ from hF) (fun z => by cases z)⟩
  | succ n ih =>
    refine ⟨?_, ?_, ?_, ?_, ?_, ?_⟩
    · intro l1 l2 l3 l4 l5 s0 hF H locs ls hP hD hS hl
      have hF : B_Model_isConflict_0 (F_Model_isConflict f1 f2 f3 n) f1 f2 f3 l1 l2 l3 l4 l5 s0 = some r := hF
      unfold B_Model_isConflict_0 at hF
      refine lv_iload_n hx hb d_Model_isConflict_2 rfl (lv_at hl 2 rfl) ?_
      refine lv_bipush (v := 11) hx hb d_Model_isConflict_3 (by decide) ?_
      refine lv_icmp_ge (tgt := 178) hx hb d_Model_isConflict_5 (by decide) (fun c_1 => ?_) (fun c_1 => ?_)
      · rw [if_pos c_1] at hF
        refine lv_iconst (v := 0) hx hb d_Model_isConflict_178 (by decide) ?_
        have e0 := Option.some.inj hF
        exact W.zret (v := 0) hx hb hr rfl (fun t ht hW => ⟨⟨0, (), rfl, e0, by rw [ht]; exact hP, va_K.moved hW.alike hK, (by exact hD)⟩, hS.F ht⟩) hS.2.2 d_Model_isConflict_179 hlocks
      · rw [if_neg c_1] at hF
        refine lv_aload_n hx hb d_Model_isConflict_8 rfl (lv_at hl 0 rfl) ?_
        refine va_get (D := (dC, dI)) (ci := 9) (v := .ref a1) (C := R_Model) (T := F_Model) (N := 29) hx hb hg iw_Model hown hK hP 0 rfl rfl 13 (by decide) (hg _ gw_297) (fun _ h9 => h9) rfl d_Model_isConflict_9 ?_
        refine lv_bipush (v := 55) hx hb d_Model_isConflict_12 (by decide) ?_
        refine lv_iload_n hx hb d_Model_isConflict_14 rfl (lv_at hl 1 rfl) ?_
        refine lv_imul hx hb d_Model_isConflict_15 ?_
        refine lv_iconst (v := 5) hx hb d_Model_isConflict_16 (by decide) ?_
        refine lv_iload_n hx hb d_Model_isConflict_17 rfl (lv_at hl 2 rfl) ?_
        refine lv_imul hx hb d_Model_isConflict_18 ?_
        refine lv_iadd hx hb d_Model_isConflict_19 ?_
        refine lv_aload_n hx hb d_Model_isConflict_20 rfl (lv_at hl 0 rfl) ?_
        refine va_get (D := (dC, dI)) (ci := 9) (v := .ref a2) (C := R_Model) (T := F_Model) (N := 29) hx hb hg iw_Model hown hK hP 0 rfl rfl 5 (by decide) (hg _ gw_278) (fun _ h9 => h9) rfl d_Model_isConflict_21 ?_
        refine lv_iload_n hx hb d_Model_isConflict_24 rfl (lv_at hl 2 rfl) ?_
        obtain ⟨h_2, hF⟩ := rd_chk hF
        refine va_iald hx hb hK hP 2 0 rfl rfl h_2 d_Model_isConflict_25 ?_
        refine lv_iadd hx hb d_Model_isConflict_26 ?_
        obtain ⟨h_3, hF⟩ := rd_chk hF
        refine va_iald hx hb hK hP 1 0 rfl rfl h_3 d_Model_isConflict_27 ?_
        refine lv_istore_n (lv' := [(3, .int (f1 (Int32.toNatClampNeg (((55 * l1) + (5 * l2)) + (f2 (Int32.toNatClampNeg l2)))))), (0, .ref a0), (1, .int l1), (2, .int l2)]) hx hb d_Model_isConflict_28 rfl hl (by decide) rfl (fun ls hl => ?_)
        refine lv_iconst (v := 0) hx hb d_Model_isConflict_29 (by decide) ?_
        refine lv_istore (lv' := [(4, .int 0), (3, .int (f1 (Int32.toNatClampNeg (((55 * l1) + (5 * l2)) + (f2 (Int32.toNatClampNeg l2)))))), (0, .ref a0), (1, .int l1), (2, .int l2)]) hx hb d_Model_isConflict_30 hl (by decide) rfl (fun ls hl => ?_)
        exact ih.2.1 l1 l2 (f1 (Int32.toNatClampNeg (((55 * l1) + (5 * l2)) + (f2 (Int32.toNatClampNeg l2))))) 0 0 0 hF _ _ _ hP hD hS (lv_sub hl [2, 3, 4, 1, 0] rfl)
    · intro l1 l2 l3 l4 l5 s0 hF H locs ls hP hD hS hl
      have hF : B_Model_isConflict_1 (F_Model_isConflict f1 f2 f3 n) f1 f2 f3 l1 l2 l3 l4 l5 s0 = some r := hF
      unfold B_Model_isConflict_1 at hF
      refine lv_iload hx hb d_Model_isConflict_32 (lv_at hl 4 rfl) ?_
      refine lv_bipush (v := 11) hx hb d_Model_isConflict_34 (by decide) ?_
      refine lv_icmp_ge (tgt := 172) hx hb d_Model_isConflict_36 (by decide) (fun c_4 => ?_) (fun c_4 => ?_)
      · rw [if_pos c_4] at hF
        refine lv_iinc (v := (l2 + 1)) (lv' := [(2, .int (l2 + 1)), (0, .ref a0), (1, .int l1), (3, .int l3), (4, .int l4)]) hx hb d_Model_isConflict_172 hl (k := 2) rfl (by rfl) (by decide) rfl (fun ls hl => ?_)
        refine lv_goto (tgt := 2) hx hb d_Model_isConflict_175 (by decide) ?_
        exact ih.1 l1 (l2 + 1) 0 0 0 0 hF _ _ _ hP hD hS (lv_sub hl [1, 2, 0] rfl)
      · rw [if_neg c_4] at hF
        refine lv_iload_n hx hb d_Model_isConflict_39 rfl (lv_at hl 3 rfl) ?_
        refine lv_if_eq (tgt := 172) hx hb d_Model_isConflict_40 (by decide) (fun c_5 => ?_) (fun c_5 => ?_)
        · rw [if_pos c_5] at hF
          refine lv_iinc (v := (l2 + 1)) (lv' := [(2, .int (l2 + 1)), (0, .ref a0), (1, .int l1), (3, .int l3), (4, .int l4)]) hx hb d_Model_isConflict_172 hl (k := 2) rfl (by rfl) (by decide) rfl (fun ls hl => ?_)
          refine lv_goto (tgt := 2) hx hb d_Model_isConflict_175 (by decide) ?_
          exact ih.1 l1 (l2 + 1) 0 0 0 0 hF _ _ _ hP hD hS (lv_sub hl [1, 2, 0] rfl)
        · rw [if_neg c_5] at hF
          refine lv_iconst (v := 0) hx hb d_Model_isConflict_43 (by decide) ?_
          refine lv_istore (lv' := [(5, .int 0), (0, .ref a0), (1, .int l1), (2, .int l2), (3, .int l3), (4, .int l4)]) hx hb d_Model_isConflict_44 hl (by decide) rfl (fun ls hl => ?_)
          exact ih.2.2.1 l1 l2 l3 l4 0 0 hF _ _ _ hP hD hS (lv_sub hl [1, 2, 3, 4, 5, 0] rfl)
    · intro l1 l2 l3 l4 l5 s0 hF H locs ls hP hD hS hl
      have hF : B_Model_isConflict_2 (F_Model_isConflict f1 f2 f3 n) f1 f2 f3 l1 l2 l3 l4 l5 s0 = some r := hF
      unfold B_Model_isConflict_2 at hF
      refine lv_iload hx hb d_Model_isConflict_46 (lv_at hl 5 rfl) ?_
      refine lv_iconst (v := 5) hx hb d_Model_isConflict_48 (by decide) ?_
      refine lv_icmp_ge (tgt := 166) hx hb d_Model_isConflict_49 (by decide) (fun c_6 => ?_) (fun c_6 => ?_)
      · rw [if_pos c_6] at hF
        refine lv_iinc (v := (l4 + 1)) (lv' := [(4, .int (l4 + 1)), (0, .ref a0), (1, .int l1), (2, .int l2), (3, .int l3), (5, .int l5)]) hx hb d_Model_isConflict_166 hl (k := 4) rfl (by rfl) (by decide) rfl (fun ls hl => ?_)
        refine lv_goto (tgt := 32) hx hb d_Model_isConflict_169 (by decide) ?_
        exact ih.2.1 l1 l2 l3 (l4 + 1) 0 0 hF _ _ _ hP hD hS (lv_sub hl [1, 2, 3, 4, 0] rfl)
      · rw [if_neg c_6] at hF
        refine lv_iload hx hb d_Model_isConflict_52 (lv_at hl 4 rfl) ?_
        refine lv_iload_n hx hb d_Model_isConflict_54 rfl (lv_at hl 2 rfl) ?_
        refine lv_icmp_ne (tgt := 69) hx hb d_Model_isConflict_55 (by decide) (fun c_7 => ?_) (fun c_7 => ?_)
        · rw [if_pos c_7] at hF
          exact ih.2.2.2.1 l1 l2 l3 l4 l5 0 hF _ _ _ hP hD hS (lv_sub hl [0, 1, 2, 3, 4, 5] rfl)
        · rw [if_neg (fun z => z c_7)] at hF
          refine lv_iload hx hb d_Model_isConflict_58 (lv_at hl 5 rfl) ?_
          refine lv_aload_n hx hb d_Model_isConflict_60 rfl (lv_at hl 0 rfl) ?_
          refine va_get (D := (dC, dI)) (ci := 9) (v := .ref a2) (C := R_Model) (T := F_Model) (N := 29) hx hb hg iw_Model hown hK hP 0 rfl rfl 5 (by decide) (hg _ gw_278) (fun _ h9 => h9) rfl d_Model_isConflict_61 ?_
          refine lv_iload_n hx hb d_Model_isConflict_64 rfl (lv_at hl 2 rfl) ?_
          obtain ⟨h_8, hF⟩ := rd_chk hF
          refine va_iald hx hb hK hP 2 0 rfl rfl h_8 d_Model_isConflict_65 ?_
          refine lv_icmp_eq (tgt := 81) hx hb d_Model_isConflict_66 (by decide) (fun c_9 => ?_) (fun c_9 => ?_)
          · rw [if_pos c_9] at hF
            exact ih.2.2.2.2.1 l1 l2 l3 l4 l5 0 hF _ _ _ hP hD hS (lv_sub hl [0, 1, 2, 3, 4, 5] rfl)
          · rw [if_neg c_9] at hF
            exact ih.2.2.2.1 l1 l2 l3 l4 l5 0 hF _ _ _ hP hD hS (lv_sub hl [0, 1, 2, 3, 4, 5] rfl)
    · intro l1 l2 l3 l4 l5 s0 hF H locs ls hP hD hS hl
      have hF : B_Model_isConflict_3 (F_Model_isConflict f1 f2 f3 n) f1 f2 f3 l1 l2 l3 l4 l5 s0 = some r := hF
      unfold B_Model_isConflict_3 at hF
      refine lv_iload hx hb d_Model_isConflict_69 (lv_at hl 5 rfl) ?_
      refine lv_aload_n hx hb d_Model_isConflict_71 rfl (lv_at hl 0 rfl) ?_
      refine va_get (D := (dC, dI)) (ci := 9) (v := .ref a2) (C := R_Model) (T := F_Model) (N := 29) hx hb hg iw_Model hown hK hP 0 rfl rfl 5 (by decide) (hg _ gw_278) (fun _ h9 => h9) rfl d_Model_isConflict_72 ?_
      refine lv_iload hx hb d_Model_isConflict_75 (lv_at hl 4 rfl) ?_
      obtain ⟨h_10, hF⟩ := rd_chk hF
      refine va_iald hx hb hK hP 2 0 rfl rfl h_10 d_Model_isConflict_77 ?_
      refine lv_icmp_le (tgt := 85) hx hb d_Model_isConflict_78 (by decide) (fun c_11 => ?_) (fun c_11 => ?_)
      · rw [if_pos c_11] at hF
        refine lv_aload_n hx hb d_Model_isConflict_85 rfl (lv_at hl 0 rfl) ?_
        refine va_get (D := (dC, dI)) (ci := 9) (v := .ref a1) (C := R_Model) (T := F_Model) (N := 29) hx hb hg iw_Model hown hK hP 0 rfl rfl 13 (by decide) (hg _ gw_297) (fun _ h9 => h9) rfl d_Model_isConflict_86 ?_
        refine lv_bipush (v := 55) hx hb d_Model_isConflict_89 (by decide) ?_
        refine lv_iload_n hx hb d_Model_isConflict_91 rfl (lv_at hl 1 rfl) ?_
        refine lv_imul hx hb d_Model_isConflict_92 ?_
        refine lv_iconst (v := 5) hx hb d_Model_isConflict_93 (by decide) ?_
        refine lv_iload hx hb d_Model_isConflict_94 (lv_at hl 4 rfl) ?_
        refine lv_imul hx hb d_Model_isConflict_96 ?_
        refine lv_iadd hx hb d_Model_isConflict_97 ?_
        refine lv_iload hx hb d_Model_isConflict_98 (lv_at hl 5 rfl) ?_
        refine lv_iadd hx hb d_Model_isConflict_100 ?_
        obtain ⟨h_12, hF⟩ := rd_chk hF
        refine va_iald hx hb hK hP 1 0 rfl rfl h_12 d_Model_isConflict_101 ?_
        exact ih.2.2.2.2.2 l1 l2 l3 l4 l5 (f1 (Int32.toNatClampNeg (((55 * l1) + (5 * l4)) + l5))) hF _ _ _ hP hD hS (lv_sub hl [0, 1, 2, 3, 4, 5] rfl)
      · rw [if_neg c_11] at hF
        exact ih.2.2.2.2.1 l1 l2 l3 l4 l5 0 hF _ _ _ hP hD hS (lv_sub hl [0, 1, 2, 3, 4, 5] rfl)
    · intro l1 l2 l3 l4 l5 s0 hF H locs ls hP hD hS hl
      have hF : B_Model_isConflict_4 (F_Model_isConflict f1 f2 f3 n) f1 f2 f3 l1 l2 l3 l4 l5 s0 = some r := hF
      unfold B_Model_isConflict_4 at hF
      refine lv_iconst (v := 0) hx hb d_Model_isConflict_81 (by decide) ?_
      refine lv_goto (tgt := 102) hx hb d_Model_isConflict_82 (by decide) ?_
      exact ih.2.2.2.2.2 l1 l2 l3 l4 l5 0 hF _ _ _ hP hD hS (lv_sub hl [0, 1, 2, 3, 4, 5] rfl)
    · intro l1 l2 l3 l4 l5 s0 hF H locs ls hP hD hS hl
      have hF : B_Model_isConflict_5 (F_Model_isConflict f1 f2 f3 n) f1 f2 f3 l1 l2 l3 l4 l5 s0 = some r := hF
      unfold B_Model_isConflict_5 at hF
      refine lv_istore (lv' := [(6, .int s0), (0, .ref a0), (1, .int l1), (2, .int l2), (3, .int l3), (4, .int l4), (5, .int l5)]) hx hb d_Model_isConflict_102 hl (by decide) rfl (fun ls hl => ?_)
      refine lv_aload_n hx hb d_Model_isConflict_104 rfl (lv_at hl 1 rfl) ?_
      refine lv_iload hx hb d_Model_isConflict_105 (lv_at hl 5 rfl) ?_
      refine lv_iload hx hb d_Model_isConflict_107 (lv_at hl 6 rfl) ?_
      obtain ⟨u_13, hS_13, hF⟩ := rd_bind hF
      have hPc := hP.sub (ws' := (wd_Model_symbol kA a0 a2 a3 v0_0 v0_1 v0_2 v0_3 v0_4 v0_7 v0_8 v0_9 v0_10 v0_11 v0_12 (.ref a1) v0_14 v0_15 v0_16 v0_17 v0_18 v0_19 v0_20 v0_21 v0_22 v0_23 v0_24 v0_25 v0_26 v0_27 v0_28 f2 f3)) [0, 2, 3] rfl
      have hDc := hD.sub (ws' := (wd_Model_symbol kA a0 a2 a3 v0_0 v0_1 v0_2 v0_3 v0_4 v0_7 v0_8 v0_9 v0_10 v0_11 v0_12 (.ref a1) v0_14 v0_15 v0_16 v0_17 v0_18 v0_19 v0_20 v0_21 v0_22 v0_23 v0_24 v0_25 v0_26 v0_27 v0_28 f2 f3)) [0, 2, 3] (by decide) rfl
      have hFc := va_free (wc := (wd_Model_symbol kA a0 a2 a3 v0_0 v0_1 v0_2 v0_3 v0_4 v0_7 v0_8 v0_9 v0_10 v0_11 v0_12 (.ref a1) v0_14 v0_15 v0_16 v0_17 v0_18 v0_19 v0_20 v0_21 v0_22 v0_23 v0_24 v0_25 v0_26 v0_27 v0_28 f2 f3)) hD hS hA [0, 2, 3] rfl
      refine va_calli (va_runV (As := [.int l4, .int l5]) (rest := []) ⟨hx, hb, hml, hown, hts⟩ (c_Model_symbol l dC dI kA H.size a0 a2 a3 v0_0 v0_1 v0_2 v0_3 v0_4 v0_7 v0_8 v0_9 v0_10 v0_11 v0_12 (.ref a1) v0_14 v0_15 v0_16 v0_17 v0_18 v0_19 v0_20 v0_21 v0_22 v0_23 v0_24 v0_25 v0_26 v0_27 v0_28 l4 l5 f2 f3 u_13 hS_13) (cwV 2 hts (gw_V gw_298 gw_299 gw_300 gw_267 gw_301) rfl rfl rfl (by decide +kernel) ⟨Nat.le_of_ble_eq_true rfl, Nat.le_of_ble_eq_true rfl⟩) ⟨fun a U g mk q => by obtain ⟨q0, q1, qP, qK, qD⟩ := q; exact ⟨q0, q1, qP, va_K.moved (u := U) (U := U.calling g mk a) (Vm.Alike.refl U.vm) qK, qD⟩, va_recv hK hP (ci := 9) (q0 := 0) rfl rfl, fun U hU hW => ⟨rfl, by rw [hU], by rw [hU]; exact hPc, va_K.moved hW.alike hK, hDc.weaken (fun _ _ _ _ => trivial)⟩⟩ rfl rfl hl.1 rfl (lv_room (Nat.le_of_ble_eq_true rfl)) d_Model_isConflict_109 ⟨Nat.zero_le _, Nat.zero_le _⟩) hS (fun q _ h => hFc q h) hFc (fun r1 u t H1 locs ht hvm hw hB hz1 hk1 hS => ?_)
      rw [show r1 = _ from hw]
      obtain ⟨hP1, hK1, hD1⟩ := hB
      rw [ht] at hP1
      obtain ⟨hP, hD⟩ := va_join (wr := [(a1, .inl (kA 0, 2310, .inl f1))]) (w1 := (wd_Model_symbol kA a0 a2 a3 v0_0 v0_1 v0_2 v0_3 v0_4 v0_7 v0_8 v0_9 v0_10 v0_11 v0_12 (.ref a1) v0_14 v0_15 v0_16 v0_17 v0_18 v0_19 v0_20 v0_21 v0_22 v0_23 v0_24 v0_25 v0_26 v0_27 v0_28 f2 f3)) hP hD [0, 2, 3] [1] rfl rfl (by decide) (by decide) hk1 hFc hP1 hD1
      have hP := hP.sub (ws' := (wd_Model_isConflict kA a0 a1 a2 a3 v0_0 v0_1 v0_2 v0_3 v0_4 v0_7 v0_8 v0_9 v0_10 v0_11 v0_12 v0_14 v0_15 v0_16 v0_17 v0_18 v0_19 v0_20 v0_21 v0_22 v0_23 v0_24 v0_25 v0_26 v0_27 v0_28 f1 f2 f3)) [1, 0, 2, 3] rfl
      have hD := hD.sub (ws' := (wd_Model_isConflict kA a0 a1 a2 a3 v0_0 v0_1 v0_2 v0_3 v0_4 v0_7 v0_8 v0_9 v0_10 v0_11 v0_12 v0_14 v0_15 v0_16 v0_17 v0_18 v0_19 v0_20 v0_21 v0_22 v0_23 v0_24 v0_25 v0_26 v0_27 v0_28 f1 f2 f3)) [1, 0, 2, 3] (by decide) rfl
      clear hPc hDc hFc hP1 hK1 hD1
      generalize H1 = H at hP hS ⊢
      refine lv_istore (lv' := [(7, .int u_13), (6, .int s0), (0, .ref a0), (1, .int l1), (2, .int l2), (3, .int l3), (4, .int l4), (5, .int l5)]) hx hb d_Model_isConflict_112 hl (by decide) rfl (fun ls hl => ?_)
      refine lv_iload hx hb d_Model_isConflict_114 (lv_at hl 1 rfl) ?_
      refine lv_if_eq (tgt := 160) hx hb d_Model_isConflict_116 (by decide) (fun c_14 => ?_) (fun c_14 => ?_)
      · rw [if_pos c_14] at hF
        refine lv_iinc (v := (l5 + 1)) (lv' := [(5, .int (l5 + 1)), (7, .int u_13), (6, .int s0), (0, .ref a0), (1, .int l1), (2, .int l2), (3, .int l3), (4, .int l4)]) hx hb d_Model_isConflict_160 hl (k := 7) rfl (by rfl) (by decide) rfl (fun ls hl => ?_)
        refine lv_goto (tgt := 46) hx hb d_Model_isConflict_163 (by decide) ?_
        exact ih.2.2.1 l1 l2 l3 l4 (l5 + 1) 0 hF _ _ _ hP hD hS (lv_sub hl [3, 4, 5, 6, 7, 0] rfl)
      · rw [if_neg c_14] at hF
        refine lv_iload hx hb d_Model_isConflict_119 (lv_at hl 7 rfl) ?_
        refine lv_aload_n hx hb d_Model_isConflict_121 rfl (lv_at hl 2 rfl) ?_
        refine va_get (D := (dC, dI)) (ci := 9) (v := .ref a2) (C := R_Model) (T := F_Model) (N := 29) hx hb hg iw_Model hown hK hP 0 rfl rfl 5 (by decide) (hg _ gw_278) (fun _ h9 => h9) rfl d_Model_isConflict_122 ?_
        refine lv_iload hx hb d_Model_isConflict_125 (lv_at hl 6 rfl) ?_
        obtain ⟨h_15, hF⟩ := rd_chk hF
        refine va_iald hx hb hK hP 2 0 rfl rfl h_15 d_Model_isConflict_127 ?_
        refine lv_icmp_ne (tgt := 141) hx hb d_Model_isConflict_128 (by decide) (fun c_16 => ?_) (fun c_16 => ?_)
        · rw [if_pos c_16] at hF
          refine lv_iload hx hb d_Model_isConflict_141 (lv_at hl 0 rfl) ?_
          refine lv_bipush (v := 6) hx hb d_Model_isConflict_143 (by decide) ?_
          refine lv_icmp_ge (tgt := 160) hx hb d_Model_isConflict_145 (by decide) (fun c_17 => ?_) (fun c_17 => ?_)
          · rw [if_pos c_17] at hF
            refine lv_iinc (v := (l5 + 1)) (lv' := [(5, .int (l5 + 1)), (7, .int u_13), (6, .int s0), (0, .ref a0), (1, .int l1), (2, .int l2), (3, .int l3), (4, .int l4)]) hx hb d_Model_isConflict_160 hl (k := 7) rfl (by rfl) (by decide) rfl (fun ls hl => ?_)
            refine lv_goto (tgt := 46) hx hb d_Model_isConflict_163 (by decide) ?_
            exact ih.2.2.1 l1 l2 l3 l4 (l5 + 1) 0 hF _ _ _ hP hD hS (lv_sub hl [3, 4, 5, 6, 7, 0] rfl)
          · rw [if_neg c_17] at hF
            refine lv_iload_n hx hb d_Model_isConflict_148 rfl (lv_at hl 5 rfl) ?_
            refine lv_iload hx hb d_Model_isConflict_149 (lv_at hl 0 rfl) ?_
            refine lv_ishr hx hb d_Model_isConflict_151 ?_
            refine lv_iconst (v := 1) hx hb d_Model_isConflict_152 (by decide) ?_
            refine lv_iand hx hb d_Model_isConflict_153 ?_
            refine lv_iconst (v := 1) hx hb d_Model_isConflict_154 (by decide) ?_
            refine lv_icmp_ne (tgt := 160) hx hb d_Model_isConflict_155 (by decide) (fun c_18 => ?_) (fun c_18 => ?_)
            · rw [if_pos c_18] at hF
              refine lv_iinc (v := (l5 + 1)) (lv' := [(5, .int (l5 + 1)), (7, .int u_13), (6, .int s0), (0, .ref a0), (1, .int l1), (2, .int l2), (3, .int l3), (4, .int l4)]) hx hb d_Model_isConflict_160 hl (k := 7) rfl (by rfl) (by decide) rfl (fun ls hl => ?_)
              refine lv_goto (tgt := 46) hx hb d_Model_isConflict_163 (by decide) ?_
              exact ih.2.2.1 l1 l2 l3 l4 (l5 + 1) 0 hF _ _ _ hP hD hS (lv_sub hl [3, 4, 5, 6, 7, 0] rfl)
            · rw [if_neg (fun z => z c_18)] at hF
              refine lv_iconst (v := 1) hx hb d_Model_isConflict_158 (by decide) ?_
              have e0 := Option.some.inj hF
              exact W.zret (v := 1) hx hb hr rfl (fun t ht hW => ⟨⟨1, (), rfl, e0, by rw [ht]; exact hP, va_K.moved hW.alike hK, (by exact hD)⟩, hS.F ht⟩) hS.2.2 d_Model_isConflict_159 hlocks
        · rw [if_neg (fun z => z c_16)] at hF
          refine lv_iload hx hb d_Model_isConflict_131 (lv_at hl 1 rfl) ?_
          refine lv_iload_n hx hb d_Model_isConflict_133 rfl (lv_at hl 5 rfl) ?_
          refine lv_iand hx hb d_Model_isConflict_134 ?_
          refine lv_if_eq (tgt := 160) hx hb d_Model_isConflict_135 (by decide) (fun c_19 => ?_) (fun c_19 => ?_)
          · rw [if_pos c_19] at hF
            refine lv_iinc (v := (l5 + 1)) (lv' := [(5, .int (l5 + 1)), (7, .int u_13), (6, .int s0), (0, .ref a0), (1, .int l1), (2, .int l2), (3, .int l3), (4, .int l4)]) hx hb d_Model_isConflict_160 hl (k := 7) rfl (by rfl) (by decide) rfl (fun ls hl => ?_)
            refine lv_goto (tgt := 46) hx hb d_Model_isConflict_163 (by decide) ?_
            exact ih.2.2.1 l1 l2 l3 l4 (l5 + 1) 0 hF _ _ _ hP hD hS (lv_sub hl [3, 4, 5, 6, 7, 0] rfl)
          · rw [if_neg c_19] at hF
            refine lv_goto (tgt := 158) hx hb d_Model_isConflict_138 (by decide) ?_
            refine lv_iconst (v := 1) hx hb d_Model_isConflict_158 (by decide) ?_
            have e0 := Option.some.inj hF
            exact W.zret (v := 1) hx hb hr rfl (fun t ht hW => ⟨⟨1, (), rfl, e0, by rw [ht]; exact hP, va_K.moved hW.alike hK, (by exact hD)⟩, hS.F ht⟩) hS.2.2 d_Model_isConflict_159 hlocks
def S_Model_isConflict (p1 : Int32) (f1 : (Nat → Int32)) (f2 : (Nat → Int32)) (f3 : (Nat → Int32)) : Option (Int32) := (F_Model_isConflict f1 f2 f3 fuel_ 0 p1 0 0 0 0 0)
set_option maxHeartbeats 4000000 in
set_option maxRecDepth 100000 in
theorem c_Model_isConflict (l : Launch) (dC : Nat → ClassId) (dI : Nat → Nat → Nat) (kA : Nat → ClassId) (sz : Nat) (a0 a1 a2 a3 : Nat) (v0_0 v0_1 v0_2 v0_3 v0_4 v0_7 v0_8 v0_9 v0_10 v0_11 v0_12 v0_14 v0_15 v0_16 v0_17 v0_18 v0_19 v0_20 v0_21 v0_22 v0_23 v0_24 v0_25 v0_26 v0_27 v0_28 : Value) (p1 : Int32) (f1 : (Nat → Int32)) (f2 : (Nat → Int32)) (f3 : (Nat → Int32)) (r : Int32) (hF : S_Model_isConflict p1 f1 f2 f3 = some r) : Met l y_Model_isConflict w_Model_isConflict rm_Model_isConflict (va_Pc [.ref a0, .int p1] (fun U => U.heap.size = sz ∧ va_P (dC, dI) classes (wd_Model_isConflict kA a0 a1 a2 a3 v0_0 v0_1 v0_2 v0_3 v0_4 v0_7 v0_8 v0_9 v0_10 v0_11 v0_12 v0_14 v0_15 v0_16 v0_17 v0_18 v0_19 v0_20 v0_21 v0_22 v0_23 v0_24 v0_25 v0_26 v0_27 v0_28 f1 f2 f3) U.heap ∧ va_K (dC, dI) classes (tys_ kA) U ∧ va_D (fun _ => True) (wd_Model_isConflict kA a0 a1 a2 a3 v0_0 v0_1 v0_2 v0_3 v0_4 v0_7 v0_8 v0_9 v0_10 v0_11 v0_12 v0_14 v0_15 v0_16 v0_17 v0_18 v0_19 v0_20 v0_21 v0_22 v0_23 v0_24 v0_25 v0_26 v0_27 v0_28 f1 f2 f3))) (va_Qi (fun (r1 : Int32) (_ : Unit) => r1 = r) (fun _ t => va_P (dC, dI) classes (wd_Model_isConflict kA a0 a1 a2 a3 v0_0 v0_1 v0_2 v0_3 v0_4 v0_7 v0_8 v0_9 v0_10 v0_11 v0_12 v0_14 v0_15 v0_16 v0_17 v0_18 v0_19 v0_20 v0_21 v0_22 v0_23 v0_24 v0_25 v0_26 v0_27 v0_28 f1 f2 f3) t.heap ∧ va_K (dC, dI) classes (tys_ kA) t ∧ va_D (va_A (wd_Model_isConflict kA a0 a1 a2 a3 v0_0 v0_1 v0_2 v0_3 v0_4 v0_7 v0_8 v0_9 v0_10 v0_11 v0_12 v0_14 v0_15 v0_16 v0_17 v0_18 v0_19 v0_20 v0_21 v0_22 v0_23 v0_24 v0_25 v0_26 v0_27 v0_28 f1 f2 f3) sz) (wd_Model_isConflict kA a0 a1 a2 a3 v0_0 v0_1 v0_2 v0_3 v0_4 v0_7 v0_8 v0_9 v0_10 v0_11 v0_12 v0_14 v0_15 v0_16 v0_17 v0_18 v0_19 v0_20 v0_21 v0_22 v0_23 v0_24 v0_25 v0_26 v0_27 v0_28 f1 f2 f3)) (va_A (wd_Model_isConflict kA a0 a1 a2 a3 v0_0 v0_1 v0_2 v0_3 v0_4 v0_7 v0_8 v0_9 v0_10 v0_11 v0_12 v0_14 v0_15 v0_16 v0_17 v0_18 v0_19 v0_20 v0_21 v0_22 v0_23 v0_24 v0_25 v0_26 v0_27 v0_28 f1 f2 f3) sz)) 0 0 (va_A (wd_Model_isConflict kA a0 a1 a2 a3 v0_0 v0_1 v0_2 v0_3 v0_4 v0_7 v0_8 v0_9 v0_10 v0_11 v0_12 v0_14 v0_15 v0_16 v0_17 v0_18 v0_19 v0_20 v0_21 v0_22 v0_23 v0_24 v0_25 v0_26 v0_27 v0_28 f1 f2 f3) sz) := by
  refine Met.ofW (cc := b_Model_isConflict) (maxL := 8) (ret := some .boolean) (by decide) rfl ?_
  intro p e s m args below meth c s₁ B hml hv
  obtain ⟨rfl, hsz, hP, hK, hD0⟩ := hv
  have hx := B.exec
  have hb := B.bytes
  have hr := B.returns
  have hts := atoms_spec (ws := w_Model_isConflict) B.pre
  have hown : s.vm.findClass R_Model = some m.cls := findClass_of_methodNamed B.named
  have hg := fun (w : Cond) (h : w ∈ gw) => hts w (List.mem_cons_of_mem _ h)
  have hlocks := B.notSynchronized
  subst hsz
  have hD := hD0.self (sz := s.heap.size)
  generalize hAe : va_A (wd_Model_isConflict kA a0 a1 a2 a3 v0_0 v0_1 v0_2 v0_3 v0_4 v0_7 v0_8 v0_9 v0_10 v0_11 v0_12 v0_14 v0_15 v0_16 v0_17 v0_18 v0_19 v0_20 v0_21 v0_22 v0_23 v0_24 v0_25 v0_26 v0_27 v0_28 f1 f2 f3) s.heap.size = A at hD ⊢
  have hA : ∀ q : Nat, s.heap.size ≤ q → A q := fun q h => by rw [← hAe]; exact Or.inr h
  have hS : va_S A s.heap s.heap [] := va_S.rf
  have hl := lv_entry ([.ref a0, .int p1]) (n := 8) (Nat.le_of_ble_eq_true rfl)
  rw [lg_entry_eq]
  generalize (lg_sl ([.ref a0, .int p1]) ++ List.replicate (8 - (lg_sl ([.ref a0, .int p1])).length) Slot.unset).toArray = ls at hl ⊢
  have hl : lv_has ls 8 [(0, .ref a0), (1, .int p1)] := hl
  unfold S_Model_isConflict at hF
  have ih := L_Model_isConflict (l := l) (e := e) (below := below) hx hb hr hlocks hml hown hts hA hK a0 a1 a2 a3 v0_0 v0_1 v0_2 v0_3 v0_4 v0_7 v0_8 v0_9 v0_10 v0_11 v0_12 v0_14 v0_15 v0_16 v0_17 v0_18 v0_19 v0_20 v0_21 v0_22 v0_23 v0_24 v0_25 v0_26 v0_27 v0_28 f1 f2 f3 r fuel_
  refine lv_iconst (v := 0) hx hb d_Model_isConflict_0 (by decide) ?_
  refine lv_istore_n (lv' := [(2, .int 0), (0, .ref a0), (1, .int p1)]) hx hb d_Model_isConflict_1 rfl hl (by decide) rfl (fun ls hl => ?_)
  exact ih.1 p1 0 0 0 0 0 hF _ _ _ hP hD hS (lv_sub hl [1, 2, 0] rfl)
-- ===== RepairDeskModel.compile()I
abbrev wd_Model_compile (kA : Nat → ClassId) (a0 a1 a2 a3 a4 a5 a6 a7 a8 a9 : Nat) (v0_1 v0_2 v0_15 v0_16 v0_17 v0_18 v0_19 v0_20 v0_21 v0_24 v0_25 v0_26 v0_27 v0_28 : Value) (x0_0 : Int32) (x0_3 : Int32) (x0_11 : Int32) (x0_12 : Int32) (x0_22 : Int32) (x0_23 : Int32) (f1 : (Nat → Int32)) (f2 : (Nat → Int32)) (f3 : (Nat → Int32)) (f4 : (Nat → Int32)) (f5 : (Nat → Int32)) (f6 : (Nat → Int32)) (f7 : (Nat → Int32)) (f8 : (Nat → Int32)) (f9 : (Nat → Int32)) : va_W := [(a0, .inr (9, [.int x0_0, v0_1, v0_2, .int x0_3, .ref a5, .ref a6, .ref a8, .ref a9, .ref a1, .ref a2, .ref a3, .int x0_11, .int x0_12, .ref a4, .ref a7, v0_15, v0_16, v0_17, v0_18, v0_19, v0_20, v0_21, .int x0_22, .int x0_23, v0_24, v0_25, v0_26, v0_27, v0_28])), (a1, .inl (kA 1, 6, .inl f1)), (a2, .inl (kA 1, 6, .inl f2)), (a3, .inl (kA 0, 6, .inl f3)), (a4, .inl (kA 0, 2310, .inl f4)), (a5, .inl (kA 0, 11, .inl f5)), (a6, .inl (kA 0, 11, .inl f6)), (a7, .inl (kA 0, 492, .inl f7)), (a8, .inl (kA 0, 44, .inl f8)), (a9, .inl (kA 1, 11, .inl f9))]
abbrev rm_Model_compile : Room := { frames := 3, cells := 0, slots := 0, locals := 78 }
def B_Model_compile_0 (K : Nat → Int32 → Int32 → Int32 → Int32 → Int32 → Int32 → Int32 → (Nat → Int32) → (Nat → Int32) → (Nat → Int32) → (Nat → Int32) → (Nat → Int32) → (Nat → Int32) → (Nat → Int32) → (Nat → Int32) → (Nat → Int32) → Option (Int32 × Int32 × Int32 × Int32 × Int32 × Int32 × (Nat → Int32) × (Nat → Int32) × (Nat → Int32) × (Nat → Int32) × (Nat → Int32) × (Nat → Int32) × (Nat → Int32) × (Nat → Int32) × (Nat → Int32))) (x0_3 : Int32) (l1 : Int32) (l2 : Int32) (x0_0 : Int32) (x0_11 : Int32) (x0_12 : Int32) (x0_22 : Int32) (x0_23 : Int32) (f1 : (Nat → Int32)) (f2 : (Nat → Int32)) (f3 : (Nat → Int32)) (f4 : (Nat → Int32)) (f5 : (Nat → Int32)) (f6 : (Nat → Int32)) (f7 : (Nat → Int32)) (f8 : (Nat → Int32)) (f9 : (Nat → Int32)) : Option (Int32 × Int32 × Int32 × Int32 × Int32 × Int32 × (Nat → Int32) × (Nat → Int32) × (Nat → Int32) × (Nat → Int32) × (Nat → Int32) × (Nat → Int32) × (Nat → Int32) × (Nat → Int32) × (Nat → Int32)) := (if 10 ≤ l1 then (K 1 0 0 x0_0 x0_11 x0_12 x0_22 x0_23 f1 f2 f3 f4 f5 f6 f7 f8 f9) else (if (l1 : Int32) < 0 ∨ 11 ≤ (Int32.toNatClampNeg l1) then none else (K 0 (l1 + 1) 0 x0_0 x0_11 x0_12 x0_22 x0_23 f1 f2 f3 f4 f5 (upd f6 (Int32.toNatClampNeg l1) 0) f7 f8 f9)))
def B_Model_compile_1 (K : Nat → Int32 → Int32 → Int32 → Int32 → Int32 → Int32 → Int32 → (Nat → Int32) → (Nat → Int32) → (Nat → Int32) → (Nat → Int32) → (Nat → Int32) → (Nat → Int32) → (Nat → Int32) → (Nat → Int32) → (Nat → Int32) → Option (Int32 × Int32 × Int32 × Int32 × Int32 × Int32 × (Nat → Int32) × (Nat → Int32) × (Nat → Int32) × (Nat → Int32) × (Nat → Int32) × (Nat → Int32) × (Nat → Int32) × (Nat → Int32) × (Nat → Int32))) (x0_3 : Int32) (l1 : Int32) (l2 : Int32) (x0_0 : Int32) (x0_11 : Int32) (x0_12 : Int32) (x0_22 : Int32) (x0_23 : Int32) (f1 : (Nat → Int32)) (f2 : (Nat → Int32)) (f3 : (Nat → Int32)) (f4 : (Nat → Int32)) (f5 : (Nat → Int32)) (f6 : (Nat → Int32)) (f7 : (Nat → Int32)) (f8 : (Nat → Int32)) (f9 : (Nat → Int32)) : Option (Int32 × Int32 × Int32 × Int32 × Int32 × Int32 × (Nat → Int32) × (Nat → Int32) × (Nat → Int32) × (Nat → Int32) × (Nat → Int32) × (Nat → Int32) × (Nat → Int32) × (Nat → Int32) × (Nat → Int32)) := (if 55 ≤ l1 then (if (50 : Int32) < 0 ∨ 2310 ≤ (Int32.toNatClampNeg 50) then none else ((S_Model_close 0 x0_3 f2 f3 (upd f4 (Int32.toNatClampNeg 50) 64) f5 f6 f8 f9).bind fun u_5 => (K 2 0 0 x0_0 1 x0_12 x0_22 x0_23 f1 f2 f3 u_5 f5 f6 f7 f8 f9))) else (if (l1 : Int32) < 0 ∨ 2310 ≤ (Int32.toNatClampNeg l1) then none else (K 1 (l1 + 1) 0 x0_0 x0_11 x0_12 x0_22 x0_23 f1 f2 f3 (upd f4 (Int32.toNatClampNeg l1) 0) f5 f6 f7 f8 f9)))
def B_Model_compile_2 (K : Nat → Int32 → Int32 → Int32 → Int32 → Int32 → Int32 → Int32 → (Nat → Int32) → (Nat → Int32) → (Nat → Int32) → (Nat → Int32) → (Nat → Int32) → (Nat → Int32) → (Nat → Int32) → (Nat → Int32) → (Nat → Int32) → Option (Int32 × Int32 × Int32 × Int32 × Int32 × Int32 × (Nat → Int32) × (Nat → Int32) × (Nat → Int32) × (Nat → Int32) × (Nat → Int32) × (Nat → Int32) × (Nat → Int32) × (Nat → Int32) × (Nat → Int32))) (x0_3 : Int32) (l1 : Int32) (l2 : Int32) (x0_0 : Int32) (x0_11 : Int32) (x0_12 : Int32) (x0_22 : Int32) (x0_23 : Int32) (f1 : (Nat → Int32)) (f2 : (Nat → Int32)) (f3 : (Nat → Int32)) (f4 : (Nat → Int32)) (f5 : (Nat → Int32)) (f6 : (Nat → Int32)) (f7 : (Nat → Int32)) (f8 : (Nat → Int32)) (f9 : (Nat → Int32)) : Option (Int32 × Int32 × Int32 × Int32 × Int32 × Int32 × (Nat → Int32) × (Nat → Int32) × (Nat → Int32) × (Nat → Int32) × (Nat → Int32) × (Nat → Int32) × (Nat → Int32) × (Nat → Int32) × (Nat → Int32)) := (if x0_11 ≤ l1 then (if x0_11 ≤ 40 then (K 4 0 0 x0_0 x0_11 x0_12 x0_22 x0_23 f1 f2 f3 f4 f5 f6 f7 f8 f9) else (K 4 1 0 x0_0 x0_11 x0_12 x0_22 x0_23 f1 f2 f3 f4 f5 f6 f7 f8 f9)) else (if 40 < x0_11 then (if x0_11 ≤ 40 then (K 4 0 0 x0_0 x0_11 x0_12 x0_22 x0_23 f1 f2 f3 f4 f5 f6 f7 f8 f9) else (K 4 1 0 x0_0 x0_11 x0_12 x0_22 x0_23 f1 f2 f3 f4 f5 f6 f7 f8 f9)) else (K 3 l1 0 x0_0 x0_11 x0_12 x0_22 x0_23 f1 f2 f3 f4 f5 f6 f7 f8 f9)))
def B_Model_compile_3 (K : Nat → Int32 → Int32 → Int32 → Int32 → Int32 → Int32 → Int32 → (Nat → Int32) → (Nat → Int32) → (Nat → Int32) → (Nat → Int32) → (Nat → Int32) → (Nat → Int32) → (Nat → Int32) → (Nat → Int32) → (Nat → Int32) → Option (Int32 × Int32 × Int32 × Int32 × Int32 × Int32 × (Nat → Int32) × (Nat → Int32) × (Nat → Int32) × (Nat → Int32) × (Nat → Int32) × (Nat → Int32) × (Nat → Int32) × (Nat → Int32) × (Nat → Int32))) (x0_3 : Int32) (l1 : Int32) (l2 : Int32) (x0_0 : Int32) (x0_11 : Int32) (x0_12 : Int32) (x0_22 : Int32) (x0_23 : Int32) (f1 : (Nat → Int32)) (f2 : (Nat → Int32)) (f3 : (Nat → Int32)) (f4 : (Nat → Int32)) (f5 : (Nat → Int32)) (f6 : (Nat → Int32)) (f7 : (Nat → Int32)) (f8 : (Nat → Int32)) (f9 : (Nat → Int32)) : Option (Int32 × Int32 × Int32 × Int32 × Int32 × Int32 × (Nat → Int32) × (Nat → Int32) × (Nat → Int32) × (Nat → Int32) × (Nat → Int32) × (Nat → Int32) × (Nat → Int32) × (Nat → Int32) × (Nat → Int32)) := (if 12 ≤ l2 then (K 2 (l1 + 1) 0 x0_0 x0_11 x0_12 x0_22 x0_23 f1 f2 f3 f4 f5 f6 f7 f8 f9) else (if 40 < x0_11 then (K 2 (l1 + 1) 0 x0_0 x0_11 x0_12 x0_22 x0_23 f1 f2 f3 f4 f5 f6 f7 f8 f9) else ((S_Model_led l1 l2 x0_3 x0_11 f2 f3 f4 f5 f6 f8 f9).bind fun u_13 => (if (((12 * l1) + l2) : Int32) < 0 ∨ 492 ≤ (Int32.toNatClampNeg ((12 * l1) + l2)) then none else (K 3 l1 (l2 + 1) x0_0 u_13.2.1 x0_12 x0_22 x0_23 f1 f2 f3 u_13.2.2 f5 f6 (upd f7 (Int32.toNatClampNeg ((12 * l1) + l2)) u_13.1) f8 f9)))))
def B_Model_compile_4 (K : Nat → Int32 → Int32 → Int32 → Int32 → Int32 → Int32 → Int32 → (Nat → Int32) → (Nat → Int32) → (Nat → Int32) → (Nat → Int32) → (Nat → Int32) → (Nat → Int32) → (Nat → Int32) → (Nat → Int32) → (Nat → Int32) → Option (Int32 × Int32 × Int32 × Int32 × Int32 × Int32 × (Nat → Int32) × (Nat → Int32) × (Nat → Int32) × (Nat → Int32) × (Nat → Int32) × (Nat → Int32) × (Nat → Int32) × (Nat → Int32) × (Nat → Int32))) (x0_3 : Int32) (l1 : Int32) (l2 : Int32) (x0_0 : Int32) (x0_11 : Int32) (x0_12 : Int32) (x0_22 : Int32) (x0_23 : Int32) (f1 : (Nat → Int32)) (f2 : (Nat → Int32)) (f3 : (Nat → Int32)) (f4 : (Nat → Int32)) (f5 : (Nat → Int32)) (f6 : (Nat → Int32)) (f7 : (Nat → Int32)) (f8 : (Nat → Int32)) (f9 : (Nat → Int32)) : Option (Int32 × Int32 × Int32 × Int32 × Int32 × Int32 × (Nat → Int32) × (Nat → Int32) × (Nat → Int32) × (Nat → Int32) × (Nat → Int32) × (Nat → Int32) × (Nat → Int32) × (Nat → Int32) × (Nat → Int32)) := (if x0_11 ≤ l2 then (if l1 = 0 then (some (x0_11, x0_0, x0_11, x0_11, x0_22, x0_23, f1, f2, f3, f4, f5, f6, f7, f8, f9)) else ((S_Model_fails 2 x0_0).bind fun u_17 => (some (u_17.1, u_17.2, x0_11, x0_12, x0_22, x0_23, f1, f2, f3, f4, f5, f6, f7, f8, f9)))) else (if ¬ l1 = 0 then (if l1 = 0 then (some (x0_11, x0_0, x0_11, x0_11, x0_22, x0_23, f1, f2, f3, f4, f5, f6, f7, f8, f9)) else ((S_Model_fails 2 x0_0).bind fun u_20 => (some (u_20.1, u_20.2, x0_11, x0_12, x0_22, x0_23, f1, f2, f3, f4, f5, f6, f7, f8, f9)))) else ((S_Model_isConflict l2 f4 f6 f8).bind fun u_21 => (K 4 u_21 (l2 + 1) x0_0 x0_11 x0_12 x0_22 x0_23 f1 f2 f3 f4 f5 f6 f7 f8 f9))))
def F_Model_compile (x0_3 : Int32) : Nat → Nat → Int32 → Int32 → Int32 → Int32 → Int32 → Int32 → Int32 → (Nat → Int32) → (Nat → Int32) → (Nat → Int32) → (Nat → Int32) → (Nat → Int32) → (Nat → Int32) → (Nat → Int32) → (Nat → Int32) → (Nat → Int32) → Option (Int32 × Int32 × Int32 × Int32 × Int32 × Int32 × (Nat → Int32) × (Nat → Int32) × (Nat → Int32) × (Nat → Int32) × (Nat → Int32) × (Nat → Int32) × (Nat → Int32) × (Nat → Int32) × (Nat → Int32))
  | 0 => fun _ _ _ _ _ _ _ _ _ _ _ _ _ _ _ _ _ => none
  | n + 1 => fun hd l1 l2 x0_0 x0_11 x0_12 x0_22 x0_23 f1 f2 f3 f4 f5 f6 f7 f8 f9 => match hd with
    | 0 => B_Model_compile_0 (F_Model_compile x0_3 n) x0_3 l1 l2 x0_0 x0_11 x0_12 x0_22 x0_23 f1 f2 f3 f4 f5 f6 f7 f8 f9
    | 1 => B_Model_compile_1 (F_Model_compile x0_3 n) x0_3 l1 l2 x0_0 x0_11 x0_12 x0_22 x0_23 f1 f2 f3 f4 f5 f6 f7 f8 f9
    | 2 => B_Model_compile_2 (F_Model_compile x0_3 n) x0_3 l1 l2 x0_0 x0_11 x0_12 x0_22 x0_23 f1 f2 f3 f4 f5 f6 f7 f8 f9
    | 3 => B_Model_compile_3 (F_Model_compile x0_3 n) x0_3 l1 l2 x0_0 x0_11 x0_12 x0_22 x0_23 f1 f2 f3 f4 f5 f6 f7 f8 f9
    | 4 => B_Model_compile_4 (F_Model_compile x0_3 n) x0_3 l1 l2 x0_0 x0_11 x0_12 x0_22 x0_23 f1 f2 f3 f4 f5 f6 f7 f8 f9
    | _ => none
set_option maxHeartbeats 4000000 in
set_option maxRecDepth 100000 in
theorem L_Model_compile {p : Program} {l : Launch} {e : Env} {s : State} {m : MethodId} {args : Array Value} {below : List Frame} {meth : Method} {c : Code} {A : Nat → Prop} {dC : Nat → ClassId} {dI : Nat → Nat → Nat} {kA : Nat → ClassId} (hx : p.tables.exec = Jvm.exec) (hb : c.code = b_Model_compile) (hr : meth.sig.returnType = some .int) (hlocks : meth.locks = false) (hml : c.maxLocals = 4) (hown : s.vm.findClass R_Model = some m.cls) (hts : ∀ w ∈ w_Model_compile, w.before args s = true) (hA : ∀ q : Nat, s.heap.size ≤ q → A q) (hK : va_K (dC, dI) classes (tys_ kA) s) (a0 a1 a2 a3 a4 a5 a6 a7 a8 a9 : Nat) (v0_1 v0_2 v0_15 v0_16 v0_17 v0_18 v0_19 v0_20 v0_21 v0_24 v0_25 v0_26 v0_27 v0_28 : Value) (x0_3 : Int32) (r : Int32) (ox0_0 : Int32) (ox0_11 : Int32) (ox0_12 : Int32) (ox0_22 : Int32) (ox0_23 : Int32) (of1 : (Nat → Int32)) (of2 : (Nat → Int32)) (of3 : (Nat → Int32)) (of4 : (Nat → Int32)) (of5 : (Nat → Int32)) (of6 : (Nat → Int32)) (of7 : (Nat → Int32)) (of8 : (Nat → Int32)) (of9 : (Nat → Int32)) : ∀ n : Nat, (∀ (l1 l2 : Int32) (x0_0 : Int32) (x0_11 : Int32) (x0_12 : Int32) (x0_22 : Int32) (x0_23 : Int32) (f1 : (Nat → Int32)) (f2 : (Nat → Int32)) (f3 : (Nat → Int32)) (f4 : (Nat → Int32)) (f5 : (Nat → Int32)) (f6 : (Nat → Int32)) (f7 : (Nat → Int32)) (f8 : (Nat → Int32)) (f9 : (Nat → Int32)), F_Model_compile x0_3 n 0 l1 l2 x0_0 x0_11 x0_12 x0_22 x0_23 f1 f2 f3 f4 f5 f6 f7 f8 f9 = some (r, ox0_0, ox0_11, ox0_12, ox0_22, ox0_23, of1, of2, of3, of4, of5, of6, of7, of8, of9) → ∀ (H : Heap) (locs : List Loc) (ls : Array Slot), va_P (dC, dI) classes (wd_Model_compile kA a0 a1 a2 a3 a4 a5 a6 a7 a8 a9 v0_1 v0_2 v0_15 v0_16 v0_17 v0_18 v0_19 v0_20 v0_21 v0_24 v0_25 v0_26 v0_27 v0_28 x0_0 x0_3 x0_11 x0_12 x0_22 x0_23 f1 f2 f3 f4 f5 f6 f7 f8 f9) H → va_D A (wd_Model_compile kA a0 a1 a2 a3 a4 a5 a6 a7 a8 a9 v0_1 v0_2 v0_15 v0_16 v0_17 v0_18 v0_19 v0_20 v0_21 v0_24 v0_25 v0_26 v0_27 v0_28 x0_0 x0_3 x0_11 x0_12 x0_22 x0_23 f1 f2 f3 f4 f5 f6 f7 f8 f9) → va_S A s.heap H locs → lv_has ls 4 [(0, .ref a0), (1, .int l1)] → W p l e (headSpec w_Model_compile rm_Model_compile).room s m args below meth c H locs 0 0 (MQ below (va_Qi (fun (r1 : Int32) (_ : Unit) => r1 = r) (fun _ t => va_P (dC, dI) classes (wd_Model_compile kA a0 a1 a2 a3 a4 a5 a6 a7 a8 a9 v0_1 v0_2 v0_15 v0_16 v0_17 v0_18 v0_19 v0_20 v0_21 v0_24 v0_25 v0_26 v0_27 v0_28 ox0_0 x0_3 ox0_11 ox0_12 ox0_22 ox0_23 of1 of2 of3 of4 of5 of6 of7 of8 of9) t.heap ∧ va_K (dC, dI) classes (tys_ kA) t ∧ va_D A (wd_Model_compile kA a0 a1 a2 a3 a4 a5 a6 a7 a8 a9 v0_1 v0_2 v0_15 v0_16 v0_17 v0_18 v0_19 v0_20 v0_21 v0_24 v0_25 v0_26 v0_27 v0_28 ox0_0 x0_3 ox0_11 ox0_12 ox0_22 ox0_23 of1 of2 of3 of4 of5 of6 of7 of8 of9)) A) args s 0 0 A) (F0 m 97 ls [])) ∧ (∀ (l1 l2 : Int32) (x0_0 : Int32) (x0_11 : Int32) (x0_12 : Int32) (x0_22 : Int32) (x0_23 : Int32) (f1 : (Nat → Int32)) (f2 : (Nat → Int32)) (f3 : (Nat → Int32)) (f4 : (Nat → Int32)) (f5 : (Nat → Int32)) (f6 : (Nat → Int32)) (f7 : (Nat → Int32)) (f8 : (Nat → Int32)) (f9 : (Nat → Int32)), F_Model_compile x0_3 n 1 l1 l2 x0_0 x0_11 x0_12 x0_22 x0_23 f1 f2 f3 f4 f5 f6 f7 f8 f9 = some (r, ox0_0, ox0_11, ox0_12, ox0_22, ox0_23, of1, of2, of3, of4, of5, of6, of7, of8, of9) → ∀ (H : Heap) (locs : List Loc) (ls : Array Slot), va_P (dC, dI) classes (wd_Model_compile kA a0 a1 a2 a3 a4 a5 a6 a7 a8 a9 v0_1 v0_2 v0_15 v0_16 v0_17 v0_18 v0_19 v0_20 v0_21 v0_24 v0_25 v0_26 v0_27 v0_28 x0_0 x0_3 x0_11 x0_12 x0_22 x0_23 f1 f2 f3 f4 f5 f6 f7 f8 f9) H → va_D A (wd_Model_compile kA a0 a1 a2 a3 a4 a5 a6 a7 a8 a9 v0_1 v0_2 v0_15 v0_16 v0_17 v0_18 v0_19 v0_20 v0_21 v0_24 v0_25 v0_26 v0_27 v0_28 x0_0 x0_3 x0_11 x0_12 x0_22 x0_23 f1 f2 f3 f4 f5 f6 f7 f8 f9) → va_S A s.heap H locs → lv_has ls 4 [(0, .ref a0), (1, .int l1)] → W p l e (headSpec w_Model_compile rm_Model_compile).room s m args below meth c H locs 0 0 (MQ below (va_Qi (fun (r1 : Int32) (_ : Unit) => r1 = r) (fun _ t => va_P (dC, dI) classes (wd_Model_compile kA a0 a1 a2 a3 a4 a5 a6 a7 a8 a9 v0_1 v0_2 v0_15 v0_16 v0_17 v0_18 v0_19 v0_20 v0_21 v0_24 v0_25 v0_26 v0_27 v0_28 ox0_0 x0_3 ox0_11 ox0_12 ox0_22 ox0_23 of1 of2 of3 of4 of5 of6 of7 of8 of9) t.heap ∧ va_K (dC, dI) classes (tys_ kA) t ∧ va_D A (wd_Model_compile kA a0 a1 a2 a3 a4 a5 a6 a7 a8 a9 v0_1 v0_2 v0_15 v0_16 v0_17 v0_18 v0_19 v0_20 v0_21 v0_24 v0_25 v0_26 v0_27 v0_28 ox0_0 x0_3 ox0_11 ox0_12 ox0_22 ox0_23 of1 of2 of3 of4 of5 of6 of7 of8 of9)) A) args s 0 0 A) (F0 m 118 ls [])) ∧ (∀ (l1 l2 : Int32) (x0_0 : Int32) (x0_11 : Int32) (x0_12 : Int32) (x0_22 : Int32) (x0_23 : Int32) (f1 : (Nat → Int32)) (f2 : (Nat → Int32)) (f3 : (Nat → Int32)) (f4 : (Nat → Int32)) (f5 : (Nat → Int32)) (f6 : (Nat → Int32)) (f7 : (Nat → Int32)) (f8 : (Nat → Int32)) (f9 : (Nat → Int32)), F_Model_compile x0_3 n 2 l1 l2 x0_0 x0_11 x0_12 x0_22 x0_23 f1 f2 f3 f4 f5 f6 f7 f8 f9 = some (r, ox0_0, ox0_11, ox0_12, ox0_22, ox0_23, of1, of2, of3, of4, of5, of6, of7, of8, of9) → ∀ (H : Heap) (locs : List Loc) (ls : Array Slot), va_P (dC, dI) classes (wd_Model_compile kA a0 a1 a2 a3 a4 a5 a6 a7 a8 a9 v0_1 v0_2 v0_15 v0_16 v0_17 v0_18 v0_19 v0_20 v0_21 v0_24 v0_25 v0_26 v0_27 v0_28 x0_0 x0_3 x0_11 x0_12 x0_22 x0_23 f1 f2 f3 f4 f5 f6 f7 f8 f9) H → va_D A (wd_Model_compile kA a0 a1 a2 a3 a4 a5 a6 a7 a8 a9 v0_1 v0_2 v0_15 v0_16 v0_17 v0_18 v0_19 v0_20 v0_21 v0_24 v0_25 v0_26 v0_27 v0_28 x0_0 x0_3 x0_11 x0_12 x0_22 x0_23 f1 f2 f3 f4 f5 f6 f7 f8 f9) → va_S A s.heap H locs → lv_has ls 4 [(0, .ref a0), (1, .int l1)] → W p l e (headSpec w_Model_compile rm_Model_compile).room s m args below meth c H locs 0 0 (MQ below (va_Qi (fun (r1 : Int32) (_ : Unit) => r1 = r) (fun _ t => va_P (dC, dI) classes (wd_Model_compile kA a0 a1 a2 a3 a4 a5 a6 a7 a8 a9 v0_1 v0_2 v0_15 v0_16 v0_17 v0_18 v0_19 v0_20 v0_21 v0_24 v0_25 v0_26 v0_27 v0_28 ox0_0 x0_3 ox0_11 ox0_12 ox0_22 ox0_23 of1 of2 of3 of4 of5 of6 of7 of8 of9) t.heap ∧ va_K (dC, dI) classes (tys_ kA) t ∧ va_D A (wd_Model_compile kA a0 a1 a2 a3 a4 a5 a6 a7 a8 a9 v0_1 v0_2 v0_15 v0_16 v0_17 v0_18 v0_19 v0_20 v0_21 v0_24 v0_25 v0_26 v0_27 v0_28 ox0_0 x0_3 ox0_11 ox0_12 ox0_22 ox0_23 of1 of2 of3 of4 of5 of6 of7 of8 of9)) A) args s 0 0 A) (F0 m 158 ls [])) ∧ (∀ (l1 l2 : Int32) (x0_0 : Int32) (x0_11 : Int32) (x0_12 : Int32) (x0_22 : Int32) (x0_23 : Int32) (f1 : (Nat → Int32)) (f2 : (Nat → Int32)) (f3 : (Nat → Int32)) (f4 : (Nat → Int32)) (f5 : (Nat → Int32)) (f6 : (Nat → Int32)) (f7 : (Nat → Int32)) (f8 : (Nat → Int32)) (f9 : (Nat → Int32)), F_Model_compile x0_3 n 3 l1 l2 x0_0 x0_11 x0_12 x0_22 x0_23 f1 f2 f3 f4 f5 f6 f7 f8 f9 = some (r, ox0_0, ox0_11, ox0_12, ox0_22, ox0_23, of1, of2, of3, of4, of5, of6, of7, of8, of9) → ∀ (H : Heap) (locs : List Loc) (ls : Array Slot), va_P (dC, dI) classes (wd_Model_compile kA a0 a1 a2 a3 a4 a5 a6 a7 a8 a9 v0_1 v0_2 v0_15 v0_16 v0_17 v0_18 v0_19 v0_20 v0_21 v0_24 v0_25 v0_26 v0_27 v0_28 x0_0 x0_3 x0_11 x0_12 x0_22 x0_23 f1 f2 f3 f4 f5 f6 f7 f8 f9) H → va_D A (wd_Model_compile kA a0 a1 a2 a3 a4 a5 a6 a7 a8 a9 v0_1 v0_2 v0_15 v0_16 v0_17 v0_18 v0_19 v0_20 v0_21 v0_24 v0_25 v0_26 v0_27 v0_28 x0_0 x0_3 x0_11 x0_12 x0_22 x0_23 f1 f2 f3 f4 f5 f6 f7 f8 f9) → va_S A s.heap H locs → lv_has ls 4 [(0, .ref a0), (1, .int l1), (2, .int l2)] → W p l e (headSpec w_Model_compile rm_Model_compile).room s m args below meth c H locs 0 0 (MQ below (va_Qi (fun (r1 : Int32) (_ : Unit) => r1 = r) (fun _ t => va_P (dC, dI) classes (wd_Model_compile kA a0 a1 a2 a3 a4 a5 a6 a7 a8 a9 v0_1 v0_2 v0_15 v0_16 v0_17 v0_18 v0_19 v0_20 v0_21 v0_24 v0_25 v0_26 v0_27 v0_28 ox0_0 x0_3 ox0_11 ox0_12 ox0_22 ox0_23 of1 of2 of3 of4 of5 of6 of7 of8 of9) t.heap ∧ va_K (dC, dI) classes (tys_ kA) t ∧ va_D A (wd_Model_compile kA a0 a1 a2 a3 a4 a5 a6 a7 a8 a9 v0_1 v0_2 v0_15 v0_16 v0_17 v0_18 v0_19 v0_20 v0_21 v0_24 v0_25 v0_26 v0_27 v0_28 ox0_0 x0_3 ox0_11 ox0_12 ox0_22 ox0_23 of1 of2 of3 of4 of5 of6 of7 of8 of9)) A) args s 0 0 A) (F0 m 177 ls [])) ∧ (∀ (l1 l2 : Int32) (x0_0 : Int32) (x0_11 : Int32) (x0_12 : Int32) (x0_22 : Int32) (x0_23 : Int32) (f1 : (Nat → Int32)) (f2 : (Nat → Int32)) (f3 : (Nat → Int32)) (f4 : (Nat → Int32)) (f5 : (Nat → Int32)) (f6 : (Nat → Int32)) (f7 : (Nat → Int32)) (f8 : (Nat → Int32)) (f9 : (Nat → Int32)), F_Model_compile x0_3 n 4 l1 l2 x0_0 x0_11 x0_12 x0_22 x0_23 f1 f2 f3 f4 f5 f6 f7 f8 f9 = some (r, ox0_0, ox0_11, ox0_12, ox0_22, ox0_23, of1, of2, of3, of4, of5, of6, of7, of8, of9) → ∀ (H : Heap) (locs : List Loc) (ls : Array Slot), va_P (dC, dI) classes (wd_Model_compile kA a0 a1 a2 a3 a4 a5 a6 a7 a8 a9 v0_1 v0_2 v0_15 v0_16 v0_17 v0_18 v0_19 v0_20 v0_21 v0_24 v0_25 v0_26 v0_27 v0_28 x0_0 x0_3 x0_11 x0_12 x0_22 x0_23 f1 f2 f3 f4 f5 f6 f7 f8 f9) H → va_D A (wd_Model_compile kA a0 a1 a2 a3 a4 a5 a6 a7 a8 a9 v0_1 v0_2 v0_15 v0_16 v0_17 v0_18 v0_19 v0_20 v0_21 v0_24 v0_25 v0_26 v0_27 v0_28 x0_0 x0_3 x0_11 x0_12 x0_22 x0_23 f1 f2 f3 f4 f5 f6 f7 f8 f9) → va_S A s.heap H locs → lv_has ls 4 [(0, .ref a0), (1, .int l1), (2, .int l2)] → W p l e (headSpec w_Model_compile rm_Model_compile).room s m args below meth c H locs 0 0 (MQ below (va_Qi (fun (r1 : Int32) (_ : Unit) => r1 = r) (fun _ t => va_P (dC, dI) classes (wd_Model_compile kA a0 a1 a2 a3 a4 a5 a6 a7 a8 a9 v0_1 v0_2 v0_15 v0_16 v0_17 v0_18 v0_19 v0_20 v0_21 v0_24 v0_25 v0_26 v0_27 v0_28 ox0_0 x0_3 ox0_11 ox0_12 ox0_22 ox0_23 of1 of2 of3 of4 of5 of6 of7 of8 of9) t.heap ∧ va_K (dC, dI) classes (tys_ kA) t ∧ va_D A (wd_Model_compile kA a0 a1 a2 a3 a4 a5 a6 a7 a8 a9 v0_1 v0_2 v0_15 v0_16 v0_17 v0_18 v0_19 v0_20 v0_21 v0_24 v0_25 v0_26 v0_27 v0_28 ox0_0 x0_3 ox0_11 ox0_12 ox0_22 ox0_23 of1 of2 of3 of4 of5 of6 of7 of8 of9)) A) args s 0 0 A) (F0 m 240 ls [])) := by
  have hg := fun (w : Cond) (h : w ∈ gw) => hts w (List.mem_cons_of_mem _ h)
  intro n
  induction n with
  | zero =>
    exact ⟨fun _ _ _ _ _ _ _ _ _ _ _ _ _ _ _ _ hF => absurd (show (none : Option _) = some _ from hF) (fun z => by cases z), fun _ _ _ _ _ _ _ _ _ _ _ _ _ _ _ _ hF => absurd (show (none : Option _) = some _ from hF) (fun z => by cases z), fun _ _ _ _ _ _ _ _ _ _ _ _ _ _ _ _ hF => absurd (show (none : Option _) = some _ from hF) (fun z => by cases z), fun _ _ _ _ _ _ _ _ _ _ _ _ _ _ _ _ hF => absurd (show (none : Option _) = some _ from hF) (fun z => by cases z), fun _ _ _ _ _ _ _ _ _ _ _ _ _ _ _ _ hF => absurd (show (none : Option _) = some _ from hF) (fun z => by cases z)⟩
  | succ n ih =>
    refine ⟨?_, ?_, ?_, ?_, ?_⟩
    · intro l1 l2 x0_0 x0_11 x0_12 x0_22 x0_23 f1 f2 f3 f4 f5 f6 f7 f8 f9 hF H locs ls hP hD hS hl
      have hF : B_Model_compile_0 (F_Model_compile x0_3 n) x0_3 l1 l2 x0_0 x0_11 x0_12 x0_22 x0_23 f1 f2 f3 f4 f5 f6 f7 f8 f9 = some (r, ox0_0, ox0_11, ox0_12, ox0_22, ox0_23, of1, of2, of3, of4, of5, of6, of7, of8, of9) := hF
      unfold B_Model_compile_0 at hF
      refine lv_iload_n hx hb d_Model_compile_97 rfl (lv_at hl 1 rfl) ?_
      refine lv_bipush (v := 10) hx hb d_Model_compile_98 (by decide) ?_
      refine lv_icmp_ge (tgt := 116) hx hb d_Model_compile_100 (by decide) (fun c_1 => ?_) (fun c_1 => ?_)
      · rw [if_pos c_1] at hF
        refine lv_iconst (v := 0) hx hb d_Model_compile_116 (by decide) ?_
        refine lv_istore_n (lv' := [(1, .int 0), (0, .ref a0)]) hx hb d_Model_compile_117 rfl hl (by decide) rfl (fun ls hl => ?_)
        exact ih.2.1 0 0 x0_0 x0_11 x0_12 x0_22 x0_23 f1 f2 f3 f4 f5 f6 f7 f8 f9 hF _ _ _ hP hD hS (lv_sub hl [1, 0] rfl)
      · rw [if_neg c_1] at hF
        refine lv_aload_n hx hb d_Model_compile_103 rfl (lv_at hl 0 rfl) ?_
        refine va_get (D := (dC, dI)) (ci := 9) (v := .ref a6) (C := R_Model) (T := F_Model) (N := 29) hx hb hg iw_Model hown hK hP 0 rfl rfl 5 (by decide) (hg _ gw_278) (fun _ h9 => h9) rfl d_Model_compile_104 ?_
        refine lv_iload_n hx hb d_Model_compile_107 rfl (lv_at hl 1 rfl) ?_
        refine lv_iconst (v := 0) hx hb d_Model_compile_108 (by decide) ?_
        obtain ⟨h_2, hF⟩ := rd_chk hF
        refine va_iast hx hb hK hP hD hS 6 0 rfl rfl h_2 d_Model_compile_109 (fun H locs hP hD hS => ?_)
        have hP : va_P (dC, dI) classes (wd_Model_compile kA a0 a1 a2 a3 a4 a5 a6 a7 a8 a9 v0_1 v0_2 v0_15 v0_16 v0_17 v0_18 v0_19 v0_20 v0_21 v0_24 v0_25 v0_26 v0_27 v0_28 x0_0 x0_3 x0_11 x0_12 x0_22 x0_23 f1 f2 f3 f4 f5 (upd f6 (Int32.toNatClampNeg l1) 0) f7 f8 f9) H := hP
        have hD : va_D A (wd_Model_compile kA a0 a1 a2 a3 a4 a5 a6 a7 a8 a9 v0_1 v0_2 v0_15 v0_16 v0_17 v0_18 v0_19 v0_20 v0_21 v0_24 v0_25 v0_26 v0_27 v0_28 x0_0 x0_3 x0_11 x0_12 x0_22 x0_23 f1 f2 f3 f4 f5 (upd f6 (Int32.toNatClampNeg l1) 0) f7 f8 f9) := hD
        refine lv_iinc (v := (l1 + 1)) (lv' := [(1, .int (l1 + 1)), (0, .ref a0)]) hx hb d_Model_compile_110 hl (k := 1) rfl (by rfl) (by decide) rfl (fun ls hl => ?_)
        refine lv_goto (tgt := 97) hx hb d_Model_compile_113 (by decide) ?_
        exact ih.1 (l1 + 1) 0 x0_0 x0_11 x0_12 x0_22 x0_23 f1 f2 f3 f4 f5 (upd f6 (Int32.toNatClampNeg l1) 0) f7 f8 f9 hF _ _ _ hP hD hS (lv_sub hl [1, 0] rfl)
    · intro l1 l2 x0_0 x0_11 x0_12 x0_22 x0_23 f1 f2 f3 f4 f5 f6 f7 f8 f9 hF H locs ls hP hD hS hl
      have hF : B_Model_compile_1 (F_Model_compile x0_3 n) x0_3 l1 l2 x0_0 x0_11 x0_12 x0_22 x0_23 f1 f2 f3 f4 f5 f6 f7 f8 f9 = some (r, ox0_0, ox0_11, ox0_12, ox0_22, ox0_23, of1, of2, of3, of4, of5, of6, of7, of8, of9) := hF
      unfold B_Model_compile_1 at hF
      refine lv_iload_n hx hb d_Model_compile_118 rfl (lv_at hl 1 rfl) ?_
      refine lv_bipush (v := 55) hx hb d_Model_compile_119 (by decide) ?_
      refine lv_icmp_ge (tgt := 137) hx hb d_Model_compile_121 (by decide) (fun c_3 => ?_) (fun c_3 => ?_)
      · rw [if_pos c_3] at hF
        refine lv_aload_n hx hb d_Model_compile_137 rfl (lv_at hl 0 rfl) ?_
        refine va_get (D := (dC, dI)) (ci := 9) (v := .ref a4) (C := R_Model) (T := F_Model) (N := 29) hx hb hg iw_Model hown hK hP 0 rfl rfl 13 (by decide) (hg _ gw_297) (fun _ h9 => h9) rfl d_Model_compile_138 ?_
        refine lv_bipush (v := 50) hx hb d_Model_compile_141 (by decide) ?_
        refine lv_bipush (v := 64) hx hb d_Model_compile_143 (by decide) ?_
        obtain ⟨h_4, hF⟩ := rd_chk hF
        refine va_iast hx hb hK hP hD hS 4 0 rfl rfl h_4 d_Model_compile_145 (fun H locs hP hD hS => ?_)
        have hP : va_P (dC, dI) classes (wd_Model_compile kA a0 a1 a2 a3 a4 a5 a6 a7 a8 a9 v0_1 v0_2 v0_15 v0_16 v0_17 v0_18 v0_19 v0_20 v0_21 v0_24 v0_25 v0_26 v0_27 v0_28 x0_0 x0_3 x0_11 x0_12 x0_22 x0_23 f1 f2 f3 (upd f4 (Int32.toNatClampNeg 50) 64) f5 f6 f7 f8 f9) H := hP
        have hD : va_D A (wd_Model_compile kA a0 a1 a2 a3 a4 a5 a6 a7 a8 a9 v0_1 v0_2 v0_15 v0_16 v0_17 v0_18 v0_19 v0_20 v0_21 v0_24 v0_25 v0_26 v0_27 v0_28 x0_0 x0_3 x0_11 x0_12 x0_22 x0_23 f1 f2 f3 (upd f4 (Int32.toNatClampNeg 50) 64) f5 f6 f7 f8 f9) := hD
        refine lv_aload_n hx hb d_Model_compile_146 rfl (lv_at hl 0 rfl) ?_
        refine lv_iconst (v := 0) hx hb d_Model_compile_147 (by decide) ?_
        obtain ⟨u_5, hS_5, hF⟩ := rd_bind hF
        have hPc := hP.sub (ws' := (wd_Model_close kA a0 a2 a3 a4 a5 a6 a8 a9 (.int x0_0) v0_1 v0_2 (.ref a1) (.int x0_11) (.int x0_12) (.ref a7) v0_15 v0_16 v0_17 v0_18 v0_19 v0_20 v0_21 (.int x0_22) (.int x0_23) v0_24 v0_25 v0_26 v0_27 v0_28 x0_3 f2 f3 (upd f4 (Int32.toNatClampNeg 50) 64) f5 f6 f8 f9)) [0, 2, 3, 4, 5, 6, 8, 9] rfl
        have hDc := hD.sub (ws' := (wd_Model_close kA a0 a2 a3 a4 a5 a6 a8 a9 (.int x0_0) v0_1 v0_2 (.ref a1) (.int x0_11) (.int x0_12) (.ref a7) v0_15 v0_16 v0_17 v0_18 v0_19 v0_20 v0_21 (.int x0_22) (.int x0_23) v0_24 v0_25 v0_26 v0_27 v0_28 x0_3 f2 f3 (upd f4 (Int32.toNatClampNeg 50) 64) f5 f6 f8 f9)) [0, 2, 3, 4, 5, 6, 8, 9] (by decide) rfl
        have hFc := va_free (wc := (wd_Model_close kA a0 a2 a3 a4 a5 a6 a8 a9 (.int x0_0) v0_1 v0_2 (.ref a1) (.int x0_11) (.int x0_12) (.ref a7) v0_15 v0_16 v0_17 v0_18 v0_19 v0_20 v0_21 (.int x0_22) (.int x0_23) v0_24 v0_25 v0_26 v0_27 v0_28 x0_3 f2 f3 (upd f4 (Int32.toNatClampNeg 50) 64) f5 f6 f8 f9)) hD hS hA [0, 2, 3, 4, 5, 6, 8, 9] rfl
        refine va_callv (va_runV (As := [.int 0]) (rest := []) ⟨hx, hb, hml, hown, hts⟩ (c_Model_close l dC dI kA H.size a0 a2 a3 a4 a5 a6 a8 a9 (.int x0_0) v0_1 v0_2 (.ref a1) (.int x0_11) (.int x0_12) (.ref a7) v0_15 v0_16 v0_17 v0_18 v0_19 v0_20 v0_21 (.int x0_22) (.int x0_23) v0_24 v0_25 v0_26 v0_27 v0_28 0 x0_3 f2 f3 (upd f4 (Int32.toNatClampNeg 50) 64) f5 f6 f8 f9 u_5 hS_5) (cwV 1 hts (gw_V gw_307 gw_308 gw_309 gw_267 gw_310) rfl rfl rfl (by decide +kernel) ⟨Nat.le_of_ble_eq_true rfl, Nat.le_of_ble_eq_true rfl⟩) ⟨fun a U g mk q => by obtain ⟨q0, q1, qP, qK, qD⟩ := q; exact ⟨q0, q1, qP, va_K.moved (u := U) (U := U.calling g mk a) (Vm.Alike.refl U.vm) qK, qD⟩, va_recv hK hP (ci := 9) (q0 := 0) rfl rfl, fun U hU hW => ⟨rfl, by rw [hU], by rw [hU]; exact hPc, va_K.moved hW.alike hK, hDc.weaken (fun _ _ _ _ => trivial)⟩⟩ rfl rfl hl.1 rfl (lv_room (Nat.le_of_ble_eq_true rfl)) d_Model_compile_148 ⟨Nat.zero_le _, Nat.zero_le _⟩) hS (fun q _ h => hFc q h) hFc (fun u t H1 locs ht hvm hw hB hz1 hk1 hS => ?_)
        obtain ⟨hP1, hK1, hD1⟩ := hB
        rw [ht] at hP1
        obtain ⟨hP, hD⟩ := va_join (wr := [(a1, .inl (kA 1, 6, .inl f1)), (a7, .inl (kA 0, 492, .inl f7))]) (w1 := (wd_Model_close kA a0 a2 a3 a4 a5 a6 a8 a9 (.int x0_0) v0_1 v0_2 (.ref a1) (.int x0_11) (.int x0_12) (.ref a7) v0_15 v0_16 v0_17 v0_18 v0_19 v0_20 v0_21 (.int x0_22) (.int x0_23) v0_24 v0_25 v0_26 v0_27 v0_28 x0_3 f2 f3 u_5 f5 f6 f8 f9)) hP hD [0, 2, 3, 4, 5, 6, 8, 9] [1, 7] rfl rfl (by decide) (by decide) hk1 hFc hP1 hD1
        have hP := hP.sub (ws' := (wd_Model_compile kA a0 a1 a2 a3 a4 a5 a6 a7 a8 a9 v0_1 v0_2 v0_15 v0_16 v0_17 v0_18 v0_19 v0_20 v0_21 v0_24 v0_25 v0_26 v0_27 v0_28 x0_0 x0_3 x0_11 x0_12 x0_22 x0_23 f1 f2 f3 u_5 f5 f6 f7 f8 f9)) [2, 0, 3, 4, 5, 6, 7, 1, 8, 9] rfl
        have hD := hD.sub (ws' := (wd_Model_compile kA a0 a1 a2 a3 a4 a5 a6 a7 a8 a9 v0_1 v0_2 v0_15 v0_16 v0_17 v0_18 v0_19 v0_20 v0_21 v0_24 v0_25 v0_26 v0_27 v0_28 x0_0 x0_3 x0_11 x0_12 x0_22 x0_23 f1 f2 f3 u_5 f5 f6 f7 f8 f9)) [2, 0, 3, 4, 5, 6, 7, 1, 8, 9] (by decide) rfl
        clear hPc hDc hFc hP1 hK1 hD1
        generalize H1 = H at hP hS ⊢
        refine lv_aload_n hx hb d_Model_compile_151 rfl (lv_at hl 0 rfl) ?_
        refine lv_iconst (v := 1) hx hb d_Model_compile_152 (by decide) ?_
        refine va_put (D := (dC, dI)) (ci := 9) (v := .int 1) (ty := .int) (C := R_Model) (T := F_Model) (N := 29) hx hb hg iw_Model t_Model t_Model_ok n_Model hown hK hP hD hS 0 rfl rfl 11 (by decide) (hg _ gw_306) (fun _ h9 => h9) rfl (by decide +kernel) rfl rfl (Nat.le_of_ble_eq_true rfl) d_Model_compile_153 (fun H locs hP hD hS => ?_)
        have hP : va_P (dC, dI) classes (wd_Model_compile kA a0 a1 a2 a3 a4 a5 a6 a7 a8 a9 v0_1 v0_2 v0_15 v0_16 v0_17 v0_18 v0_19 v0_20 v0_21 v0_24 v0_25 v0_26 v0_27 v0_28 x0_0 x0_3 1 x0_12 x0_22 x0_23 f1 f2 f3 u_5 f5 f6 f7 f8 f9) H := hP
        have hD : va_D A (wd_Model_compile kA a0 a1 a2 a3 a4 a5 a6 a7 a8 a9 v0_1 v0_2 v0_15 v0_16 v0_17 v0_18 v0_19 v0_20 v0_21 v0_24 v0_25 v0_26 v0_27 v0_28 x0_0 x0_3 1 x0_12 x0_22 x0_23 f1 f2 f3 u_5 f5 f6 f7 f8 f9) := hD
        refine lv_iconst (v := 0) hx hb d_Model_compile_156 (by decide) ?_
        refine lv_istore_n (lv' := [(1, .int 0), (0, .ref a0)]) hx hb d_Model_compile_157 rfl hl (by decide) rfl (fun ls hl => ?_)
        exact ih.2.2.1 0 0 x0_0 1 x0_12 x0_22 x0_23 f1 f2 f3 u_5 f5 f6 f7 f8 f9 hF _ _ _ hP hD hS (lv_sub hl [1, 0] rfl)
      · rw [if_neg c_3] at hF
        refine lv_aload_n hx hb d_Model_compile_124 rfl (lv_at hl 0 rfl) ?_
        refine va_get (D := (dC, dI)) (ci := 9) (v := .ref a4) (C := R_Model) (T := F_Model) (N := 29) hx hb hg iw_Model hown hK hP 0 rfl rfl 13 (by decide) (hg _ gw_297) (fun _ h9 => h9) rfl d_Model_compile_125 ?_
        refine lv_iload_n hx hb d_Model_compile_128 rfl (lv_at hl 1 rfl) ?_
        refine lv_iconst (v := 0) hx hb d_Model_compile_129 (by decide) ?_
        obtain ⟨h_6, hF⟩ := rd_chk hF
        refine va_iast hx hb hK hP hD hS 4 0 rfl rfl h_6 d_Model_compile_130 (fun H locs hP hD hS => ?_)
        have hP : va_P (dC, dI) classes (wd_Model_compile kA a0 a1 a2 a3 a4 a5 a6 a7 a8 a9 v0_1 v0_2 v0_15 v0_16 v0_17 v0_18 v0_19 v0_20 v0_21 v0_24 v0_25 v0_26 v0_27 v0_28 x0_0 x0_3 x0_11 x0_12 x0_22 x0_23 f1 f2 f3 (upd f4 (Int32.toNatClampNeg l1) 0) f5 f6 f7 f8 f9) H := hP
        have hD : va_D A (wd_Model_compile kA a0 a1 a2 a3 a4 a5 a6 a7 a8 a9 v0_1 v0_2 v0_15 v0_16 v0_17 v0_18 v0_19 v0_20 v0_21 v0_24 v0_25 v0_26 v0_27 v0_28 x0_0 x0_3 x0_11 x0_12 x0_22 x0_23 f1 f2 f3 (upd f4 (Int32.toNatClampNeg l1) 0) f5 f6 f7 f8 f9) := hD
        refine lv_iinc (v := (l1 + 1)) (lv' := [(1, .int (l1 + 1)), (0, .ref a0)]) hx hb d_Model_compile_131 hl (k := 1) rfl (by rfl) (by decide) rfl (fun ls hl => ?_)
        refine lv_goto (tgt := 118) hx hb d_Model_compile_134 (by decide) ?_
        exact ih.2.1 (l1 + 1) 0 x0_0 x0_11 x0_12 x0_22 x0_23 f1 f2 f3 (upd f4 (Int32.toNatClampNeg l1) 0) f5 f6 f7 f8 f9 hF _ _ _ hP hD hS (lv_sub hl [1, 0] rfl)
    · intro l1 l2 x0_0 x0_11 x0_12 x0_22 x0_23 f1 f2 f3 f4 f5 f6 f7 f8 f9 hF H locs ls hP hD hS hl
      have hF : B_Model_compile_2 (F_Model_compile x0_3 n) x0_3 l1 l2 x0_0 x0_11 x0_12 x0_22 x0_23 f1 f2 f3 f4 f5 f6 f7 f8 f9 = some (r, ox0_0, ox0_11, ox0_12, ox0_22, ox0_23, of1, of2, of3, of4, of5, of6, of7, of8, of9) := hF
      unfold B_Model_compile_2 at hF
      refine lv_iload_n hx hb d_Model_compile_158 rfl (lv_at hl 1 rfl) ?_
      refine lv_aload_n hx hb d_Model_compile_159 rfl (lv_at hl 0 rfl) ?_
      refine va_get (D := (dC, dI)) (ci := 9) (v := .int x0_11) (C := R_Model) (T := F_Model) (N := 29) hx hb hg iw_Model hown hK hP 0 rfl rfl 11 (by decide) (hg _ gw_306) (fun _ h9 => h9) rfl d_Model_compile_160 ?_
      refine lv_icmp_ge (tgt := 223) hx hb d_Model_compile_163 (by decide) (fun c_7 => ?_) (fun c_7 => ?_)
      · rw [if_pos c_7] at hF
        refine lv_aload_n hx hb d_Model_compile_223 rfl (lv_at hl 0 rfl) ?_
        refine va_get (D := (dC, dI)) (ci := 9) (v := .int x0_11) (C := R_Model) (T := F_Model) (N := 29) hx hb hg iw_Model hown hK hP 0 rfl rfl 11 (by decide) (hg _ gw_306) (fun _ h9 => h9) rfl d_Model_compile_224 ?_
        refine lv_bipush (v := 40) hx hb d_Model_compile_227 (by decide) ?_
        refine lv_icmp_le (tgt := 236) hx hb d_Model_compile_229 (by decide) (fun c_8 => ?_) (fun c_8 => ?_)
        · rw [if_pos c_8] at hF
          refine lv_iconst (v := 0) hx hb d_Model_compile_236 (by decide) ?_
          refine lv_istore_n (lv' := [(1, .int 0), (0, .ref a0)]) hx hb d_Model_compile_237 rfl hl (by decide) rfl (fun ls hl => ?_)
          refine lv_iconst (v := 0) hx hb d_Model_compile_238 (by decide) ?_
          refine lv_istore_n (lv' := [(2, .int 0), (1, .int 0), (0, .ref a0)]) hx hb d_Model_compile_239 rfl hl (by decide) rfl (fun ls hl => ?_)
          exact ih.2.2.2.2 0 0 x0_0 x0_11 x0_12 x0_22 x0_23 f1 f2 f3 f4 f5 f6 f7 f8 f9 hF _ _ _ hP hD hS (lv_sub hl [2, 1, 0] rfl)
        · rw [if_neg c_8] at hF
          refine lv_iconst (v := 1) hx hb d_Model_compile_232 (by decide) ?_
          refine lv_goto (tgt := 237) hx hb d_Model_compile_233 (by decide) ?_
          refine lv_istore_n (lv' := [(1, .int 1), (0, .ref a0)]) hx hb d_Model_compile_237 rfl hl (by decide) rfl (fun ls hl => ?_)
          refine lv_iconst (v := 0) hx hb d_Model_compile_238 (by decide) ?_
          refine lv_istore_n (lv' := [(2, .int 0), (1, .int 1), (0, .ref a0)]) hx hb d_Model_compile_239 rfl hl (by decide) rfl (fun ls hl => ?_)
          exact ih.2.2.2.2 1 0 x0_0 x0_11 x0_12 x0_22 x0_23 f1 f2 f3 f4 f5 f6 f7 f8 f9 hF _ _ _ hP hD hS (lv_sub hl [2, 1, 0] rfl)
      · rw [if_neg c_7] at hF
        refine lv_aload_n hx hb d_Model_compile_166 rfl (lv_at hl 0 rfl) ?_
        refine va_get (D := (dC, dI)) (ci := 9) (v := .int x0_11) (C := R_Model) (T := F_Model) (N := 29) hx hb hg iw_Model hown hK hP 0 rfl rfl 11 (by decide) (hg _ gw_306) (fun _ h9 => h9) rfl d_Model_compile_167 ?_
        refine lv_bipush (v := 40) hx hb d_Model_compile_170 (by decide) ?_
        refine lv_icmp_gt (tgt := 223) hx hb d_Model_compile_172 (by decide) (fun c_9 => ?_) (fun c_9 => ?_)
        · rw [if_pos c_9] at hF
          refine lv_aload_n hx hb d_Model_compile_223 rfl (lv_at hl 0 rfl) ?_
          refine va_get (D := (dC, dI)) (ci := 9) (v := .int x0_11) (C := R_Model) (T := F_Model) (N := 29) hx hb hg iw_Model hown hK hP 0 rfl rfl 11 (by decide) (hg _ gw_306) (fun _ h9 => h9) rfl d_Model_compile_224 ?_
          refine lv_bipush (v := 40) hx hb d_Model_compile_227 (by decide) ?_
          refine lv_icmp_le (tgt := 236) hx hb d_Model_compile_229 (by decide) (fun c_10 => ?_) (fun c_10 => ?_)
          · rw [if_pos c_10] at hF
            refine lv_iconst (v := 0) hx hb d_Model_compile_236 (by decide) ?_
            refine lv_istore_n (lv' := [(1, .int 0), (0, .ref a0)]) hx hb d_Model_compile_237 rfl hl (by decide) rfl (fun ls hl => ?_)
            refine lv_iconst (v := 0) hx hb d_Model_compile_238 (by decide) ?_
            refine lv_istore_n (lv' := [(2, .int 0), (1, .int 0), (0, .ref a0)]) hx hb d_Model_compile_239 rfl hl (by decide) rfl (fun ls hl => ?_)
            exact ih.2.2.2.2 0 0 x0_0 x0_11 x0_12 x0_22 x0_23 f1 f2 f3 f4 f5 f6 f7 f8 f9 hF _ _ _ hP hD hS (lv_sub hl [2, 1, 0] rfl)
          · rw [if_neg c_10] at hF
            refine lv_iconst (v := 1) hx hb d_Model_compile_232 (by decide) ?_
            refine lv_goto (tgt := 237) hx hb d_Model_compile_233 (by decide) ?_
            refine lv_istore_n (lv' := [(1, .int 1), (0, .ref a0)]) hx hb d_Model_compile_237 rfl hl (by decide) rfl (fun ls hl => ?_)
            refine lv_iconst (v := 0) hx hb d_Model_compile_238 (by decide) ?_
            refine lv_istore_n (lv' := [(2, .int 0), (1, .int 1), (0, .ref a0)]) hx hb d_Model_compile_239 rfl hl (by decide) rfl (fun ls hl => ?_)
            exact ih.2.2.2.2 1 0 x0_0 x0_11 x0_12 x0_22 x0_23 f1 f2 f3 f4 f5 f6 f7 f8 f9 hF _ _ _ hP hD hS (lv_sub hl [2, 1, 0] rfl)
        · rw [if_neg c_9] at hF
          refine lv_iconst (v := 0) hx hb d_Model_compile_175 (by decide) ?_
          refine lv_istore_n (lv' := [(2, .int 0), (0, .ref a0), (1, .int l1)]) hx hb d_Model_compile_176 rfl hl (by decide) rfl (fun ls hl => ?_)
          exact ih.2.2.2.1 l1 0 x0_0 x0_11 x0_12 x0_22 x0_23 f1 f2 f3 f4 f5 f6 f7 f8 f9 hF _ _ _ hP hD hS (lv_sub hl [1, 2, 0] rfl)
    · intro l1 l2 x0_0 x0_11 x0_12 x0_22 x0_23 f1 f2 f3 f4 f5 f6 f7 f8 f9 hF H locs ls hP hD hS hl
      have hF : B_Model_compile_3 (F_Model_compile x0_3 n) x0_3 l1 l2 x0_0 x0_11 x0_12 x0_22 x0_23 f1 f2 f3 f4 f5 f6 f7 f8 f9 = some (r, ox0_0, ox0_11, ox0_12, ox0_22, ox0_23, of1, of2, of3, of4, of5, of6, of7, of8, of9) := hF
      unfold B_Model_compile_3 at hF
      refine lv_iload_n hx hb d_Model_compile_177 rfl (lv_at hl 2 rfl) ?_
      refine lv_bipush (v := 12) hx hb d_Model_compile_178 (by decide) ?_
      refine lv_icmp_ge (tgt := 217) hx hb d_Model_compile_180 (by decide) (fun c_11 => ?_) (fun c_11 => ?_)
      · rw [if_pos c_11] at hF
        refine lv_iinc (v := (l1 + 1)) (lv' := [(1, .int (l1 + 1)), (0, .ref a0), (2, .int l2)]) hx hb d_Model_compile_217 hl (k := 1) rfl (by rfl) (by decide) rfl (fun ls hl => ?_)
        refine lv_goto (tgt := 158) hx hb d_Model_compile_220 (by decide) ?_
        exact ih.2.2.1 (l1 + 1) 0 x0_0 x0_11 x0_12 x0_22 x0_23 f1 f2 f3 f4 f5 f6 f7 f8 f9 hF _ _ _ hP hD hS (lv_sub hl [1, 0] rfl)
      · rw [if_neg c_11] at hF
        refine lv_aload_n hx hb d_Model_compile_183 rfl (lv_at hl 0 rfl) ?_
        refine va_get (D := (dC, dI)) (ci := 9) (v := .int x0_11) (C := R_Model) (T := F_Model) (N := 29) hx hb hg iw_Model hown hK hP 0 rfl rfl 11 (by decide) (hg _ gw_306) (fun _ h9 => h9) rfl d_Model_compile_184 ?_
        refine lv_bipush (v := 40) hx hb d_Model_compile_187 (by decide) ?_
        refine lv_icmp_gt (tgt := 217) hx hb d_Model_compile_189 (by decide) (fun c_12 => ?_) (fun c_12 => ?_)
        · rw [if_pos c_12] at hF
          refine lv_iinc (v := (l1 + 1)) (lv' := [(1, .int (l1 + 1)), (0, .ref a0), (2, .int l2)]) hx hb d_Model_compile_217 hl (k := 1) rfl (by rfl) (by decide) rfl (fun ls hl => ?_)
          refine lv_goto (tgt := 158) hx hb d_Model_compile_220 (by decide) ?_
          exact ih.2.2.1 (l1 + 1) 0 x0_0 x0_11 x0_12 x0_22 x0_23 f1 f2 f3 f4 f5 f6 f7 f8 f9 hF _ _ _ hP hD hS (lv_sub hl [1, 0] rfl)
        · rw [if_neg c_12] at hF
          refine lv_aload_n hx hb d_Model_compile_192 rfl (lv_at hl 0 rfl) ?_
          refine lv_iload_n hx hb d_Model_compile_193 rfl (lv_at hl 1 rfl) ?_
          refine lv_iload_n hx hb d_Model_compile_194 rfl (lv_at hl 2 rfl) ?_
          obtain ⟨u_13, hS_13, hF⟩ := rd_bind hF
          have hPc := hP.sub (ws' := (wd_Model_led kA a0 a2 a3 a4 a5 a6 a8 a9 (.int x0_0) v0_1 v0_2 (.ref a1) (.int x0_12) (.ref a7) v0_15 v0_16 v0_17 v0_18 v0_19 v0_20 v0_21 (.int x0_22) (.int x0_23) v0_24 v0_25 v0_26 v0_27 v0_28 x0_3 x0_11 f2 f3 f4 f5 f6 f8 f9)) [0, 2, 3, 4, 5, 6, 8, 9] rfl
          have hDc := hD.sub (ws' := (wd_Model_led kA a0 a2 a3 a4 a5 a6 a8 a9 (.int x0_0) v0_1 v0_2 (.ref a1) (.int x0_12) (.ref a7) v0_15 v0_16 v0_17 v0_18 v0_19 v0_20 v0_21 (.int x0_22) (.int x0_23) v0_24 v0_25 v0_26 v0_27 v0_28 x0_3 x0_11 f2 f3 f4 f5 f6 f8 f9)) [0, 2, 3, 4, 5, 6, 8, 9] (by decide) rfl
          have hFc := va_free (wc := (wd_Model_led kA a0 a2 a3 a4 a5 a6 a8 a9 (.int x0_0) v0_1 v0_2 (.ref a1) (.int x0_12) (.ref a7) v0_15 v0_16 v0_17 v0_18 v0_19 v0_20 v0_21 (.int x0_22) (.int x0_23) v0_24 v0_25 v0_26 v0_27 v0_28 x0_3 x0_11 f2 f3 f4 f5 f6 f8 f9)) hD hS hA [0, 2, 3, 4, 5, 6, 8, 9] rfl
          refine va_calli (va_runV (As := [.int l1, .int l2]) (rest := []) ⟨hx, hb, hml, hown, hts⟩ (c_Model_led l dC dI kA H.size a0 a2 a3 a4 a5 a6 a8 a9 (.int x0_0) v0_1 v0_2 (.ref a1) (.int x0_12) (.ref a7) v0_15 v0_16 v0_17 v0_18 v0_19 v0_20 v0_21 (.int x0_22) (.int x0_23) v0_24 v0_25 v0_26 v0_27 v0_28 l1 l2 x0_3 x0_11 f2 f3 f4 f5 f6 f8 f9 u_13.1 u_13.2.1 u_13.2.2 hS_13) (cwV 2 hts (gw_V gw_311 gw_312 gw_313 gw_267 gw_314) rfl rfl rfl (by decide +kernel) ⟨Nat.le_of_ble_eq_true rfl, Nat.le_of_ble_eq_true rfl⟩) ⟨fun a U g mk q => by obtain ⟨q0, q1, qP, qK, qD⟩ := q; exact ⟨q0, q1, qP, va_K.moved (u := U) (U := U.calling g mk a) (Vm.Alike.refl U.vm) qK, qD⟩, va_recv hK hP (ci := 9) (q0 := 0) rfl rfl, fun U hU hW => ⟨rfl, by rw [hU], by rw [hU]; exact hPc, va_K.moved hW.alike hK, hDc.weaken (fun _ _ _ _ => trivial)⟩⟩ rfl rfl hl.1 rfl (lv_room (Nat.le_of_ble_eq_true rfl)) d_Model_compile_195 ⟨Nat.zero_le _, Nat.zero_le _⟩) hS (fun q _ h => hFc q h) hFc (fun r1 u t H1 locs ht hvm hw hB hz1 hk1 hS => ?_)
          rw [show r1 = _ from hw]
          obtain ⟨hP1, hK1, hD1⟩ := hB
          rw [ht] at hP1
          obtain ⟨hP, hD⟩ := va_join (wr := [(a1, .inl (kA 1, 6, .inl f1)), (a7, .inl (kA 0, 492, .inl f7))]) (w1 := (wd_Model_led kA a0 a2 a3 a4 a5 a6 a8 a9 (.int x0_0) v0_1 v0_2 (.ref a1) (.int x0_12) (.ref a7) v0_15 v0_16 v0_17 v0_18 v0_19 v0_20 v0_21 (.int x0_22) (.int x0_23) v0_24 v0_25 v0_26 v0_27 v0_28 x0_3 u_13.2.1 f2 f3 u_13.2.2 f5 f6 f8 f9)) hP hD [0, 2, 3, 4, 5, 6, 8, 9] [1, 7] rfl rfl (by decide) (by decide) hk1 hFc hP1 hD1
          have hP := hP.sub (ws' := (wd_Model_compile kA a0 a1 a2 a3 a4 a5 a6 a7 a8 a9 v0_1 v0_2 v0_15 v0_16 v0_17 v0_18 v0_19 v0_20 v0_21 v0_24 v0_25 v0_26 v0_27 v0_28 x0_0 x0_3 u_13.2.1 x0_12 x0_22 x0_23 f1 f2 f3 u_13.2.2 f5 f6 f7 f8 f9)) [2, 0, 3, 4, 5, 6, 7, 1, 8, 9] rfl
          have hD := hD.sub (ws' := (wd_Model_compile kA a0 a1 a2 a3 a4 a5 a6 a7 a8 a9 v0_1 v0_2 v0_15 v0_16 v0_17 v0_18 v0_19 v0_20 v0_21 v0_24 v0_25 v0_26 v0_27 v0_28 x0_0 x0_3 u_13.2.1 x0_12 x0_22 x0_23 f1 f2 f3 u_13.2.2 f5 f6 f7 f8 f9)) [2, 0, 3, 4, 5, 6, 7, 1, 8, 9] (by decide) rfl
          clear hPc hDc hFc hP1 hK1 hD1
          generalize H1 = H at hP hS ⊢
          refine lv_istore_n (lv' := [(3, .int u_13.1), (0, .ref a0), (1, .int l1), (2, .int l2)]) hx hb d_Model_compile_198 rfl hl (by decide) rfl (fun ls hl => ?_)
          refine lv_aload_n hx hb d_Model_compile_199 rfl (lv_at hl 1 rfl) ?_
          refine va_get (D := (dC, dI)) (ci := 9) (v := .ref a7) (C := R_Model) (T := F_Model) (N := 29) hx hb hg iw_Model hown hK hP 0 rfl rfl 14 (by decide) (hg _ gw_315) (fun _ h9 => h9) rfl d_Model_compile_200 ?_
          refine lv_bipush (v := 12) hx hb d_Model_compile_203 (by decide) ?_
          refine lv_iload_n hx hb d_Model_compile_205 rfl (lv_at hl 2 rfl) ?_
          refine lv_imul hx hb d_Model_compile_206 ?_
          refine lv_iload_n hx hb d_Model_compile_207 rfl (lv_at hl 3 rfl) ?_
          refine lv_iadd hx hb d_Model_compile_208 ?_
          refine lv_iload_n hx hb d_Model_compile_209 rfl (lv_at hl 0 rfl) ?_
          obtain ⟨h_14, hF⟩ := rd_chk hF
          refine va_iast hx hb hK hP hD hS 7 0 rfl rfl h_14 d_Model_compile_210 (fun H locs hP hD hS => ?_)
          have hP : va_P (dC, dI) classes (wd_Model_compile kA a0 a1 a2 a3 a4 a5 a6 a7 a8 a9 v0_1 v0_2 v0_15 v0_16 v0_17 v0_18 v0_19 v0_20 v0_21 v0_24 v0_25 v0_26 v0_27 v0_28 x0_0 x0_3 u_13.2.1 x0_12 x0_22 x0_23 f1 f2 f3 u_13.2.2 f5 f6 (upd f7 (Int32.toNatClampNeg ((12 * l1) + l2)) u_13.1) f8 f9) H := hP
          have hD : va_D A (wd_Model_compile kA a0 a1 a2 a3 a4 a5 a6 a7 a8 a9 v0_1 v0_2 v0_15 v0_16 v0_17 v0_18 v0_19 v0_20 v0_21 v0_24 v0_25 v0_26 v0_27 v0_28 x0_0 x0_3 u_13.2.1 x0_12 x0_22 x0_23 f1 f2 f3 u_13.2.2 f5 f6 (upd f7 (Int32.toNatClampNeg ((12 * l1) + l2)) u_13.1) f8 f9) := hD
          refine lv_iinc (v := (l2 + 1)) (lv' := [(2, .int (l2 + 1)), (3, .int u_13.1), (0, .ref a0), (1, .int l1)]) hx hb d_Model_compile_211 hl (k := 3) rfl (by rfl) (by decide) rfl (fun ls hl => ?_)
          refine lv_goto (tgt := 177) hx hb d_Model_compile_214 (by decide) ?_
          exact ih.2.2.2.1 l1 (l2 + 1) x0_0 u_13.2.1 x0_12 x0_22 x0_23 f1 f2 f3 u_13.2.2 f5 f6 (upd f7 (Int32.toNatClampNeg ((12 * l1) + l2)) u_13.1) f8 f9 hF _ _ _ hP hD hS (lv_sub hl [2, 3, 0] rfl)
    · intro l1 l2 x0_0 x0_11 x0_12 x0_22 x0_23 f1 f2 f3 f4 f5 f6 f7 f8 f9 hF H locs ls hP hD hS hl
      have hF : B_Model_compile_4 (F_Model_compile x0_3 n) x0_3 l1 l2 x0_0 x0_11 x0_12 x0_22 x0_23 f1 f2 f3 f4 f5 f6 f7 f8 f9 = some (r, ox0_0, ox0_11, ox0_12, ox0_22, ox0_23, of1, of2, of3, of4, of5, of6, of7, of8, of9) := hF
      unfold B_Model_compile_4 at hF
      refine lv_iload_n hx hb d_Model_compile_240 rfl (lv_at hl 2 rfl) ?_
      refine lv_aload_n hx hb d_Model_compile_241 rfl (lv_at hl 0 rfl) ?_
      refine va_get (D := (dC, dI)) (ci := 9) (v := .int x0_11) (C := R_Model) (T := F_Model) (N := 29) hx hb hg iw_Model hown hK hP 0 rfl rfl 11 (by decide) (hg _ gw_306) (fun _ h9 => h9) rfl d_Model_compile_242 ?_
      refine lv_icmp_ge (tgt := 264) hx hb d_Model_compile_245 (by decide) (fun c_15 => ?_) (fun c_15 => ?_)
      · rw [if_pos c_15] at hF
        refine lv_iload_n hx hb d_Model_compile_264 rfl (lv_at hl 1 rfl) ?_
        refine lv_if_eq (tgt := 274) hx hb d_Model_compile_265 (by decide) (fun c_16 => ?_) (fun c_16 => ?_)
        · rw [if_pos c_16] at hF
          refine lv_aload_n hx hb d_Model_compile_274 rfl (lv_at hl 0 rfl) ?_
          refine lv_aload_n hx hb d_Model_compile_275 rfl (lv_at hl 0 rfl) ?_
          refine va_get (D := (dC, dI)) (ci := 9) (v := .int x0_11) (C := R_Model) (T := F_Model) (N := 29) hx hb hg iw_Model hown hK hP 0 rfl rfl 11 (by decide) (hg _ gw_306) (fun _ h9 => h9) rfl d_Model_compile_276 ?_
          refine va_put (D := (dC, dI)) (ci := 9) (v := .int x0_11) (ty := .int) (C := R_Model) (T := F_Model) (N := 29) hx hb hg iw_Model t_Model t_Model_ok n_Model hown hK hP hD hS 0 rfl rfl 12 (by decide) (hg _ gw_280) (fun _ h9 => h9) rfl (by decide +kernel) rfl rfl (Nat.le_of_ble_eq_true rfl) d_Model_compile_279 (fun H locs hP hD hS => ?_)
          have hP : va_P (dC, dI) classes (wd_Model_compile kA a0 a1 a2 a3 a4 a5 a6 a7 a8 a9 v0_1 v0_2 v0_15 v0_16 v0_17 v0_18 v0_19 v0_20 v0_21 v0_24 v0_25 v0_26 v0_27 v0_28 x0_0 x0_3 x0_11 x0_11 x0_22 x0_23 f1 f2 f3 f4 f5 f6 f7 f8 f9) H := hP
          have hD : va_D A (wd_Model_compile kA a0 a1 a2 a3 a4 a5 a6 a7 a8 a9 v0_1 v0_2 v0_15 v0_16 v0_17 v0_18 v0_19 v0_20 v0_21 v0_24 v0_25 v0_26 v0_27 v0_28 x0_0 x0_3 x0_11 x0_11 x0_22 x0_23 f1 f2 f3 f4 f5 f6 f7 f8 f9) := hD
          refine lv_aload_n hx hb d_Model_compile_282 rfl (lv_at hl 0 rfl) ?_
          refine va_get (D := (dC, dI)) (ci := 9) (v := .int x0_11) (C := R_Model) (T := F_Model) (N := 29) hx hb hg iw_Model hown hK hP 0 rfl rfl 12 (by decide) (hg _ gw_280) (fun _ h9 => h9) rfl d_Model_compile_283 ?_
          have e0 := Option.some.inj hF
          have q0 := Prod.mk.inj e0
          have q1 := Prod.mk.inj q0.2
          have q2 := Prod.mk.inj q1.2
          have q3 := Prod.mk.inj q2.2
          have q4 := Prod.mk.inj q3.2
          have q5 := Prod.mk.inj q4.2
          have q6 := Prod.mk.inj q5.2
          have q7 := Prod.mk.inj q6.2
          have q8 := Prod.mk.inj q7.2
          have q9 := Prod.mk.inj q8.2
          have q10 := Prod.mk.inj q9.2
          have q11 := Prod.mk.inj q10.2
          have q12 := Prod.mk.inj q11.2
          have q13 := Prod.mk.inj q12.2
          exact W.iret (v := x0_11) hx hb hr (fun t ht hW => ⟨⟨x0_11, (), rfl, q0.1, by rw [ht, ← q1.1, ← q2.1, ← q3.1, ← q4.1, ← q5.1, ← q6.1, ← q7.1, ← q8.1, ← q9.1, ← q10.1, ← q11.1, ← q12.1, ← q13.1, ← q13.2]; exact hP, va_K.moved hW.alike hK, (by rw [← q1.1, ← q2.1, ← q3.1, ← q4.1, ← q5.1, ← q6.1, ← q7.1, ← q8.1, ← q9.1, ← q10.1, ← q11.1, ← q12.1, ← q13.1, ← q13.2]; exact hD)⟩, hS.F ht⟩) hS.2.2 d_Model_compile_286 hlocks
        · rw [if_neg c_16] at hF
          refine lv_aload_n hx hb d_Model_compile_268 rfl (lv_at hl 0 rfl) ?_
          refine lv_iconst (v := 2) hx hb d_Model_compile_269 (by decide) ?_
          obtain ⟨u_17, hS_17, hF⟩ := rd_bind hF
          have hPc := hP.sub (ws' := (wd_Model_fails kA a0 v0_1 v0_2 (.int x0_3) (.ref a5) (.ref a6) (.ref a8) (.ref a9) (.ref a1) (.ref a2) (.ref a3) (.int x0_11) (.int x0_12) (.ref a4) (.ref a7) v0_15 v0_16 v0_17 v0_18 v0_19 v0_20 v0_21 (.int x0_22) (.int x0_23) v0_24 v0_25 v0_26 v0_27 v0_28 x0_0)) [0] rfl
          have hDc := hD.sub (ws' := (wd_Model_fails kA a0 v0_1 v0_2 (.int x0_3) (.ref a5) (.ref a6) (.ref a8) (.ref a9) (.ref a1) (.ref a2) (.ref a3) (.int x0_11) (.int x0_12) (.ref a4) (.ref a7) v0_15 v0_16 v0_17 v0_18 v0_19 v0_20 v0_21 (.int x0_22) (.int x0_23) v0_24 v0_25 v0_26 v0_27 v0_28 x0_0)) [0] (by decide) rfl
          have hFc := va_free (wc := (wd_Model_fails kA a0 v0_1 v0_2 (.int x0_3) (.ref a5) (.ref a6) (.ref a8) (.ref a9) (.ref a1) (.ref a2) (.ref a3) (.int x0_11) (.int x0_12) (.ref a4) (.ref a7) v0_15 v0_16 v0_17 v0_18 v0_19 v0_20 v0_21 (.int x0_22) (.int x0_23) v0_24 v0_25 v0_26 v0_27 v0_28 x0_0)) hD hS hA [0] rfl
          refine va_calli (va_runV (As := [.int 2]) (rest := []) ⟨hx, hb, hml, hown, hts⟩ (c_Model_fails l dC dI kA H.size a0 v0_1 v0_2 (.int x0_3) (.ref a5) (.ref a6) (.ref a8) (.ref a9) (.ref a1) (.ref a2) (.ref a3) (.int x0_11) (.int x0_12) (.ref a4) (.ref a7) v0_15 v0_16 v0_17 v0_18 v0_19 v0_20 v0_21 (.int x0_22) (.int x0_23) v0_24 v0_25 v0_26 v0_27 v0_28 2 x0_0 u_17.1 u_17.2 hS_17) (cwV 1 hts (gw_V gw_264 gw_265 gw_266 gw_267 gw_268) rfl rfl rfl (by decide +kernel) ⟨Nat.le_of_ble_eq_true rfl, Nat.le_of_ble_eq_true rfl⟩) ⟨fun a U g mk q => by obtain ⟨q0, q1, qP, qK, qD⟩ := q; exact ⟨q0, q1, qP, va_K.moved (u := U) (U := U.calling g mk a) (Vm.Alike.refl U.vm) qK, qD⟩, va_recv hK hP (ci := 9) (q0 := 0) rfl rfl, fun U hU hW => ⟨rfl, by rw [hU], by rw [hU]; exact hPc, va_K.moved hW.alike hK, hDc.weaken (fun _ _ _ _ => trivial)⟩⟩ rfl rfl hl.1 rfl (lv_room (Nat.le_of_ble_eq_true rfl)) d_Model_compile_270 ⟨Nat.zero_le _, Nat.zero_le _⟩) hS (fun q _ h => hFc q h) hFc (fun r1 u t H1 locs ht hvm hw hB hz1 hk1 hS => ?_)
          rw [show r1 = _ from hw]
          obtain ⟨hP1, hK1, hD1⟩ := hB
          rw [ht] at hP1
          obtain ⟨hP, hD⟩ := va_join (wr := [(a1, .inl (kA 1, 6, .inl f1)), (a2, .inl (kA 1, 6, .inl f2)), (a3, .inl (kA 0, 6, .inl f3)), (a4, .inl (kA 0, 2310, .inl f4)), (a5, .inl (kA 0, 11, .inl f5)), (a6, .inl (kA 0, 11, .inl f6)), (a7, .inl (kA 0, 492, .inl f7)), (a8, .inl (kA 0, 44, .inl f8)), (a9, .inl (kA 1, 11, .inl f9))]) (w1 := (wd_Model_fails kA a0 v0_1 v0_2 (.int x0_3) (.ref a5) (.ref a6) (.ref a8) (.ref a9) (.ref a1) (.ref a2) (.ref a3) (.int x0_11) (.int x0_12) (.ref a4) (.ref a7) v0_15 v0_16 v0_17 v0_18 v0_19 v0_20 v0_21 (.int x0_22) (.int x0_23) v0_24 v0_25 v0_26 v0_27 v0_28 u_17.2)) hP hD [0] [1, 2, 3, 4, 5, 6, 7, 8, 9] rfl rfl (by decide) (by decide) hk1 hFc hP1 hD1
          have hP := hP.sub (ws' := (wd_Model_compile kA a0 a1 a2 a3 a4 a5 a6 a7 a8 a9 v0_1 v0_2 v0_15 v0_16 v0_17 v0_18 v0_19 v0_20 v0_21 v0_24 v0_25 v0_26 v0_27 v0_28 u_17.2 x0_3 x0_11 x0_12 x0_22 x0_23 f1 f2 f3 f4 f5 f6 f7 f8 f9)) [9, 0, 1, 2, 3, 4, 5, 6, 7, 8] rfl
          have hD := hD.sub (ws' := (wd_Model_compile kA a0 a1 a2 a3 a4 a5 a6 a7 a8 a9 v0_1 v0_2 v0_15 v0_16 v0_17 v0_18 v0_19 v0_20 v0_21 v0_24 v0_25 v0_26 v0_27 v0_28 u_17.2 x0_3 x0_11 x0_12 x0_22 x0_23 f1 f2 f3 f4 f5 f6 f7 f8 f9)) [9, 0, 1, 2, 3, 4, 5, 6, 7, 8] (by decide) rfl
          clear hPc hDc hFc hP1 hK1 hD1
          generalize H1 = H at hP hS ⊢
          have e0 := Option.some.inj hF
          have q0 := Prod.mk.inj e0
          have q1 := Prod.mk.inj q0.2
          have q2 := Prod.mk.inj q1.2
          have q3 := Prod.mk.inj q2.2
          have q4 := Prod.mk.inj q3.2
          have q5 := Prod.mk.inj q4.2
          have q6 := Prod.mk.inj q5.2
          have q7 := Prod.mk.inj q6.2
          have q8 := Prod.mk.inj q7.2
          have q9 := Prod.mk.inj q8.2
          have q10 := Prod.mk.inj q9.2
          have q11 := Prod.mk.inj q10.2
          have q12 := Prod.mk.inj q11.2
          have q13 := Prod.mk.inj q12.2
          exact W.iret (v := u_17.1) hx hb hr (fun t ht hW => ⟨⟨u_17.1, (), rfl, q0.1, by rw [ht, ← q1.1, ← q2.1, ← q3.1, ← q4.1, ← q5.1, ← q6.1, ← q7.1, ← q8.1, ← q9.1, ← q10.1, ← q11.1, ← q12.1, ← q13.1, ← q13.2]; exact hP, va_K.moved hW.alike hK, (by rw [← q1.1, ← q2.1, ← q3.1, ← q4.1, ← q5.1, ← q6.1, ← q7.1, ← q8.1, ← q9.1, ← q10.1, ← q11.1, ← q12.1, ← q13.1, ← q13.2]; exact hD)⟩, hS.F ht⟩) hS.2.2 d_Model_compile_273 hlocks
      · rw [if_neg c_15] at hF
        refine lv_iload_n hx hb d_Model_compile_248 rfl (lv_at hl 1 rfl) ?_
        refine lv_if_ne (tgt := 264) hx hb d_Model_compile_249 (by decide) (fun c_18 => ?_) (fun c_18 => ?_)
        · rw [if_pos c_18] at hF
          refine lv_iload_n hx hb d_Model_compile_264 rfl (lv_at hl 1 rfl) ?_
          refine lv_if_eq (tgt := 274) hx hb d_Model_compile_265 (by decide) (fun c_19 => ?_) (fun c_19 => ?_)
          · rw [if_pos c_19] at hF
            refine lv_aload_n hx hb d_Model_compile_274 rfl (lv_at hl 0 rfl) ?_
            refine lv_aload_n hx hb d_Model_compile_275 rfl (lv_at hl 0 rfl) ?_
            refine va_get (D := (dC, dI)) (ci := 9) (v := .int x0_11) (C := R_Model) (T := F_Model) (N := 29) hx hb hg iw_Model hown hK hP 0 rfl rfl 11 (by decide) (hg _ gw_306) (fun _ h9 => h9) rfl d_Model_compile_276 ?_
            refine va_put (D := (dC, dI)) (ci := 9) (v := .int x0_11) (ty := .int) (C := R_Model) (T := F_Model) (N := 29) hx hb hg iw_Model t_Model t_Model_ok n_Model hown hK hP hD hS 0 rfl rfl 12 (by decide) (hg _ gw_280) (fun _ h9 => h9) rfl (by decide +kernel) rfl rfl (Nat.le_of_ble_eq_true rfl) d_Model_compile_279 (fun H locs hP hD hS => ?_)
            have hP : va_P (dC, dI) classes (wd_Model_compile kA a0 a1 a2 a3 a4 a5 a6 a7 a8 a9 v0_1 v0_2 v0_15 v0_16 v0_17 v0_18 v0_19 v0_20 v0_21 v0_24 v0_25 v0_26 v0_27 v0_28 x0_0 x0_3 x0_11 x0_11 x0_22 x0_23 f1 f2 f3 f4 f5 f6 f7 f8 f9) H := hP
            have hD : va_D A (wd_Model_compile kA a0 a1 a2 a3 a4 a5 a6 a7 a8 a9 v0_1 v0_2 v0_15 v0_16 v0_17 v0_18 v0_19 v0_20 v0_21 v0_24 v0_25 v0_26 v0_27 v0_28 x0_0 x0_3 x0_11 x0_11 x0_22 x0_23 f1 f2 f3 f4 f5 f6 f7 f8 f9) := hD
            refine lv_aload_n hx hb d_Model_compile_282 rfl (lv_at hl 0 rfl) ?_
            refine va_get (D := (dC, dI)) (ci := 9) (v := .int x0_11) (C := R_Model) (T := F_Model) (N := 29) hx hb hg iw_Model hown hK hP 0 rfl rfl 12 (by decide) (hg _ gw_280) (fun _ h9 => h9) rfl d_Model_compile_283 ?_
            have e0 := Option.some.inj hF
            have q0 := Prod.mk.inj e0
            have q1 := Prod.mk.inj q0.2
            have q2 := Prod.mk.inj q1.2
            have q3 := Prod.mk.inj q2.2
            have q4 := Prod.mk.inj q3.2
            have q5 := Prod.mk.inj q4.2
            have q6 := Prod.mk.inj q5.2
            have q7 := Prod.mk.inj q6.2
            have q8 := Prod.mk.inj q7.2
            have q9 := Prod.mk.inj q8.2
            have q10 := Prod.mk.inj q9.2
            have q11 := Prod.mk.inj q10.2
            have q12 := Prod.mk.inj q11.2
            have q13 := Prod.mk.inj q12.2
            exact W.iret (v := x0_11) hx hb hr (fun t ht hW => ⟨⟨x0_11, (), rfl, q0.1, by rw [ht, ← q1.1, ← q2.1, ← q3.1, ← q4.1, ← q5.1, ← q6.1, ← q7.1, ← q8.1, ← q9.1, ← q10.1, ← q11.1, ← q12.1, ← q13.1, ← q13.2]; exact hP, va_K.moved hW.alike hK, (by rw [← q1.1, ← q2.1, ← q3.1, ← q4.1, ← q5.1, ← q6.1, ← q7.1, ← q8.1, ← q9.1, ← q10.1, ← q11.1, ← q12.1, ← q13.1, ← q13.2]; exact hD)⟩, hS.F ht⟩) hS.2.2 d_Model_compile_286 hlocks
          · rw [if_neg c_19] at hF
            refine lv_aload_n hx hb d_Model_compile_268 rfl (lv_at hl 0 rfl) ?_
            refine lv_iconst (v := 2) hx hb d_Model_compile_269 (by decide) ?_
            obtain ⟨u_20, hS_20, hF⟩ := rd_bind hF
            have hPc := hP.sub (ws' := (wd_Model_fails kA a0 v0_1 v0_2 (.int x0_3) (.ref a5) (.ref a6) (.ref a8) (.ref a9) (.ref a1) (.ref a2) (.ref a3) (.int x0_11) (.int x0_12) (.ref a4) (.ref a7) v0_15 v0_16 v0_17 v0_18 v0_19 v0_20 v0_21 (.int x0_22) (.int x0_23) v0_24 v0_25 v0_26 v0_27 v0_28 x0_0)) [0] rfl
            have hDc := hD.sub (ws' := (wd_Model_fails kA a0 v0_1 v0_2 (.int x0_3) (.ref a5) (.ref a6) (.ref a8) (.ref a9) (.ref a1) (.ref a2) (.ref a3) (.int x0_11) (.int x0_12) (.ref a4) (.ref a7) v0_15 v0_16 v0_17 v0_18 v0_19 v0_20 v0_21 (.int x0_22) (.int x0_23) v0_24 v0_25 v0_26 v0_27 v0_28 x0_0)) [0] (by decide) rfl
            have hFc := va_free (wc := (wd_Model_fails kA a0 v0_1 v0_2 (.int x0_3) (.ref a5) (.ref a6) (.ref a8) (.ref a9) (.ref a1) (.ref a2) (.ref a3) (.int x0_11) (.int x0_12) (.ref a4) (.ref a7) v0_15 v0_16 v0_17 v0_18 v0_19 v0_20 v0_21 (.int x0_22) (.int x0_23) v0_24 v0_25 v0_26 v0_27 v0_28 x0_0)) hD hS hA [0] rfl
            refine va_calli (va_runV (As := [.int 2]) (rest := []) ⟨hx, hb, hml, hown, hts⟩ (c_Model_fails l dC dI kA H.size a0 v0_1 v0_2 (.int x0_3) (.ref a5) (.ref a6) (.ref a8) (.ref a9) (.ref a1) (.ref a2) (.ref a3) (.int x0_11) (.int x0_12) (.ref a4) (.ref a7) v0_15 v0_16 v0_17 v0_18 v0_19 v0_20 v0_21 (.int x0_22) (.int x0_23) v0_24 v0_25 v0_26 v0_27 v0_28 2 x0_0 u_20.1 u_20.2 hS_20) (cwV 1 hts (gw_V gw_264 gw_265 gw_266 gw_267 gw_268) rfl rfl rfl (by decide +kernel) ⟨Nat.le_of_ble_eq_true rfl, Nat.le_of_ble_eq_true rfl⟩) ⟨fun a U g mk q => by obtain ⟨q0, q1, qP, qK, qD⟩ := q; exact ⟨q0, q1, qP, va_K.moved (u := U) (U := U.calling g mk a) (Vm.Alike.refl U.vm) qK, qD⟩, va_recv hK hP (ci := 9) (q0 := 0) rfl rfl, fun U hU hW => ⟨rfl, by rw [hU], by rw [hU]; exact hPc, va_K.moved hW.alike hK, hDc.weaken (fun _ _ _ _ => trivial)⟩⟩ rfl rfl hl.1 rfl (lv_room (Nat.le_of_ble_eq_true rfl)) d_Model_compile_270 ⟨Nat.zero_le _, Nat.zero_le _⟩) hS (fun q _ h => hFc q h) hFc (fun r1 u t H1 locs ht hvm hw hB hz1 hk1 hS => ?_)
            rw [show r1 = _ from hw]
            obtain ⟨hP1, hK1, hD1⟩ := hB
            rw [ht] at hP1
            obtain ⟨hP, hD⟩ := va_join (wr := [(a1, .inl (kA 1, 6, .inl f1)), (a2, .inl (kA 1, 6, .inl f2)), (a3, .inl (kA 0, 6, .inl f3)), (a4, .inl (kA 0, 2310, .inl f4)), (a5, .inl (kA 0, 11, .inl f5)), (a6, .inl (kA 0, 11, .inl f6)), (a7, .inl (kA 0, 492, .inl f7)), (a8, .inl (kA 0, 44, .inl f8)), (a9, .inl (kA 1, 11, .inl f9))]) (w1 := (wd_Model_fails kA a0 v0_1 v0_2 (.int x0_3) (.ref a5) (.ref a6) (.ref a8) (.ref a9) (.ref a1) (.ref a2) (.ref a3) (.int x0_11) (.int x0_12) (.ref a4) (.ref a7) v0_15 v0_16 v0_17 v0_18 v0_19 v0_20 v0_21 (.int x0_22) (.int x0_23) v0_24 v0_25 v0_26 v0_27 v0_28 u_20.2)) hP hD [0] [1, 2, 3, 4, 5, 6, 7, 8, 9] rfl rfl (by decide) (by decide) hk1 hFc hP1 hD1
            have hP := hP.sub (ws' := (wd_Model_compile kA a0 a1 a2 a3 a4 a5 a6 a7 a8 a9 v0_1 v0_2 v0_15 v0_16 v0_17 v0_18 v0_19 v0_20 v0_21 v0_24 v0_25 v0_26 v0_27 v0_28 u_20.2 x0_3 x0_11 x0_12 x0_22 x0_23 f1 f2 f3 f4 f5 f6 f7 f8 f9)) [9, 0, 1, 2, 3, 4, 5, 6, 7, 8] rfl
            have hD := hD.sub (ws' := (wd_Model_compile kA a0 a1 a2 a3 a4 a5 a6 a7 a8 a9 v0_1 v0_2 v0_15 v0_16 v0_17 v0_18 v0_19 v0_20 v0_21 v0_24 v0_25 v0_26 v0_27 v0_28 u_20.2 x0_3 x0_11 x0_12 x0_22 x0_23 f1 f2 f3 f4 f5 f6 f7 f8 f9)) [9, 0, 1, 2, 3, 4, 5, 6, 7, 8] (by decide) rfl
            clear hPc hDc hFc hP1 hK1 hD1
            generalize H1 = H at hP hS ⊢
            have e0 := Option.some.inj hF
            have q0 := Prod.mk.inj e0
            have q1 := Prod.mk.inj q0.2
            have q2 := Prod.mk.inj q1.2
            have q3 := Prod.mk.inj q2.2
            have q4 := Prod.mk.inj q3.2
            have q5 := Prod.mk.inj q4.2
            have q6 := Prod.mk.inj q5.2
            have q7 := Prod.mk.inj q6.2
            have q8 := Prod.mk.inj q7.2
            have q9 := Prod.mk.inj q8.2
            have q10 := Prod.mk.inj q9.2
            have q11 := Prod.mk.inj q10.2
            have q12 := Prod.mk.inj q11.2
            have q13 := Prod.mk.inj q12.2
            exact W.iret (v := u_20.1) hx hb hr (fun t ht hW => ⟨⟨u_20.1, (), rfl, q0.1, by rw [ht, ← q1.1, ← q2.1, ← q3.1, ← q4.1, ← q5.1, ← q6.1, ← q7.1, ← q8.1, ← q9.1, ← q10.1, ← q11.1, ← q12.1, ← q13.1, ← q13.2]; exact hP, va_K.moved hW.alike hK, (by rw [← q1.1, ← q2.1, ← q3.1, ← q4.1, ← q5.1, ← q6.1, ← q7.1, ← q8.1, ← q9.1, ← q10.1, ← q11.1, ← q12.1, ← q13.1, ← q13.2]; exact hD)⟩, hS.F ht⟩) hS.2.2 d_Model_compile_273 hlocks
        · rw [if_neg (fun z => z c_18)] at hF
          refine lv_aload_n hx hb d_Model_compile_252 rfl (lv_at hl 0 rfl) ?_
          refine lv_iload_n hx hb d_Model_compile_253 rfl (lv_at hl 2 rfl) ?_
          obtain ⟨u_21, hS_21, hF⟩ := rd_bind hF
          have hPc := hP.sub (ws' := (wd_Model_isConflict kA a0 a4 a6 a8 (.int x0_0) v0_1 v0_2 (.int x0_3) (.ref a5) (.ref a9) (.ref a1) (.ref a2) (.ref a3) (.int x0_11) (.int x0_12) (.ref a7) v0_15 v0_16 v0_17 v0_18 v0_19 v0_20 v0_21 (.int x0_22) (.int x0_23) v0_24 v0_25 v0_26 v0_27 v0_28 f4 f6 f8)) [0, 4, 6, 8] rfl
          have hDc := hD.sub (ws' := (wd_Model_isConflict kA a0 a4 a6 a8 (.int x0_0) v0_1 v0_2 (.int x0_3) (.ref a5) (.ref a9) (.ref a1) (.ref a2) (.ref a3) (.int x0_11) (.int x0_12) (.ref a7) v0_15 v0_16 v0_17 v0_18 v0_19 v0_20 v0_21 (.int x0_22) (.int x0_23) v0_24 v0_25 v0_26 v0_27 v0_28 f4 f6 f8)) [0, 4, 6, 8] (by decide) rfl
          have hFc := va_free (wc := (wd_Model_isConflict kA a0 a4 a6 a8 (.int x0_0) v0_1 v0_2 (.int x0_3) (.ref a5) (.ref a9) (.ref a1) (.ref a2) (.ref a3) (.int x0_11) (.int x0_12) (.ref a7) v0_15 v0_16 v0_17 v0_18 v0_19 v0_20 v0_21 (.int x0_22) (.int x0_23) v0_24 v0_25 v0_26 v0_27 v0_28 f4 f6 f8)) hD hS hA [0, 4, 6, 8] rfl
          refine va_calli (va_runV (As := [.int l2]) (rest := []) ⟨hx, hb, hml, hown, hts⟩ (c_Model_isConflict l dC dI kA H.size a0 a4 a6 a8 (.int x0_0) v0_1 v0_2 (.int x0_3) (.ref a5) (.ref a9) (.ref a1) (.ref a2) (.ref a3) (.int x0_11) (.int x0_12) (.ref a7) v0_15 v0_16 v0_17 v0_18 v0_19 v0_20 v0_21 (.int x0_22) (.int x0_23) v0_24 v0_25 v0_26 v0_27 v0_28 l2 f4 f6 f8 u_21 hS_21) (cwV 1 hts (gw_V gw_316 gw_317 gw_318 gw_267 gw_319) rfl rfl rfl (by decide +kernel) ⟨Nat.le_of_ble_eq_true rfl, Nat.le_of_ble_eq_true rfl⟩) ⟨fun a U g mk q => by obtain ⟨q0, q1, qP, qK, qD⟩ := q; exact ⟨q0, q1, qP, va_K.moved (u := U) (U := U.calling g mk a) (Vm.Alike.refl U.vm) qK, qD⟩, va_recv hK hP (ci := 9) (q0 := 0) rfl rfl, fun U hU hW => ⟨rfl, by rw [hU], by rw [hU]; exact hPc, va_K.moved hW.alike hK, hDc.weaken (fun _ _ _ _ => trivial)⟩⟩ rfl rfl hl.1 rfl (lv_room (Nat.le_of_ble_eq_true rfl)) d_Model_compile_254 ⟨Nat.zero_le _, Nat.zero_le _⟩) hS (fun q _ h => hFc q h) hFc (fun r1 u t H1 locs ht hvm hw hB hz1 hk1 hS => ?_)
          rw [show r1 = _ from hw]
          obtain ⟨hP1, hK1, hD1⟩ := hB
          rw [ht] at hP1
          obtain ⟨hP, hD⟩ := va_join (wr := [(a1, .inl (kA 1, 6, .inl f1)), (a2, .inl (kA 1, 6, .inl f2)), (a3, .inl (kA 0, 6, .inl f3)), (a5, .inl (kA 0, 11, .inl f5)), (a7, .inl (kA 0, 492, .inl f7)), (a9, .inl (kA 1, 11, .inl f9))]) (w1 := (wd_Model_isConflict kA a0 a4 a6 a8 (.int x0_0) v0_1 v0_2 (.int x0_3) (.ref a5) (.ref a9) (.ref a1) (.ref a2) (.ref a3) (.int x0_11) (.int x0_12) (.ref a7) v0_15 v0_16 v0_17 v0_18 v0_19 v0_20 v0_21 (.int x0_22) (.int x0_23) v0_24 v0_25 v0_26 v0_27 v0_28 f4 f6 f8)) hP hD [0, 4, 6, 8] [1, 2, 3, 5, 7, 9] rfl rfl (by decide) (by decide) hk1 hFc hP1 hD1
          have hP := hP.sub (ws' := (wd_Model_compile kA a0 a1 a2 a3 a4 a5 a6 a7 a8 a9 v0_1 v0_2 v0_15 v0_16 v0_17 v0_18 v0_19 v0_20 v0_21 v0_24 v0_25 v0_26 v0_27 v0_28 x0_0 x0_3 x0_11 x0_12 x0_22 x0_23 f1 f2 f3 f4 f5 f6 f7 f8 f9)) [6, 0, 1, 2, 7, 3, 8, 4, 9, 5] rfl
          have hD := hD.sub (ws' := (wd_Model_compile kA a0 a1 a2 a3 a4 a5 a6 a7 a8 a9 v0_1 v0_2 v0_15 v0_16 v0_17 v0_18 v0_19 v0_20 v0_21 v0_24 v0_25 v0_26 v0_27 v0_28 x0_0 x0_3 x0_11 x0_12 x0_22 x0_23 f1 f2 f3 f4 f5 f6 f7 f8 f9)) [6, 0, 1, 2, 7, 3, 8, 4, 9, 5] (by decide) rfl
          clear hPc hDc hFc hP1 hK1 hD1
          generalize H1 = H at hP hS ⊢
          refine lv_istore_n (lv' := [(1, .int u_21), (0, .ref a0), (2, .int l2)]) hx hb d_Model_compile_257 rfl hl (by decide) rfl (fun ls hl => ?_)
          refine lv_iinc (v := (l2 + 1)) (lv' := [(2, .int (l2 + 1)), (1, .int u_21), (0, .ref a0)]) hx hb d_Model_compile_258 hl (k := 2) rfl (by rfl) (by decide) rfl (fun ls hl => ?_)
          refine lv_goto (tgt := 240) hx hb d_Model_compile_261 (by decide) ?_
          exact ih.2.2.2.2 u_21 (l2 + 1) x0_0 x0_11 x0_12 x0_22 x0_23 f1 f2 f3 f4 f5 f6 f7 f8 f9 hF _ _ _ hP hD hS (lv_sub hl [2, 1, 0] rfl)
def S_Model_compile (x0_0 : Int32) (x0_3 : Int32) (x0_11 : Int32) (x0_12 : Int32) (x0_22 : Int32) (x0_23 : Int32) (f1 : (Nat → Int32)) (f2 : (Nat → Int32)) (f3 : (Nat → Int32)) (f4 : (Nat → Int32)) (f5 : (Nat → Int32)) (f6 : (Nat → Int32)) (f7 : (Nat → Int32)) (f8 : (Nat → Int32)) (f9 : (Nat → Int32)) : Option (Int32 × Int32 × Int32 × Int32 × Int32 × Int32 × (Nat → Int32) × (Nat → Int32) × (Nat → Int32) × (Nat → Int32) × (Nat → Int32) × (Nat → Int32) × (Nat → Int32) × (Nat → Int32) × (Nat → Int32)) := ((S_Model_forget x0_22 x0_23).bind fun u_22 => (if ¬ x0_3 = 0 then ((S_Model_prepare x0_3 f1 f2 f3 f5 f6 f8 f9).bind fun u_24 => (if (0 : Int32) < 0 ∨ 11 ≤ (Int32.toNatClampNeg 0) then none else (if ((f5 (Int32.toNatClampNeg 0)) : Int32) < 0 ∨ 6 ≤ (Int32.toNatClampNeg (f5 (Int32.toNatClampNeg 0))) then none else (if ¬ (u_24.1 (Int32.toNatClampNeg (f5 (Int32.toNatClampNeg 0)))) = 0 then (if (10 : Int32) < 0 ∨ 11 ≤ (Int32.toNatClampNeg 10) then none else (if (10 : Int32) < 0 ∨ 11 ≤ (Int32.toNatClampNeg 10) then none else (if (0 : Int32) < 0 ∨ 11 ≤ (Int32.toNatClampNeg 0) then none else (if (40 : Int32) < 0 ∨ 44 ≤ (Int32.toNatClampNeg 40) then none else (if (10 : Int32) < 0 ∨ 11 ≤ (Int32.toNatClampNeg 10) then none else (F_Model_compile x0_3 fuel_ 0 x0_3 0 0 x0_11 0 u_22.1 u_22.2 u_24.1 u_24.2.1 u_24.2.2.1 f4 (upd f5 (Int32.toNatClampNeg 10) 6) (upd f6 (Int32.toNatClampNeg 10) 1) f7 (upd f8 (Int32.toNatClampNeg 40) (6 + ((upd f5 (Int32.toNatClampNeg 10) 6) (Int32.toNatClampNeg 0)))) (upd u_24.2.2.2 (Int32.toNatClampNeg 10) (vp_nar .boolean 1)))))))) else ((S_Model_fails 2 0).bind fun u_33 => (some (u_33.1, u_33.2, x0_11, 0, u_22.1, u_22.2, u_24.1, u_24.2.1, u_24.2.2.1, f4, f5, f6, f7, f8, u_24.2.2.2))))))) else ((S_Model_fails 1 0).bind fun u_34 => (some (u_34.1, u_34.2, x0_11, 0, u_22.1, u_22.2, f1, f2, f3, f4, f5, f6, f7, f8, f9)))))
set_option maxHeartbeats 4000000 in
set_option maxRecDepth 100000 in
theorem c_Model_compile (l : Launch) (dC : Nat → ClassId) (dI : Nat → Nat → Nat) (kA : Nat → ClassId) (sz : Nat) (a0 a1 a2 a3 a4 a5 a6 a7 a8 a9 : Nat) (v0_1 v0_2 v0_15 v0_16 v0_17 v0_18 v0_19 v0_20 v0_21 v0_24 v0_25 v0_26 v0_27 v0_28 : Value) (x0_0 : Int32) (x0_3 : Int32) (x0_11 : Int32) (x0_12 : Int32) (x0_22 : Int32) (x0_23 : Int32) (f1 : (Nat → Int32)) (f2 : (Nat → Int32)) (f3 : (Nat → Int32)) (f4 : (Nat → Int32)) (f5 : (Nat → Int32)) (f6 : (Nat → Int32)) (f7 : (Nat → Int32)) (f8 : (Nat → Int32)) (f9 : (Nat → Int32)) (r : Int32) (ox0_0 : Int32) (ox0_11 : Int32) (ox0_12 : Int32) (ox0_22 : Int32) (ox0_23 : Int32) (of1 : (Nat → Int32)) (of2 : (Nat → Int32)) (of3 : (Nat → Int32)) (of4 : (Nat → Int32)) (of5 : (Nat → Int32)) (of6 : (Nat → Int32)) (of7 : (Nat → Int32)) (of8 : (Nat → Int32)) (of9 : (Nat → Int32)) (hF : S_Model_compile x0_0 x0_3 x0_11 x0_12 x0_22 x0_23 f1 f2 f3 f4 f5 f6 f7 f8 f9 = some (r, ox0_0, ox0_11, ox0_12, ox0_22, ox0_23, of1, of2, of3, of4, of5, of6, of7, of8, of9)) : Met l y_Model_compile w_Model_compile rm_Model_compile (va_Pc [.ref a0] (fun U => U.heap.size = sz ∧ va_P (dC, dI) classes (wd_Model_compile kA a0 a1 a2 a3 a4 a5 a6 a7 a8 a9 v0_1 v0_2 v0_15 v0_16 v0_17 v0_18 v0_19 v0_20 v0_21 v0_24 v0_25 v0_26 v0_27 v0_28 x0_0 x0_3 x0_11 x0_12 x0_22 x0_23 f1 f2 f3 f4 f5 f6 f7 f8 f9) U.heap ∧ va_K (dC, dI) classes (tys_ kA) U ∧ va_D (fun _ => True) (wd_Model_compile kA a0 a1 a2 a3 a4 a5 a6 a7 a8 a9 v0_1 v0_2 v0_15 v0_16 v0_17 v0_18 v0_19 v0_20 v0_21 v0_24 v0_25 v0_26 v0_27 v0_28 x0_0 x0_3 x0_11 x0_12 x0_22 x0_23 f1 f2 f3 f4 f5 f6 f7 f8 f9))) (va_Qi (fun (r1 : Int32) (_ : Unit) => r1 = r) (fun _ t => va_P (dC, dI) classes (wd_Model_compile kA a0 a1 a2 a3 a4 a5 a6 a7 a8 a9 v0_1 v0_2 v0_15 v0_16 v0_17 v0_18 v0_19 v0_20 v0_21 v0_24 v0_25 v0_26 v0_27 v0_28 ox0_0 x0_3 ox0_11 ox0_12 ox0_22 ox0_23 of1 of2 of3 of4 of5 of6 of7 of8 of9) t.heap ∧ va_K (dC, dI) classes (tys_ kA) t ∧ va_D (va_A (wd_Model_compile kA a0 a1 a2 a3 a4 a5 a6 a7 a8 a9 v0_1 v0_2 v0_15 v0_16 v0_17 v0_18 v0_19 v0_20 v0_21 v0_24 v0_25 v0_26 v0_27 v0_28 x0_0 x0_3 x0_11 x0_12 x0_22 x0_23 f1 f2 f3 f4 f5 f6 f7 f8 f9) sz) (wd_Model_compile kA a0 a1 a2 a3 a4 a5 a6 a7 a8 a9 v0_1 v0_2 v0_15 v0_16 v0_17 v0_18 v0_19 v0_20 v0_21 v0_24 v0_25 v0_26 v0_27 v0_28 ox0_0 x0_3 ox0_11 ox0_12 ox0_22 ox0_23 of1 of2 of3 of4 of5 of6 of7 of8 of9)) (va_A (wd_Model_compile kA a0 a1 a2 a3 a4 a5 a6 a7 a8 a9 v0_1 v0_2 v0_15 v0_16 v0_17 v0_18 v0_19 v0_20 v0_21 v0_24 v0_25 v0_26 v0_27 v0_28 x0_0 x0_3 x0_11 x0_12 x0_22 x0_23 f1 f2 f3 f4 f5 f6 f7 f8 f9) sz)) 0 0 (va_A (wd_Model_compile kA a0 a1 a2 a3 a4 a5 a6 a7 a8 a9 v0_1 v0_2 v0_15 v0_16 v0_17 v0_18 v0_19 v0_20 v0_21 v0_24 v0_25 v0_26 v0_27 v0_28 x0_0 x0_3 x0_11 x0_12 x0_22 x0_23 f1 f2 f3 f4 f5 f6 f7 f8 f9) sz) := by
  refine Met.ofW (cc := b_Model_compile) (maxL := 4) (ret := some .int) (by decide) rfl ?_
  intro p e s m args below meth c s₁ B hml hv
  obtain ⟨rfl, hsz, hP, hK, hD0⟩ := hv
  have hx := B.exec
  have hb := B.bytes
  have hr := B.returns
  have hts := atoms_spec (ws := w_Model_compile) B.pre
  have hown : s.vm.findClass R_Model = some m.cls := findClass_of_methodNamed B.named
  have hg := fun (w : Cond) (h : w ∈ gw) => hts w (List.mem_cons_of_mem _ h)
  have hlocks := B.notSynchronized
  subst hsz
  have hD := hD0.self (sz := s.heap.size)
  generalize hAe : va_A (wd_Model_compile kA a0 a1 a2 a3 a4 a5 a6 a7 a8 a9 v0_1 v0_2 v0_15 v0_16 v0_17 v0_18 v0_19 v0_20 v0_21 v0_24 v0_25 v0_26 v0_27 v0_28 x0_0 x0_3 x0_11 x0_12 x0_22 x0_23 f1 f2 f3 f4 f5 f6 f7 f8 f9) s.heap.size = A at hD ⊢
  have hA : ∀ q : Nat, s.heap.size ≤ q → A q := fun q h => by rw [← hAe]; exact Or.inr h
  have hS : va_S A s.heap s.heap [] := va_S.rf
  have hl := lv_entry ([.ref a0]) (n := 4) (Nat.le_of_ble_eq_true rfl)
  rw [lg_entry_eq]
  generalize (lg_sl ([.ref a0]) ++ List.replicate (4 - (lg_sl ([.ref a0])).length) Slot.unset).toArray = ls at hl ⊢
  have hl : lv_has ls 4 [(0, .ref a0)] := hl
  unfold S_Model_compile at hF
  have ih := L_Model_compile (l := l) (e := e) (below := below) hx hb hr hlocks hml hown hts hA hK a0 a1 a2 a3 a4 a5 a6 a7 a8 a9 v0_1 v0_2 v0_15 v0_16 v0_17 v0_18 v0_19 v0_20 v0_21 v0_24 v0_25 v0_26 v0_27 v0_28 x0_3 r ox0_0 ox0_11 ox0_12 ox0_22 ox0_23 of1 of2 of3 of4 of5 of6 of7 of8 of9 fuel_
  refine lv_aload_n hx hb d_Model_compile_0 rfl (lv_at hl 0 rfl) ?_
  refine lv_iconst (v := 0) hx hb d_Model_compile_1 (by decide) ?_
  refine va_put (D := (dC, dI)) (ci := 9) (v := .int 0) (ty := .int) (C := R_Model) (T := F_Model) (N := 29) hx hb hg iw_Model t_Model t_Model_ok n_Model hown hK hP hD hS 0 rfl rfl 0 (by decide) (hg _ gw_259) (fun _ h9 => h9) rfl (by decide +kernel) rfl rfl (Nat.le_of_ble_eq_true rfl) d_Model_compile_2 (fun H locs hP hD hS => ?_)
  have hP : va_P (dC, dI) classes (wd_Model_compile kA a0 a1 a2 a3 a4 a5 a6 a7 a8 a9 v0_1 v0_2 v0_15 v0_16 v0_17 v0_18 v0_19 v0_20 v0_21 v0_24 v0_25 v0_26 v0_27 v0_28 0 x0_3 x0_11 x0_12 x0_22 x0_23 f1 f2 f3 f4 f5 f6 f7 f8 f9) H := hP
  have hD : va_D A (wd_Model_compile kA a0 a1 a2 a3 a4 a5 a6 a7 a8 a9 v0_1 v0_2 v0_15 v0_16 v0_17 v0_18 v0_19 v0_20 v0_21 v0_24 v0_25 v0_26 v0_27 v0_28 0 x0_3 x0_11 x0_12 x0_22 x0_23 f1 f2 f3 f4 f5 f6 f7 f8 f9) := hD
  refine lv_aload_n hx hb d_Model_compile_5 rfl (lv_at hl 0 rfl) ?_
  refine lv_iconst (v := 0) hx hb d_Model_compile_6 (by decide) ?_
  refine va_put (D := (dC, dI)) (ci := 9) (v := .int 0) (ty := .int) (C := R_Model) (T := F_Model) (N := 29) hx hb hg iw_Model t_Model t_Model_ok n_Model hown hK hP hD hS 0 rfl rfl 12 (by decide) (hg _ gw_280) (fun _ h9 => h9) rfl (by decide +kernel) rfl rfl (Nat.le_of_ble_eq_true rfl) d_Model_compile_7 (fun H locs hP hD hS => ?_)
  have hP : va_P (dC, dI) classes (wd_Model_compile kA a0 a1 a2 a3 a4 a5 a6 a7 a8 a9 v0_1 v0_2 v0_15 v0_16 v0_17 v0_18 v0_19 v0_20 v0_21 v0_24 v0_25 v0_26 v0_27 v0_28 0 x0_3 x0_11 0 x0_22 x0_23 f1 f2 f3 f4 f5 f6 f7 f8 f9) H := hP
  have hD : va_D A (wd_Model_compile kA a0 a1 a2 a3 a4 a5 a6 a7 a8 a9 v0_1 v0_2 v0_15 v0_16 v0_17 v0_18 v0_19 v0_20 v0_21 v0_24 v0_25 v0_26 v0_27 v0_28 0 x0_3 x0_11 0 x0_22 x0_23 f1 f2 f3 f4 f5 f6 f7 f8 f9) := hD
  refine lv_aload_n hx hb d_Model_compile_10 rfl (lv_at hl 0 rfl) ?_
  obtain ⟨u_22, hS_22, hF⟩ := rd_bind hF
  have hPc := hP.sub (ws' := (wd_Model_forget kA a0 (.int 0) v0_1 v0_2 (.int x0_3) (.ref a5) (.ref a6) (.ref a8) (.ref a9) (.ref a1) (.ref a2) (.ref a3) (.int x0_11) (.int 0) (.ref a4) (.ref a7) v0_15 v0_16 v0_17 v0_18 v0_19 v0_20 v0_21 v0_24 v0_25 v0_26 v0_27 v0_28 x0_22 x0_23)) [0] rfl
  have hDc := hD.sub (ws' := (wd_Model_forget kA a0 (.int 0) v0_1 v0_2 (.int x0_3) (.ref a5) (.ref a6) (.ref a8) (.ref a9) (.ref a1) (.ref a2) (.ref a3) (.int x0_11) (.int 0) (.ref a4) (.ref a7) v0_15 v0_16 v0_17 v0_18 v0_19 v0_20 v0_21 v0_24 v0_25 v0_26 v0_27 v0_28 x0_22 x0_23)) [0] (by decide) rfl
  have hFc := va_free (wc := (wd_Model_forget kA a0 (.int 0) v0_1 v0_2 (.int x0_3) (.ref a5) (.ref a6) (.ref a8) (.ref a9) (.ref a1) (.ref a2) (.ref a3) (.int x0_11) (.int 0) (.ref a4) (.ref a7) v0_15 v0_16 v0_17 v0_18 v0_19 v0_20 v0_21 v0_24 v0_25 v0_26 v0_27 v0_28 x0_22 x0_23)) hD hS hA [0] rfl
  refine va_callv (va_runV (As := []) (rest := []) ⟨hx, hb, hml, hown, hts⟩ (c_Model_forget l dC dI kA H.size a0 (.int 0) v0_1 v0_2 (.int x0_3) (.ref a5) (.ref a6) (.ref a8) (.ref a9) (.ref a1) (.ref a2) (.ref a3) (.int x0_11) (.int 0) (.ref a4) (.ref a7) v0_15 v0_16 v0_17 v0_18 v0_19 v0_20 v0_21 v0_24 v0_25 v0_26 v0_27 v0_28 x0_22 x0_23 u_22.1 u_22.2 hS_22) (cwV 0 hts (gw_V gw_281 gw_282 gw_283 gw_267 gw_284) rfl rfl rfl (by decide +kernel) ⟨Nat.le_of_ble_eq_true rfl, Nat.le_of_ble_eq_true rfl⟩) ⟨fun a U g mk q => by obtain ⟨q0, q1, qP, qK, qD⟩ := q; exact ⟨q0, q1, qP, va_K.moved (u := U) (U := U.calling g mk a) (Vm.Alike.refl U.vm) qK, qD⟩, va_recv hK hP (ci := 9) (q0 := 0) rfl rfl, fun U hU hW => ⟨rfl, by rw [hU], by rw [hU]; exact hPc, va_K.moved hW.alike hK, hDc.weaken (fun _ _ _ _ => trivial)⟩⟩ rfl rfl hl.1 rfl (lv_room (Nat.le_of_ble_eq_true rfl)) d_Model_compile_11 ⟨Nat.zero_le _, Nat.zero_le _⟩) hS (fun q _ h => hFc q h) hFc (fun u t H1 locs ht hvm hw hB hz1 hk1 hS => ?_)
  obtain ⟨hP1, hK1, hD1⟩ := hB
  rw [ht] at hP1
  obtain ⟨hP, hD⟩ := va_join (wr := [(a1, .inl (kA 1, 6, .inl f1)), (a2, .inl (kA 1, 6, .inl f2)), (a3, .inl (kA 0, 6, .inl f3)), (a4, .inl (kA 0, 2310, .inl f4)), (a5, .inl (kA 0, 11, .inl f5)), (a6, .inl (kA 0, 11, .inl f6)), (a7, .inl (kA 0, 492, .inl f7)), (a8, .inl (kA 0, 44, .inl f8)), (a9, .inl (kA 1, 11, .inl f9))]) (w1 := (wd_Model_forget kA a0 (.int 0) v0_1 v0_2 (.int x0_3) (.ref a5) (.ref a6) (.ref a8) (.ref a9) (.ref a1) (.ref a2) (.ref a3) (.int x0_11) (.int 0) (.ref a4) (.ref a7) v0_15 v0_16 v0_17 v0_18 v0_19 v0_20 v0_21 v0_24 v0_25 v0_26 v0_27 v0_28 u_22.1 u_22.2)) hP hD [0] [1, 2, 3, 4, 5, 6, 7, 8, 9] rfl rfl (by decide) (by decide) hk1 hFc hP1 hD1
  have hP := hP.sub (ws' := (wd_Model_compile kA a0 a1 a2 a3 a4 a5 a6 a7 a8 a9 v0_1 v0_2 v0_15 v0_16 v0_17 v0_18 v0_19 v0_20 v0_21 v0_24 v0_25 v0_26 v0_27 v0_28 0 x0_3 x0_11 0 u_22.1 u_22.2 f1 f2 f3 f4 f5 f6 f7 f8 f9)) [9, 0, 1, 2, 3, 4, 5, 6, 7, 8] rfl
  have hD := hD.sub (ws' := (wd_Model_compile kA a0 a1 a2 a3 a4 a5 a6 a7 a8 a9 v0_1 v0_2 v0_15 v0_16 v0_17 v0_18 v0_19 v0_20 v0_21 v0_24 v0_25 v0_26 v0_27 v0_28 0 x0_3 x0_11 0 u_22.1 u_22.2 f1 f2 f3 f4 f5 f6 f7 f8 f9)) [9, 0, 1, 2, 3, 4, 5, 6, 7, 8] (by decide) rfl
  clear hPc hDc hFc hP1 hK1 hD1
  generalize H1 = H at hP hS ⊢
  refine lv_aload_n hx hb d_Model_compile_14 rfl (lv_at hl 0 rfl) ?_
  refine va_get (D := (dC, dI)) (ci := 9) (v := .int x0_3) (C := R_Model) (T := F_Model) (N := 29) hx hb hg iw_Model hown hK hP 0 rfl rfl 3 (by decide) (hg _ gw_276) (fun _ h9 => h9) rfl d_Model_compile_15 ?_
  refine lv_if_ne (tgt := 27) hx hb d_Model_compile_18 (by decide) (fun c_23 => ?_) (fun c_23 => ?_)
  · rw [if_pos c_23] at hF
    refine lv_aload_n hx hb d_Model_compile_27 rfl (lv_at hl 0 rfl) ?_
    obtain ⟨u_24, hS_24, hF⟩ := rd_bind hF
    have hPc := hP.sub (ws' := (wd_Model_prepare kA a0 a1 a2 a3 a5 a6 a8 a9 (.int 0) v0_1 v0_2 (.int x0_11) (.int 0) (.ref a4) (.ref a7) v0_15 v0_16 v0_17 v0_18 v0_19 v0_20 v0_21 (.int u_22.1) (.int u_22.2) v0_24 v0_25 v0_26 v0_27 v0_28 x0_3 f1 f2 f3 f5 f6 f8 f9)) [0, 1, 2, 3, 5, 6, 8, 9] rfl
    have hDc := hD.sub (ws' := (wd_Model_prepare kA a0 a1 a2 a3 a5 a6 a8 a9 (.int 0) v0_1 v0_2 (.int x0_11) (.int 0) (.ref a4) (.ref a7) v0_15 v0_16 v0_17 v0_18 v0_19 v0_20 v0_21 (.int u_22.1) (.int u_22.2) v0_24 v0_25 v0_26 v0_27 v0_28 x0_3 f1 f2 f3 f5 f6 f8 f9)) [0, 1, 2, 3, 5, 6, 8, 9] (by decide) rfl
    have hFc := va_free (wc := (wd_Model_prepare kA a0 a1 a2 a3 a5 a6 a8 a9 (.int 0) v0_1 v0_2 (.int x0_11) (.int 0) (.ref a4) (.ref a7) v0_15 v0_16 v0_17 v0_18 v0_19 v0_20 v0_21 (.int u_22.1) (.int u_22.2) v0_24 v0_25 v0_26 v0_27 v0_28 x0_3 f1 f2 f3 f5 f6 f8 f9)) hD hS hA [0, 1, 2, 3, 5, 6, 8, 9] rfl
    refine va_callv (va_runV (As := []) (rest := []) ⟨hx, hb, hml, hown, hts⟩ (c_Model_prepare l dC dI kA H.size a0 a1 a2 a3 a5 a6 a8 a9 (.int 0) v0_1 v0_2 (.int x0_11) (.int 0) (.ref a4) (.ref a7) v0_15 v0_16 v0_17 v0_18 v0_19 v0_20 v0_21 (.int u_22.1) (.int u_22.2) v0_24 v0_25 v0_26 v0_27 v0_28 x0_3 f1 f2 f3 f5 f6 f8 f9 u_24.1 u_24.2.1 u_24.2.2.1 u_24.2.2.2 hS_24) (cwV 0 hts (gw_V gw_320 gw_321 gw_322 gw_267 gw_323) rfl rfl rfl (by decide +kernel) ⟨Nat.le_of_ble_eq_true rfl, Nat.le_of_ble_eq_true rfl⟩) ⟨fun a U g mk q => by obtain ⟨q0, q1, qP, qK, qD⟩ := q; exact ⟨q0, q1, qP, va_K.moved (u := U) (U := U.calling g mk a) (Vm.Alike.refl U.vm) qK, qD⟩, va_recv hK hP (ci := 9) (q0 := 0) rfl rfl, fun U hU hW => ⟨rfl, by rw [hU], by rw [hU]; exact hPc, va_K.moved hW.alike hK, hDc.weaken (fun _ _ _ _ => trivial)⟩⟩ rfl rfl hl.1 rfl (lv_room (Nat.le_of_ble_eq_true rfl)) d_Model_compile_28 ⟨Nat.zero_le _, Nat.zero_le _⟩) hS (fun q _ h => hFc q h) hFc (fun u t H1 locs ht hvm hw hB hz1 hk1 hS => ?_)
    obtain ⟨hP1, hK1, hD1⟩ := hB
    rw [ht] at hP1
    obtain ⟨hP, hD⟩ := va_join (wr := [(a4, .inl (kA 0, 2310, .inl f4)), (a7, .inl (kA 0, 492, .inl f7))]) (w1 := (wd_Model_prepare kA a0 a1 a2 a3 a5 a6 a8 a9 (.int 0) v0_1 v0_2 (.int x0_11) (.int 0) (.ref a4) (.ref a7) v0_15 v0_16 v0_17 v0_18 v0_19 v0_20 v0_21 (.int u_22.1) (.int u_22.2) v0_24 v0_25 v0_26 v0_27 v0_28 x0_3 u_24.1 u_24.2.1 u_24.2.2.1 f5 f6 f8 u_24.2.2.2)) hP hD [0, 1, 2, 3, 5, 6, 8, 9] [4, 7] rfl rfl (by decide) (by decide) hk1 hFc hP1 hD1
    have hP := hP.sub (ws' := (wd_Model_compile kA a0 a1 a2 a3 a4 a5 a6 a7 a8 a9 v0_1 v0_2 v0_15 v0_16 v0_17 v0_18 v0_19 v0_20 v0_21 v0_24 v0_25 v0_26 v0_27 v0_28 0 x0_3 x0_11 0 u_22.1 u_22.2 u_24.1 u_24.2.1 u_24.2.2.1 f4 f5 f6 f7 f8 u_24.2.2.2)) [2, 3, 4, 5, 0, 6, 7, 1, 8, 9] rfl
    have hD := hD.sub (ws' := (wd_Model_compile kA a0 a1 a2 a3 a4 a5 a6 a7 a8 a9 v0_1 v0_2 v0_15 v0_16 v0_17 v0_18 v0_19 v0_20 v0_21 v0_24 v0_25 v0_26 v0_27 v0_28 0 x0_3 x0_11 0 u_22.1 u_22.2 u_24.1 u_24.2.1 u_24.2.2.1 f4 f5 f6 f7 f8 u_24.2.2.2)) [2, 3, 4, 5, 0, 6, 7, 1, 8, 9] (by decide) rfl
    clear hPc hDc hFc hP1 hK1 hD1
    generalize H1 = H at hP hS ⊢
    refine lv_aload_n hx hb d_Model_compile_31 rfl (lv_at hl 0 rfl) ?_
    refine va_get (D := (dC, dI)) (ci := 9) (v := .ref a1) (C := R_Model) (T := F_Model) (N := 29) hx hb hg iw_Model hown hK hP 0 rfl rfl 8 (by decide) (hg _ gw_287) (fun _ h9 => h9) rfl d_Model_compile_32 ?_
    refine lv_aload_n hx hb d_Model_compile_35 rfl (lv_at hl 0 rfl) ?_
    refine va_get (D := (dC, dI)) (ci := 9) (v := .ref a5) (C := R_Model) (T := F_Model) (N := 29) hx hb hg iw_Model hown hK hP 0 rfl rfl 4 (by decide) (hg _ gw_277) (fun _ h9 => h9) rfl d_Model_compile_36 ?_
    refine lv_iconst (v := 0) hx hb d_Model_compile_39 (by decide) ?_
    obtain ⟨h_25, hF⟩ := rd_chk hF
    refine va_iald hx hb hK hP 5 0 rfl rfl h_25 d_Model_compile_40 ?_
    obtain ⟨h_26, hF⟩ := rd_chk hF
    refine va_zald hx hb hK hP 1 1 rfl rfl h_26 d_Model_compile_41 ?_
    refine lv_if_ne (tgt := 51) hx hb d_Model_compile_42 (by decide) (fun c_27 => ?_) (fun c_27 => ?_)
    · rw [if_pos c_27] at hF
      refine lv_aload_n hx hb d_Model_compile_51 rfl (lv_at hl 0 rfl) ?_
      refine va_get (D := (dC, dI)) (ci := 9) (v := .ref a5) (C := R_Model) (T := F_Model) (N := 29) hx hb hg iw_Model hown hK hP 0 rfl rfl 4 (by decide) (hg _ gw_277) (fun _ h9 => h9) rfl d_Model_compile_52 ?_
      refine lv_bipush (v := 10) hx hb d_Model_compile_55 (by decide) ?_
      refine lv_bipush (v := 6) hx hb d_Model_compile_57 (by decide) ?_
      obtain ⟨h_28, hF⟩ := rd_chk hF
      refine va_iast hx hb hK hP hD hS 5 0 rfl rfl h_28 d_Model_compile_59 (fun H locs hP hD hS => ?_)
      have hP : va_P (dC, dI) classes (wd_Model_compile kA a0 a1 a2 a3 a4 a5 a6 a7 a8 a9 v0_1 v0_2 v0_15 v0_16 v0_17 v0_18 v0_19 v0_20 v0_21 v0_24 v0_25 v0_26 v0_27 v0_28 0 x0_3 x0_11 0 u_22.1 u_22.2 u_24.1 u_24.2.1 u_24.2.2.1 f4 (upd f5 (Int32.toNatClampNeg 10) 6) f6 f7 f8 u_24.2.2.2) H := hP
      have hD : va_D A (wd_Model_compile kA a0 a1 a2 a3 a4 a5 a6 a7 a8 a9 v0_1 v0_2 v0_15 v0_16 v0_17 v0_18 v0_19 v0_20 v0_21 v0_24 v0_25 v0_26 v0_27 v0_28 0 x0_3 x0_11 0 u_22.1 u_22.2 u_24.1 u_24.2.1 u_24.2.2.1 f4 (upd f5 (Int32.toNatClampNeg 10) 6) f6 f7 f8 u_24.2.2.2) := hD
      refine lv_aload_n hx hb d_Model_compile_60 rfl (lv_at hl 0 rfl) ?_
      refine va_get (D := (dC, dI)) (ci := 9) (v := .ref a6) (C := R_Model) (T := F_Model) (N := 29) hx hb hg iw_Model hown hK hP 0 rfl rfl 5 (by decide) (hg _ gw_278) (fun _ h9 => h9) rfl d_Model_compile_61 ?_
      refine lv_bipush (v := 10) hx hb d_Model_compile_64 (by decide) ?_
      refine lv_iconst (v := 1) hx hb d_Model_compile_66 (by decide) ?_
      obtain ⟨h_29, hF⟩ := rd_chk hF
      refine va_iast hx hb hK hP hD hS 6 0 rfl rfl h_29 d_Model_compile_67 (fun H locs hP hD hS => ?_)
      have hP : va_P (dC, dI) classes (wd_Model_compile kA a0 a1 a2 a3 a4 a5 a6 a7 a8 a9 v0_1 v0_2 v0_15 v0_16 v0_17 v0_18 v0_19 v0_20 v0_21 v0_24 v0_25 v0_26 v0_27 v0_28 0 x0_3 x0_11 0 u_22.1 u_22.2 u_24.1 u_24.2.1 u_24.2.2.1 f4 (upd f5 (Int32.toNatClampNeg 10) 6) (upd f6 (Int32.toNatClampNeg 10) 1) f7 f8 u_24.2.2.2) H := hP
      have hD : va_D A (wd_Model_compile kA a0 a1 a2 a3 a4 a5 a6 a7 a8 a9 v0_1 v0_2 v0_15 v0_16 v0_17 v0_18 v0_19 v0_20 v0_21 v0_24 v0_25 v0_26 v0_27 v0_28 0 x0_3 x0_11 0 u_22.1 u_22.2 u_24.1 u_24.2.1 u_24.2.2.1 f4 (upd f5 (Int32.toNatClampNeg 10) 6) (upd f6 (Int32.toNatClampNeg 10) 1) f7 f8 u_24.2.2.2) := hD
      refine lv_aload_n hx hb d_Model_compile_68 rfl (lv_at hl 0 rfl) ?_
      refine va_get (D := (dC, dI)) (ci := 9) (v := .ref a8) (C := R_Model) (T := F_Model) (N := 29) hx hb hg iw_Model hown hK hP 0 rfl rfl 6 (by decide) (hg _ gw_279) (fun _ h9 => h9) rfl d_Model_compile_69 ?_
      refine lv_bipush (v := 40) hx hb d_Model_compile_72 (by decide) ?_
      refine lv_bipush (v := 6) hx hb d_Model_compile_74 (by decide) ?_
      refine lv_aload_n hx hb d_Model_compile_76 rfl (lv_at hl 0 rfl) ?_
      refine va_get (D := (dC, dI)) (ci := 9) (v := .ref a5) (C := R_Model) (T := F_Model) (N := 29) hx hb hg iw_Model hown hK hP 0 rfl rfl 4 (by decide) (hg _ gw_277) (fun _ h9 => h9) rfl d_Model_compile_77 ?_
      refine lv_iconst (v := 0) hx hb d_Model_compile_80 (by decide) ?_
      obtain ⟨h_30, hF⟩ := rd_chk hF
      refine va_iald hx hb hK hP 5 0 rfl rfl h_30 d_Model_compile_81 ?_
      refine lv_iadd hx hb d_Model_compile_82 ?_
      obtain ⟨h_31, hF⟩ := rd_chk hF
      refine va_iast hx hb hK hP hD hS 8 0 rfl rfl h_31 d_Model_compile_83 (fun H locs hP hD hS => ?_)
      have hP : va_P (dC, dI) classes (wd_Model_compile kA a0 a1 a2 a3 a4 a5 a6 a7 a8 a9 v0_1 v0_2 v0_15 v0_16 v0_17 v0_18 v0_19 v0_20 v0_21 v0_24 v0_25 v0_26 v0_27 v0_28 0 x0_3 x0_11 0 u_22.1 u_22.2 u_24.1 u_24.2.1 u_24.2.2.1 f4 (upd f5 (Int32.toNatClampNeg 10) 6) (upd f6 (Int32.toNatClampNeg 10) 1) f7 (upd f8 (Int32.toNatClampNeg 40) (6 + ((upd f5 (Int32.toNatClampNeg 10) 6) (Int32.toNatClampNeg 0)))) u_24.2.2.2) H := hP
      have hD : va_D A (wd_Model_compile kA a0 a1 a2 a3 a4 a5 a6 a7 a8 a9 v0_1 v0_2 v0_15 v0_16 v0_17 v0_18 v0_19 v0_20 v0_21 v0_24 v0_25 v0_26 v0_27 v0_28 0 x0_3 x0_11 0 u_22.1 u_22.2 u_24.1 u_24.2.1 u_24.2.2.1 f4 (upd f5 (Int32.toNatClampNeg 10) 6) (upd f6 (Int32.toNatClampNeg 10) 1) f7 (upd f8 (Int32.toNatClampNeg 40) (6 + ((upd f5 (Int32.toNatClampNeg 10) 6) (Int32.toNatClampNeg 0)))) u_24.2.2.2) := hD
      refine lv_aload_n hx hb d_Model_compile_84 rfl (lv_at hl 0 rfl) ?_
      refine va_get (D := (dC, dI)) (ci := 9) (v := .ref a9) (C := R_Model) (T := F_Model) (N := 29) hx hb hg iw_Model hown hK hP 0 rfl rfl 7 (by decide) (hg _ gw_288) (fun _ h9 => h9) rfl d_Model_compile_85 ?_
      refine lv_bipush (v := 10) hx hb d_Model_compile_88 (by decide) ?_
      refine lv_iconst (v := 1) hx hb d_Model_compile_90 (by decide) ?_
      obtain ⟨h_32, hF⟩ := rd_chk hF
      refine va_zast hx hb hK hP hD hS 9 1 rfl rfl h_32 d_Model_compile_91 (fun H locs hP hD hS => ?_)
      have hP : va_P (dC, dI) classes (wd_Model_compile kA a0 a1 a2 a3 a4 a5 a6 a7 a8 a9 v0_1 v0_2 v0_15 v0_16 v0_17 v0_18 v0_19 v0_20 v0_21 v0_24 v0_25 v0_26 v0_27 v0_28 0 x0_3 x0_11 0 u_22.1 u_22.2 u_24.1 u_24.2.1 u_24.2.2.1 f4 (upd f5 (Int32.toNatClampNeg 10) 6) (upd f6 (Int32.toNatClampNeg 10) 1) f7 (upd f8 (Int32.toNatClampNeg 40) (6 + ((upd f5 (Int32.toNatClampNeg 10) 6) (Int32.toNatClampNeg 0)))) (upd u_24.2.2.2 (Int32.toNatClampNeg 10) (vp_nar .boolean 1))) H := hP
      have hD : va_D A (wd_Model_compile kA a0 a1 a2 a3 a4 a5 a6 a7 a8 a9 v0_1 v0_2 v0_15 v0_16 v0_17 v0_18 v0_19 v0_20 v0_21 v0_24 v0_25 v0_26 v0_27 v0_28 0 x0_3 x0_11 0 u_22.1 u_22.2 u_24.1 u_24.2.1 u_24.2.2.1 f4 (upd f5 (Int32.toNatClampNeg 10) 6) (upd f6 (Int32.toNatClampNeg 10) 1) f7 (upd f8 (Int32.toNatClampNeg 40) (6 + ((upd f5 (Int32.toNatClampNeg 10) 6) (Int32.toNatClampNeg 0)))) (upd u_24.2.2.2 (Int32.toNatClampNeg 10) (vp_nar .boolean 1))) := hD
      refine lv_aload_n hx hb d_Model_compile_92 rfl (lv_at hl 0 rfl) ?_
      refine va_get (D := (dC, dI)) (ci := 9) (v := .int x0_3) (C := R_Model) (T := F_Model) (N := 29) hx hb hg iw_Model hown hK hP 0 rfl rfl 3 (by decide) (hg _ gw_276) (fun _ h9 => h9) rfl d_Model_compile_93 ?_
      refine lv_istore_n (lv' := [(1, .int x0_3), (0, .ref a0)]) hx hb d_Model_compile_96 rfl hl (by decide) rfl (fun ls hl => ?_)
      exact ih.1 x0_3 0 0 x0_11 0 u_22.1 u_22.2 u_24.1 u_24.2.1 u_24.2.2.1 f4 (upd f5 (Int32.toNatClampNeg 10) 6) (upd f6 (Int32.toNatClampNeg 10) 1) f7 (upd f8 (Int32.toNatClampNeg 40) (6 + ((upd f5 (Int32.toNatClampNeg 10) 6) (Int32.toNatClampNeg 0)))) (upd u_24.2.2.2 (Int32.toNatClampNeg 10) (vp_nar .boolean 1)) hF _ _ _ hP hD hS (lv_sub hl [1, 0] rfl)
    · rw [if_neg (fun z => z c_27)] at hF
      refine lv_aload_n hx hb d_Model_compile_45 rfl (lv_at hl 0 rfl) ?_
      refine lv_iconst (v := 2) hx hb d_Model_compile_46 (by decide) ?_
      obtain ⟨u_33, hS_33, hF⟩ := rd_bind hF
      have hPc := hP.sub (ws' := (wd_Model_fails kA a0 v0_1 v0_2 (.int x0_3) (.ref a5) (.ref a6) (.ref a8) (.ref a9) (.ref a1) (.ref a2) (.ref a3) (.int x0_11) (.int 0) (.ref a4) (.ref a7) v0_15 v0_16 v0_17 v0_18 v0_19 v0_20 v0_21 (.int u_22.1) (.int u_22.2) v0_24 v0_25 v0_26 v0_27 v0_28 0)) [0] rfl
      have hDc := hD.sub (ws' := (wd_Model_fails kA a0 v0_1 v0_2 (.int x0_3) (.ref a5) (.ref a6) (.ref a8) (.ref a9) (.ref a1) (.ref a2) (.ref a3) (.int x0_11) (.int 0) (.ref a4) (.ref a7) v0_15 v0_16 v0_17 v0_18 v0_19 v0_20 v0_21 (.int u_22.1) (.int u_22.2) v0_24 v0_25 v0_26 v0_27 v0_28 0)) [0] (by decide) rfl
      have hFc := va_free (wc := (wd_Model_fails kA a0 v0_1 v0_2 (.int x0_3) (.ref a5) (.ref a6) (.ref a8) (.ref a9) (.ref a1) (.ref a2) (.ref a3) (.int x0_11) (.int 0) (.ref a4) (.ref a7) v0_15 v0_16 v0_17 v0_18 v0_19 v0_20 v0_21 (.int u_22.1) (.int u_22.2) v0_24 v0_25 v0_26 v0_27 v0_28 0)) hD hS hA [0] rfl
      refine va_calli (va_runV (As := [.int 2]) (rest := []) ⟨hx, hb, hml, hown, hts⟩ (c_Model_fails l dC dI kA H.size a0 v0_1 v0_2 (.int x0_3) (.ref a5) (.ref a6) (.ref a8) (.ref a9) (.ref a1) (.ref a2) (.ref a3) (.int x0_11) (.int 0) (.ref a4) (.ref a7) v0_15 v0_16 v0_17 v0_18 v0_19 v0_20 v0_21 (.int u_22.1) (.int u_22.2) v0_24 v0_25 v0_26 v0_27 v0_28 2 0 u_33.1 u_33.2 hS_33) (cwV 1 hts (gw_V gw_264 gw_265 gw_266 gw_267 gw_268) rfl rfl rfl (by decide +kernel) ⟨Nat.le_of_ble_eq_true rfl, Nat.le_of_ble_eq_true rfl⟩) ⟨fun a U g mk q => by obtain ⟨q0, q1, qP, qK, qD⟩ := q; exact ⟨q0, q1, qP, va_K.moved (u := U) (U := U.calling g mk a) (Vm.Alike.refl U.vm) qK, qD⟩, va_recv hK hP (ci := 9) (q0 := 0) rfl rfl, fun U hU hW => ⟨rfl, by rw [hU], by rw [hU]; exact hPc, va_K.moved hW.alike hK, hDc.weaken (fun _ _ _ _ => trivial)⟩⟩ rfl rfl hl.1 rfl (lv_room (Nat.le_of_ble_eq_true rfl)) d_Model_compile_47 ⟨Nat.zero_le _, Nat.zero_le _⟩) hS (fun q _ h => hFc q h) hFc (fun r1 u t H1 locs ht hvm hw hB hz1 hk1 hS => ?_)
      rw [show r1 = _ from hw]
      obtain ⟨hP1, hK1, hD1⟩ := hB
      rw [ht] at hP1
      obtain ⟨hP, hD⟩ := va_join (wr := [(a1, .inl (kA 1, 6, .inl u_24.1)), (a2, .inl (kA 1, 6, .inl u_24.2.1)), (a3, .inl (kA 0, 6, .inl u_24.2.2.1)), (a4, .inl (kA 0, 2310, .inl f4)), (a5, .inl (kA 0, 11, .inl f5)), (a6, .inl (kA 0, 11, .inl f6)), (a7, .inl (kA 0, 492, .inl f7)), (a8, .inl (kA 0, 44, .inl f8)), (a9, .inl (kA 1, 11, .inl u_24.2.2.2))]) (w1 := (wd_Model_fails kA a0 v0_1 v0_2 (.int x0_3) (.ref a5) (.ref a6) (.ref a8) (.ref a9) (.ref a1) (.ref a2) (.ref a3) (.int x0_11) (.int 0) (.ref a4) (.ref a7) v0_15 v0_16 v0_17 v0_18 v0_19 v0_20 v0_21 (.int u_22.1) (.int u_22.2) v0_24 v0_25 v0_26 v0_27 v0_28 u_33.2)) hP hD [0] [1, 2, 3, 4, 5, 6, 7, 8, 9] rfl rfl (by decide) (by decide) hk1 hFc hP1 hD1
      have hP := hP.sub (ws' := (wd_Model_compile kA a0 a1 a2 a3 a4 a5 a6 a7 a8 a9 v0_1 v0_2 v0_15 v0_16 v0_17 v0_18 v0_19 v0_20 v0_21 v0_24 v0_25 v0_26 v0_27 v0_28 u_33.2 x0_3 x0_11 0 u_22.1 u_22.2 u_24.1 u_24.2.1 u_24.2.2.1 f4 f5 f6 f7 f8 u_24.2.2.2)) [9, 0, 1, 2, 3, 4, 5, 6, 7, 8] rfl
      have hD := hD.sub (ws' := (wd_Model_compile kA a0 a1 a2 a3 a4 a5 a6 a7 a8 a9 v0_1 v0_2 v0_15 v0_16 v0_17 v0_18 v0_19 v0_20 v0_21 v0_24 v0_25 v0_26 v0_27 v0_28 u_33.2 x0_3 x0_11 0 u_22.1 u_22.2 u_24.1 u_24.2.1 u_24.2.2.1 f4 f5 f6 f7 f8 u_24.2.2.2)) [9, 0, 1, 2, 3, 4, 5, 6, 7, 8] (by decide) rfl
      clear hPc hDc hFc hP1 hK1 hD1
      generalize H1 = H at hP hS ⊢
      have e0 := Option.some.inj hF
      have q0 := Prod.mk.inj e0
      have q1 := Prod.mk.inj q0.2
      have q2 := Prod.mk.inj q1.2
      have q3 := Prod.mk.inj q2.2
      have q4 := Prod.mk.inj q3.2
      have q5 := Prod.mk.inj q4.2
      have q6 := Prod.mk.inj q5.2
      have q7 := Prod.mk.inj q6.2
      have q8 := Prod.mk.inj q7.2
      have q9 := Prod.mk.inj q8.2
      have q10 := Prod.mk.inj q9.2
      have q11 := Prod.mk.inj q10.2
      have q12 := Prod.mk.inj q11.2
      have q13 := Prod.mk.inj q12.2
      exact W.iret (v := u_33.1) hx hb hr (fun t ht hW => ⟨⟨u_33.1, (), rfl, q0.1, by rw [ht, ← q1.1, ← q2.1, ← q3.1, ← q4.1, ← q5.1, ← q6.1, ← q7.1, ← q8.1, ← q9.1, ← q10.1, ← q11.1, ← q12.1, ← q13.1, ← q13.2]; exact hP, va_K.moved hW.alike hK, (by rw [← q1.1, ← q2.1, ← q3.1, ← q4.1, ← q5.1, ← q6.1, ← q7.1, ← q8.1, ← q9.1, ← q10.1, ← q11.1, ← q12.1, ← q13.1, ← q13.2]; exact hD)⟩, hS.F ht⟩) hS.2.2 d_Model_compile_50 hlocks
  · rw [if_neg (fun z => z c_23)] at hF
    refine lv_aload_n hx hb d_Model_compile_21 rfl (lv_at hl 0 rfl) ?_
    refine lv_iconst (v := 1) hx hb d_Model_compile_22 (by decide) ?_
    obtain ⟨u_34, hS_34, hF⟩ := rd_bind hF
    have hPc := hP.sub (ws' := (wd_Model_fails kA a0 v0_1 v0_2 (.int x0_3) (.ref a5) (.ref a6) (.ref a8) (.ref a9) (.ref a1) (.ref a2) (.ref a3) (.int x0_11) (.int 0) (.ref a4) (.ref a7) v0_15 v0_16 v0_17 v0_18 v0_19 v0_20 v0_21 (.int u_22.1) (.int u_22.2) v0_24 v0_25 v0_26 v0_27 v0_28 0)) [0] rfl
    have hDc := hD.sub (ws' := (wd_Model_fails kA a0 v0_1 v0_2 (.int x0_3) (.ref a5) (.ref a6) (.ref a8) (.ref a9) (.ref a1) (.ref a2) (.ref a3) (.int x0_11) (.int 0) (.ref a4) (.ref a7) v0_15 v0_16 v0_17 v0_18 v0_19 v0_20 v0_21 (.int u_22.1) (.int u_22.2) v0_24 v0_25 v0_26 v0_27 v0_28 0)) [0] (by decide) rfl
    have hFc := va_free (wc := (wd_Model_fails kA a0 v0_1 v0_2 (.int x0_3) (.ref a5) (.ref a6) (.ref a8) (.ref a9) (.ref a1) (.ref a2) (.ref a3) (.int x0_11) (.int 0) (.ref a4) (.ref a7) v0_15 v0_16 v0_17 v0_18 v0_19 v0_20 v0_21 (.int u_22.1) (.int u_22.2) v0_24 v0_25 v0_26 v0_27 v0_28 0)) hD hS hA [0] rfl
    refine va_calli (va_runV (As := [.int 1]) (rest := []) ⟨hx, hb, hml, hown, hts⟩ (c_Model_fails l dC dI kA H.size a0 v0_1 v0_2 (.int x0_3) (.ref a5) (.ref a6) (.ref a8) (.ref a9) (.ref a1) (.ref a2) (.ref a3) (.int x0_11) (.int 0) (.ref a4) (.ref a7) v0_15 v0_16 v0_17 v0_18 v0_19 v0_20 v0_21 (.int u_22.1) (.int u_22.2) v0_24 v0_25 v0_26 v0_27 v0_28 1 0 u_34.1 u_34.2 hS_34) (cwV 1 hts (gw_V gw_264 gw_265 gw_266 gw_267 gw_268) rfl rfl rfl (by decide +kernel) ⟨Nat.le_of_ble_eq_true rfl, Nat.le_of_ble_eq_true rfl⟩) ⟨fun a U g mk q => by obtain ⟨q0, q1, qP, qK, qD⟩ := q; exact ⟨q0, q1, qP, va_K.moved (u := U) (U := U.calling g mk a) (Vm.Alike.refl U.vm) qK, qD⟩, va_recv hK hP (ci := 9) (q0 := 0) rfl rfl, fun U hU hW => ⟨rfl, by rw [hU], by rw [hU]; exact hPc, va_K.moved hW.alike hK, hDc.weaken (fun _ _ _ _ => trivial)⟩⟩ rfl rfl hl.1 rfl (lv_room (Nat.le_of_ble_eq_true rfl)) d_Model_compile_23 ⟨Nat.zero_le _, Nat.zero_le _⟩) hS (fun q _ h => hFc q h) hFc (fun r1 u t H1 locs ht hvm hw hB hz1 hk1 hS => ?_)
    rw [show r1 = _ from hw]
    obtain ⟨hP1, hK1, hD1⟩ := hB
    rw [ht] at hP1
    obtain ⟨hP, hD⟩ := va_join (wr := [(a1, .inl (kA 1, 6, .inl f1)), (a2, .inl (kA 1, 6, .inl f2)), (a3, .inl (kA 0, 6, .inl f3)), (a4, .inl (kA 0, 2310, .inl f4)), (a5, .inl (kA 0, 11, .inl f5)), (a6, .inl (kA 0, 11, .inl f6)), (a7, .inl (kA 0, 492, .inl f7)), (a8, .inl (kA 0, 44, .inl f8)), (a9, .inl (kA 1, 11, .inl f9))]) (w1 := (wd_Model_fails kA a0 v0_1 v0_2 (.int x0_3) (.ref a5) (.ref a6) (.ref a8) (.ref a9) (.ref a1) (.ref a2) (.ref a3) (.int x0_11) (.int 0) (.ref a4) (.ref a7) v0_15 v0_16 v0_17 v0_18 v0_19 v0_20 v0_21 (.int u_22.1) (.int u_22.2) v0_24 v0_25 v0_26 v0_27 v0_28 u_34.2)) hP hD [0] [1, 2, 3, 4, 5, 6, 7, 8, 9] rfl rfl (by decide) (by decide) hk1 hFc hP1 hD1
    have hP := hP.sub (ws' := (wd_Model_compile kA a0 a1 a2 a3 a4 a5 a6 a7 a8 a9 v0_1 v0_2 v0_15 v0_16 v0_17 v0_18 v0_19 v0_20 v0_21 v0_24 v0_25 v0_26 v0_27 v0_28 u_34.2 x0_3 x0_11 0 u_22.1 u_22.2 f1 f2 f3 f4 f5 f6 f7 f8 f9)) [9, 0, 1, 2, 3, 4, 5, 6, 7, 8] rfl
    have hD := hD.sub (ws' := (wd_Model_compile kA a0 a1 a2 a3 a4 a5 a6 a7 a8 a9 v0_1 v0_2 v0_15 v0_16 v0_17 v0_18 v0_19 v0_20 v0_21 v0_24 v0_25 v0_26 v0_27 v0_28 u_34.2 x0_3 x0_11 0 u_22.1 u_22.2 f1 f2 f3 f4 f5 f6 f7 f8 f9)) [9, 0, 1, 2, 3, 4, 5, 6, 7, 8] (by decide) rfl
    clear hPc hDc hFc hP1 hK1 hD1
    generalize H1 = H at hP hS ⊢
    have e0 := Option.some.inj hF
    have q0 := Prod.mk.inj e0
    have q1 := Prod.mk.inj q0.2
    have q2 := Prod.mk.inj q1.2
    have q3 := Prod.mk.inj q2.2
    have q4 := Prod.mk.inj q3.2
    have q5 := Prod.mk.inj q4.2
    have q6 := Prod.mk.inj q5.2
    have q7 := Prod.mk.inj q6.2
    have q8 := Prod.mk.inj q7.2
    have q9 := Prod.mk.inj q8.2
    have q10 := Prod.mk.inj q9.2
    have q11 := Prod.mk.inj q10.2
    have q12 := Prod.mk.inj q11.2
    have q13 := Prod.mk.inj q12.2
    exact W.iret (v := u_34.1) hx hb hr (fun t ht hW => ⟨⟨u_34.1, (), rfl, q0.1, by rw [ht, ← q1.1, ← q2.1, ← q3.1, ← q4.1, ← q5.1, ← q6.1, ← q7.1, ← q8.1, ← q9.1, ← q10.1, ← q11.1, ← q12.1, ← q13.1, ← q13.2]; exact hP, va_K.moved hW.alike hK, (by rw [← q1.1, ← q2.1, ← q3.1, ← q4.1, ← q5.1, ← q6.1, ← q7.1, ← q8.1, ← q9.1, ← q10.1, ← q11.1, ← q12.1, ← q13.1, ← q13.2]; exact hD)⟩, hS.F ht⟩) hS.2.2 d_Model_compile_26 hlocks
