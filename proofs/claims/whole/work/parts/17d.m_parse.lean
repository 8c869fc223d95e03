-- ===== RepairDeskModel.ended(II)I
abbrev wd_Model_ended (kA : Nat → ClassId) (a0 a1 a2 : Nat) (v0_0 v0_1 v0_2 v0_3 v0_4 v0_6 v0_7 v0_8 v0_9 v0_10 v0_11 v0_12 v0_14 v0_15 v0_16 v0_17 v0_18 v0_19 v0_20 v0_21 v0_22 v0_23 v0_24 v0_25 v0_26 v0_27 v0_28 : Value) (f1 : (Nat → Int32)) (f2 : (Nat → Int32)) : va_W := [(a0, .inr (9, [v0_0, v0_1, v0_2, v0_3, v0_4, .ref a2, v0_6, v0_7, v0_8, v0_9, v0_10, v0_11, v0_12, .ref a1, v0_14, v0_15, v0_16, v0_17, v0_18, v0_19, v0_20, v0_21, v0_22, v0_23, v0_24, v0_25, v0_26, v0_27, v0_28])), (a1, .inl (kA 0, 2310, .inl f1)), (a2, .inl (kA 0, 11, .inl f2))]
abbrev rm_Model_ended : Room := { frames := 0, cells := 0, slots := 0, locals := 0 }
def B_Model_ended_0 (K : Nat → Int32 → Int32 → Int32 → Option (Int32)) (f1 : (Nat → Int32)) (f2 : (Nat → Int32)) (l1 : Int32) (l2 : Int32) (l3 : Int32)  : Option (Int32) := (if 11 ≤ l3 then (some (-1)) else (if (l3 : Int32) < 0 ∨ 11 ≤ (Int32.toNatClampNeg l3) then none else (if ((((55 * l1) + (5 * l3)) + (f2 (Int32.toNatClampNeg l3))) : Int32) < 0 ∨ 2310 ≤ (Int32.toNatClampNeg (((55 * l1) + (5 * l3)) + (f2 (Int32.toNatClampNeg l3)))) then none else (if ¬ ((((f1 (Int32.toNatClampNeg (((55 * l1) + (5 * l3)) + (f2 (Int32.toNatClampNeg l3))))) : Int32) >>> ((l2 : Int32) &&& 31)) &&& 1) = 1 then (K 0 l1 l2 (l3 + 1)) else (some l3)))))
def F_Model_ended (f1 : (Nat → Int32)) (f2 : (Nat → Int32)) : Nat → Nat → Int32 → Int32 → Int32 → Option (Int32)
  | 0 => fun _ _ _ _ => none
  | n + 1 => fun hd l1 l2 l3 => match hd with
    | 0 => B_Model_ended_0 (F_Model_ended f1 f2 n) f1 f2 l1 l2 l3
    | _ => none
set_option maxHeartbeats 4000000 in
set_option maxRecDepth 100000 in
theorem L_Model_ended {p : Program} {l : Launch} {e : Env} {s : State} {m : MethodId} {args : Array Value} {below : List Frame} {meth : Method} {c : Code} {A : Nat → Prop} {dC : Nat → ClassId} {dI : Nat → Nat → Nat} {kA : Nat → ClassId} (hx : p.tables.exec = Jvm.exec) (hb : c.code = b_Model_ended) (hr : meth.sig.returnType = some .int) (hlocks : meth.locks = false) (hml : c.maxLocals = 4) (hown : s.vm.findClass R_Model = some m.cls) (hts : ∀ w ∈ w_Model_ended, w.before args s = true) (hA : ∀ q : Nat, s.heap.size ≤ q → A q) (hK : va_K (dC, dI) classes (tys_ kA) s) (a0 a1 a2 : Nat) (v0_0 v0_1 v0_2 v0_3 v0_4 v0_6 v0_7 v0_8 v0_9 v0_10 v0_11 v0_12 v0_14 v0_15 v0_16 v0_17 v0_18 v0_19 v0_20 v0_21 v0_22 v0_23 v0_24 v0_25 v0_26 v0_27 v0_28 : Value) (f1 : (Nat → Int32)) (f2 : (Nat → Int32)) (r : Int32) : ∀ n : Nat, (∀ (l1 l2 l3 : Int32), F_Model_ended f1 f2 n 0 l1 l2 l3 = some r → ∀ (H : Heap) (locs : List Loc) (ls : Array Slot), va_P (dC, dI) classes (wd_Model_ended kA a0 a1 a2 v0_0 v0_1 v0_2 v0_3 v0_4 v0_6 v0_7 v0_8 v0_9 v0_10 v0_11 v0_12 v0_14 v0_15 v0_16 v0_17 v0_18 v0_19 v0_20 v0_21 v0_22 v0_23 v0_24 v0_25 v0_26 v0_27 v0_28 f1 f2) H → va_D A (wd_Model_ended kA a0 a1 a2 v0_0 v0_1 v0_2 v0_3 v0_4 v0_6 v0_7 v0_8 v0_9 v0_10 v0_11 v0_12 v0_14 v0_15 v0_16 v0_17 v0_18 v0_19 v0_20 v0_21 v0_22 v0_23 v0_24 v0_25 v0_26 v0_27 v0_28 f1 f2) → va_S A s.heap H locs → lv_has ls 4 [(0, .ref a0), (1, .int l1), (2, .int l2), (3, .int l3)] → W p l e (headSpec w_Model_ended rm_Model_ended).room s m args below meth c H locs 0 0 (MQ below (va_Qi (fun (r1 : Int32) (_ : Unit) => r1 = r) (fun _ t => va_P (dC, dI) classes (wd_Model_ended kA a0 a1 a2 v0_0 v0_1 v0_2 v0_3 v0_4 v0_6 v0_7 v0_8 v0_9 v0_10 v0_11 v0_12 v0_14 v0_15 v0_16 v0_17 v0_18 v0_19 v0_20 v0_21 v0_22 v0_23 v0_24 v0_25 v0_26 v0_27 v0_28 f1 f2) t.heap ∧ va_K (dC, dI) classes (tys_ kA) t ∧ va_D A (wd_Model_ended kA a0 a1 a2 v0_0 v0_1 v0_2 v0_3 v0_4 v0_6 v0_7 v0_8 v0_9 v0_10 v0_11 v0_12 v0_14 v0_15 v0_16 v0_17 v0_18 v0_19 v0_20 v0_21 v0_22 v0_23 v0_24 v0_25 v0_26 v0_27 v0_28 f1 f2)) A) args s 0 0 A) (F0 m 2 ls [])) := by
  have hg := fun (w : Cond) (h : w ∈ gw) => hts w (List.mem_cons_of_mem _ h)
  intro n
  induction n with
  | zero =>
    exact fun _ _ _ hF => absurd (show (none : Option _) = some _ from hF) (fun z => by cases z)
  | succ n ih =>
    intro l1 l2 l3 hF H locs ls hP hD hS hl
    have hF : B_Model_ended_0 (F_Model_ended f1 f2 n) f1 f2 l1 l2 l3 = some r := hF
    unfold B_Model_ended_0 at hF
    refine lv_iload_n hx hb d_Model_ended_2 rfl (lv_at hl 3 rfl) ?_
    refine lv_bipush (v := 11) hx hb d_Model_ended_3 (by decide) ?_
    refine lv_icmp_ge (tgt := 44) hx hb d_Model_ended_5 (by decide) (fun c_1 => ?_) (fun c_1 => ?_)
    · rw [if_pos c_1] at hF
      refine lv_iconst (v := (-1)) hx hb d_Model_ended_44 (by decide) ?_
      have e0 := Option.some.inj hF
      exact W.iret (v := (-1)) hx hb hr (fun t ht hW => ⟨⟨(-1), (), rfl, e0, by rw [ht]; exact hP, va_K.moved hW.alike hK, (by exact hD)⟩, hS.F ht⟩) hS.2.2 d_Model_ended_45 hlocks
    · rw [if_neg c_1] at hF
      refine lv_aload_n hx hb d_Model_ended_8 rfl (lv_at hl 0 rfl) ?_
      refine va_get (D := (dC, dI)) (ci := 9) (v := .ref a1) (C := R_Model) (T := F_Model) (N := 29) hx hb hg iw_Model hown hK hP 0 rfl rfl 13 (by decide) (hg _ gw_297) (fun _ h9 => h9) rfl d_Model_ended_9 ?_
      refine lv_bipush (v := 55) hx hb d_Model_ended_12 (by decide) ?_
      refine lv_iload_n hx hb d_Model_ended_14 rfl (lv_at hl 1 rfl) ?_
      refine lv_imul hx hb d_Model_ended_15 ?_
      refine lv_iconst (v := 5) hx hb d_Model_ended_16 (by decide) ?_
      refine lv_iload_n hx hb d_Model_ended_17 rfl (lv_at hl 3 rfl) ?_
      refine lv_imul hx hb d_Model_ended_18 ?_
      refine lv_iadd hx hb d_Model_ended_19 ?_
      refine lv_aload_n hx hb d_Model_ended_20 rfl (lv_at hl 0 rfl) ?_
      refine va_get (D := (dC, dI)) (ci := 9) (v := .ref a2) (C := R_Model) (T := F_Model) (N := 29) hx hb hg iw_Model hown hK hP 0 rfl rfl 5 (by decide) (hg _ gw_278) (fun _ h9 => h9) rfl d_Model_ended_21 ?_
      refine lv_iload_n hx hb d_Model_ended_24 rfl (lv_at hl 3 rfl) ?_
      obtain ⟨h_2, hF⟩ := rd_chk hF
      refine va_iald hx hb hK hP 2 0 rfl rfl h_2 d_Model_ended_25 ?_
      refine lv_iadd hx hb d_Model_ended_26 ?_
      obtain ⟨h_3, hF⟩ := rd_chk hF
      refine va_iald hx hb hK hP 1 0 rfl rfl h_3 d_Model_ended_27 ?_
      refine lv_iload_n hx hb d_Model_ended_28 rfl (lv_at hl 2 rfl) ?_
      refine lv_ishr hx hb d_Model_ended_29 ?_
      refine lv_iconst (v := 1) hx hb d_Model_ended_30 (by decide) ?_
      refine lv_iand hx hb d_Model_ended_31 ?_
      refine lv_iconst (v := 1) hx hb d_Model_ended_32 (by decide) ?_
      refine lv_icmp_ne (tgt := 38) hx hb d_Model_ended_33 (by decide) (fun c_4 => ?_) (fun c_4 => ?_)
      · rw [if_pos c_4] at hF
        refine lv_iinc (v := (l3 + 1)) (lv' := [(3, .int (l3 + 1)), (0, .ref a0), (1, .int l1), (2, .int l2)]) hx hb d_Model_ended_38 hl (k := 3) rfl (by rfl) (by decide) rfl (fun ls hl => ?_)
        refine lv_goto (tgt := 2) hx hb d_Model_ended_41 (by decide) ?_
        exact ih l1 l2 (l3 + 1) hF _ _ _ hP hD hS (lv_sub hl [1, 2, 3, 0] rfl)
      · rw [if_neg (fun z => z c_4)] at hF
        refine lv_iload_n hx hb d_Model_ended_36 rfl (lv_at hl 3 rfl) ?_
        have e0 := Option.some.inj hF
        exact W.iret (v := l3) hx hb hr (fun t ht hW => ⟨⟨l3, (), rfl, e0, by rw [ht]; exact hP, va_K.moved hW.alike hK, (by exact hD)⟩, hS.F ht⟩) hS.2.2 d_Model_ended_37 hlocks
def S_Model_ended (p1 : Int32) (p2 : Int32) (f1 : (Nat → Int32)) (f2 : (Nat → Int32)) : Option (Int32) := (F_Model_ended f1 f2 fuel_ 0 p1 p2 0)
set_option maxHeartbeats 4000000 in
set_option maxRecDepth 100000 in
theorem c_Model_ended (l : Launch) (dC : Nat → ClassId) (dI : Nat → Nat → Nat) (kA : Nat → ClassId) (sz : Nat) (a0 a1 a2 : Nat) (v0_0 v0_1 v0_2 v0_3 v0_4 v0_6 v0_7 v0_8 v0_9 v0_10 v0_11 v0_12 v0_14 v0_15 v0_16 v0_17 v0_18 v0_19 v0_20 v0_21 v0_22 v0_23 v0_24 v0_25 v0_26 v0_27 v0_28 : Value) (p1 : Int32) (p2 : Int32) (f1 : (Nat → Int32)) (f2 : (Nat → Int32)) (r : Int32) (hF : S_Model_ended p1 p2 f1 f2 = some r) : Met l y_Model_ended w_Model_ended rm_Model_ended (va_Pc [.ref a0, .int p1, .int p2] (fun U => U.heap.size = sz ∧ va_P (dC, dI) classes (wd_Model_ended kA a0 a1 a2 v0_0 v0_1 v0_2 v0_3 v0_4 v0_6 v0_7 v0_8 v0_9 v0_10 v0_11 v0_12 v0_14 v0_15 v0_16 v0_17 v0_18 v0_19 v0_20 v0_21 v0_22 v0_23 v0_24 v0_25 v0_26 v0_27 v0_28 f1 f2) U.heap ∧ va_K (dC, dI) classes (tys_ kA) U ∧ va_D (fun _ => True) (wd_Model_ended kA a0 a1 a2 v0_0 v0_1 v0_2 v0_3 v0_4 v0_6 v0_7 v0_8 v0_9 v0_10 v0_11 v0_12 v0_14 v0_15 v0_16 v0_17 v0_18 v0_19 v0_20 v0_21 v0_22 v0_23 v0_24 v0_25 v0_26 v0_27 v0_28 f1 f2))) (va_Qi (fun (r1 : Int32) (_ : Unit) => r1 = r) (fun _ t => va_P (dC, dI) classes (wd_Model_ended kA a0 a1 a2 v0_0 v0_1 v0_2 v0_3 v0_4 v0_6 v0_7 v0_8 v0_9 v0_10 v0_11 v0_12 v0_14 v0_15 v0_16 v0_17 v0_18 v0_19 v0_20 v0_21 v0_22 v0_23 v0_24 v0_25 v0_26 v0_27 v0_28 f1 f2) t.heap ∧ va_K (dC, dI) classes (tys_ kA) t ∧ va_D (va_A (wd_Model_ended kA a0 a1 a2 v0_0 v0_1 v0_2 v0_3 v0_4 v0_6 v0_7 v0_8 v0_9 v0_10 v0_11 v0_12 v0_14 v0_15 v0_16 v0_17 v0_18 v0_19 v0_20 v0_21 v0_22 v0_23 v0_24 v0_25 v0_26 v0_27 v0_28 f1 f2) sz) (wd_Model_ended kA a0 a1 a2 v0_0 v0_1 v0_2 v0_3 v0_4 v0_6 v0_7 v0_8 v0_9 v0_10 v0_11 v0_12 v0_14 v0_15 v0_16 v0_17 v0_18 v0_19 v0_20 v0_21 v0_22 v0_23 v0_24 v0_25 v0_26 v0_27 v0_28 f1 f2)) (va_A (wd_Model_ended kA a0 a1 a2 v0_0 v0_1 v0_2 v0_3 v0_4 v0_6 v0_7 v0_8 v0_9 v0_10 v0_11 v0_12 v0_14 v0_15 v0_16 v0_17 v0_18 v0_19 v0_20 v0_21 v0_22 v0_23 v0_24 v0_25 v0_26 v0_27 v0_28 f1 f2) sz)) 0 0 (va_A (wd_Model_ended kA a0 a1 a2 v0_0 v0_1 v0_2 v0_3 v0_4 v0_6 v0_7 v0_8 v0_9 v0_10 v0_11 v0_12 v0_14 v0_15 v0_16 v0_17 v0_18 v0_19 v0_20 v0_21 v0_22 v0_23 v0_24 v0_25 v0_26 v0_27 v0_28 f1 f2) sz) := by
  refine Met.ofW (cc := b_Model_ended) (maxL := 4) (ret := some .int) (by decide) rfl ?_
  intro p e s m args below meth c s₁ B hml hv
  obtain ⟨rfl, hsz, hP, hK, hD0⟩ := hv
  have hx := B.exec
  have hb := B.bytes
  have hr := B.returns
  have hts := atoms_spec (ws := w_Model_ended) B.pre
  have hown : s.vm.findClass R_Model = some m.cls := findClass_of_methodNamed B.named
  have hg := fun (w : Cond) (h : w ∈ gw) => hts w (List.mem_cons_of_mem _ h)
  have hlocks := B.notSynchronized
  subst hsz
  have hD := hD0.self (sz := s.heap.size)
  generalize hAe : va_A (wd_Model_ended kA a0 a1 a2 v0_0 v0_1 v0_2 v0_3 v0_4 v0_6 v0_7 v0_8 v0_9 v0_10 v0_11 v0_12 v0_14 v0_15 v0_16 v0_17 v0_18 v0_19 v0_20 v0_21 v0_22 v0_23 v0_24 v0_25 v0_26 v0_27 v0_28 f1 f2) s.heap.size = A at hD ⊢
  have hA : ∀ q : Nat, s.heap.size ≤ q → A q := fun q h => by rw [← hAe]; exact Or.inr h
  have hS : va_S A s.heap s.heap [] := va_S.rf
  have hl := lv_entry ([.ref a0, .int p1, .int p2]) (n := 4) (Nat.le_of_ble_eq_true rfl)
  rw [lg_entry_eq]
  generalize (lg_sl ([.ref a0, .int p1, .int p2]) ++ List.replicate (4 - (lg_sl ([.ref a0, .int p1, .int p2])).length) Slot.unset).toArray = ls at hl ⊢
  have hl : lv_has ls 4 [(0, .ref a0), (1, .int p1), (2, .int p2)] := hl
  unfold S_Model_ended at hF
  have ih := L_Model_ended (l := l) (e := e) (below := below) hx hb hr hlocks hml hown hts hA hK a0 a1 a2 v0_0 v0_1 v0_2 v0_3 v0_4 v0_6 v0_7 v0_8 v0_9 v0_10 v0_11 v0_12 v0_14 v0_15 v0_16 v0_17 v0_18 v0_19 v0_20 v0_21 v0_22 v0_23 v0_24 v0_25 v0_26 v0_27 v0_28 f1 f2 r fuel_
  refine lv_iconst (v := 0) hx hb d_Model_ended_0 (by decide) ?_
  refine lv_istore_n (lv' := [(3, .int 0), (0, .ref a0), (1, .int p1), (2, .int p2)]) hx hb d_Model_ended_1 rfl hl (by decide) rfl (fun ls hl => ?_)
  exact ih p1 p2 0 hF _ _ _ hP hD hS (lv_sub hl [1, 2, 3, 0] rfl)
-- ===== RepairDeskModel.wrongAt(IZ)I
abbrev wd_Model_wrongAt (kA : Nat → ClassId) (a0 a1 a2 a3 a4 a5 a6 : Nat) (v0_0 v0_1 v0_2 v0_3 v0_6 v0_7 v0_8 v0_9 v0_10 v0_11 v0_12 v0_15 v0_16 v0_17 v0_20 v0_21 v0_22 v0_23 v0_24 v0_25 v0_26 v0_27 v0_28 : Value) (f1 : (Nat → Int32)) (f2 : (Nat → Int32)) (f3 : (Nat → Int32)) (f4 : (Nat → Int32)) (f5 : (Nat → Int32)) (f6 : (Nat → Int32)) : va_W := [(a0, .inr (9, [v0_0, v0_1, v0_2, v0_3, .ref a3, .ref a4, v0_6, v0_7, v0_8, v0_9, v0_10, v0_11, v0_12, .ref a1, .ref a5, v0_15, v0_16, v0_17, .ref a2, .ref a6, v0_20, v0_21, v0_22, v0_23, v0_24, v0_25, v0_26, v0_27, v0_28])), (a1, .inl (kA 0, 2310, .inl f1)), (a2, .inl (kA 0, 24, .inl f2)), (a3, .inl (kA 0, 11, .inl f3)), (a4, .inl (kA 0, 11, .inl f4)), (a5, .inl (kA 0, 492, .inl f5)), (a6, .inl (kA 0, 400, .inl f6))]
abbrev rm_Model_wrongAt : Room := { frames := 1, cells := 0, slots := 0, locals := 23 }
def B_Model_wrongAt_0 (K : Nat → Int32 → Int32 → Int32 → Int32 → Int32 → Int32 → Int32 → Int32 → (Nat → Int32) → Option (Int32 × (Nat → Int32))) (f1 : (Nat → Int32)) (f2 : (Nat → Int32)) (f3 : (Nat → Int32)) (f4 : (Nat → Int32)) (f5 : (Nat → Int32)) (l1 : Int32) (l2 : Int32) (l3 : Int32) (l4 : Int32) (l5 : Int32) (l6 : Int32) (l7 : Int32) (s0 : Int32) (f6 : (Nat → Int32)) : Option (Int32 × (Nat → Int32)) := (if l4 < l1 then (K 1 l1 l2 l3 l4 0 0 0 0 f6) else (if l2 = 0 then (some (l1, f6)) else (K 1 l1 l2 l3 l4 0 0 0 0 f6)))
def B_Model_wrongAt_1 (K : Nat → Int32 → Int32 → Int32 → Int32 → Int32 → Int32 → Int32 → Int32 → (Nat → Int32) → Option (Int32 × (Nat → Int32))) (f1 : (Nat → Int32)) (f2 : (Nat → Int32)) (f3 : (Nat → Int32)) (f4 : (Nat → Int32)) (f5 : (Nat → Int32)) (l1 : Int32) (l2 : Int32) (l3 : Int32) (l4 : Int32) (l5 : Int32) (l6 : Int32) (l7 : Int32) (s0 : Int32) (f6 : (Nat → Int32)) : Option (Int32 × (Nat → Int32)) := (if l1 ≤ l4 then (K 2 l1 l2 l3 l4 0 0 0 6 f6) else (if (l4 : Int32) < 0 ∨ 24 ≤ (Int32.toNatClampNeg l4) then none else (K 2 l1 l2 l3 l4 0 0 0 (f2 (Int32.toNatClampNeg l4)) f6)))
def B_Model_wrongAt_2 (K : Nat → Int32 → Int32 → Int32 → Int32 → Int32 → Int32 → Int32 → Int32 → (Nat → Int32) → Option (Int32 × (Nat → Int32))) (f1 : (Nat → Int32)) (f2 : (Nat → Int32)) (f3 : (Nat → Int32)) (f4 : (Nat → Int32)) (f5 : (Nat → Int32)) (l1 : Int32) (l2 : Int32) (l3 : Int32) (l4 : Int32) (l5 : Int32) (l6 : Int32) (l7 : Int32) (s0 : Int32) (f6 : (Nat → Int32)) : Option (Int32 × (Nat → Int32)) := (if (l3 : Int32) < 0 ∨ 400 ≤ (Int32.toNatClampNeg l3) then none else (if 6 ≤ s0 then (K 3 l1 l2 l3 l4 s0 (f6 (Int32.toNatClampNeg l3)) 0 (-1) f6) else (if (((12 * (f6 (Int32.toNatClampNeg l3))) + s0) : Int32) < 0 ∨ 492 ≤ (Int32.toNatClampNeg ((12 * (f6 (Int32.toNatClampNeg l3))) + s0)) then none else (K 3 l1 l2 l3 l4 s0 (f6 (Int32.toNatClampNeg l3)) 0 (f5 (Int32.toNatClampNeg ((12 * (f6 (Int32.toNatClampNeg l3))) + s0))) f6))))
def B_Model_wrongAt_3 (K : Nat → Int32 → Int32 → Int32 → Int32 → Int32 → Int32 → Int32 → Int32 → (Nat → Int32) → Option (Int32 × (Nat → Int32))) (f1 : (Nat → Int32)) (f2 : (Nat → Int32)) (f3 : (Nat → Int32)) (f4 : (Nat → Int32)) (f5 : (Nat → Int32)) (l1 : Int32) (l2 : Int32) (l3 : Int32) (l4 : Int32) (l5 : Int32) (l6 : Int32) (l7 : Int32) (s0 : Int32) (f6 : (Nat → Int32)) : Option (Int32 × (Nat → Int32)) := (if s0 < 0 then ((S_Model_ended l6 l5 f1 f4).bind fun u_9 => (K 4 l1 l2 l3 l4 l5 l6 s0 u_9 f6)) else (K 4 l1 l2 l3 l4 l5 l6 s0 (-1) f6))
def B_Model_wrongAt_4 (K : Nat → Int32 → Int32 → Int32 → Int32 → Int32 → Int32 → Int32 → Int32 → (Nat → Int32) → Option (Int32 × (Nat → Int32))) (f1 : (Nat → Int32)) (f2 : (Nat → Int32)) (f3 : (Nat → Int32)) (f4 : (Nat → Int32)) (f5 : (Nat → Int32)) (l1 : Int32) (l2 : Int32) (l3 : Int32) (l4 : Int32) (l5 : Int32) (l6 : Int32) (l7 : Int32) (s0 : Int32) (f6 : (Nat → Int32)) : Option (Int32 × (Nat → Int32)) := (if l7 < 0 then (if 0 ≤ s0 then (if ¬ s0 = 10 then (if (s0 : Int32) < 0 ∨ 11 ≤ (Int32.toNatClampNeg s0) then none else (if ((((l3 - (f4 (Int32.toNatClampNeg s0))) + 1) - 1) : Int32) < 0 ∨ 400 ≤ (Int32.toNatClampNeg (((l3 - (f4 (Int32.toNatClampNeg s0))) + 1) - 1)) then none else (if (s0 : Int32) < 0 ∨ 11 ≤ (Int32.toNatClampNeg s0) then none else (if ((((12 * (f6 (Int32.toNatClampNeg (((l3 - (f4 (Int32.toNatClampNeg s0))) + 1) - 1)))) + 6) + (f3 (Int32.toNatClampNeg s0))) : Int32) < 0 ∨ 492 ≤ (Int32.toNatClampNeg (((12 * (f6 (Int32.toNatClampNeg (((l3 - (f4 (Int32.toNatClampNeg s0))) + 1) - 1)))) + 6) + (f3 (Int32.toNatClampNeg s0)))) then none else (if (((l3 - (f4 (Int32.toNatClampNeg s0))) + 1) : Int32) < 0 ∨ 400 ≤ (Int32.toNatClampNeg ((l3 - (f4 (Int32.toNatClampNeg s0))) + 1)) then none else (K 0 l1 l2 ((l3 - (f4 (Int32.toNatClampNeg s0))) + 1) l4 0 0 0 0 (upd f6 (Int32.toNatClampNeg ((l3 - (f4 (Int32.toNatClampNeg s0))) + 1)) (f5 (Int32.toNatClampNeg (((12 * (f6 (Int32.toNatClampNeg (((l3 - (f4 (Int32.toNatClampNeg s0))) + 1) - 1)))) + 6) + (f3 (Int32.toNatClampNeg s0)))))))))))) else (some ((-1), f6))) else (some (l4, f6))) else (if ((l3 + 1) : Int32) < 0 ∨ 400 ≤ (Int32.toNatClampNeg (l3 + 1)) then none else (K 0 l1 l2 (l3 + 1) (l4 + 1) 0 0 0 0 (upd f6 (Int32.toNatClampNeg (l3 + 1)) l7))))
def F_Model_wrongAt (f1 : (Nat → Int32)) (f2 : (Nat → Int32)) (f3 : (Nat → Int32)) (f4 : (Nat → Int32)) (f5 : (Nat → Int32)) : Nat → Nat → Int32 → Int32 → Int32 → Int32 → Int32 → Int32 → Int32 → Int32 → (Nat → Int32) → Option (Int32 × (Nat → Int32))
  | 0 => fun _ _ _ _ _ _ _ _ _ _ => none
  | n + 1 => fun hd l1 l2 l3 l4 l5 l6 l7 s0 f6 => match hd with
    | 0 => B_Model_wrongAt_0 (F_Model_wrongAt f1 f2 f3 f4 f5 n) f1 f2 f3 f4 f5 l1 l2 l3 l4 l5 l6 l7 s0 f6
    | 1 => B_Model_wrongAt_1 (F_Model_wrongAt f1 f2 f3 f4 f5 n) f1 f2 f3 f4 f5 l1 l2 l3 l4 l5 l6 l7 s0 f6
    | 2 => B_Model_wrongAt_2 (F_Model_wrongAt f1 f2 f3 f4 f5 n) f1 f2 f3 f4 f5 l1 l2 l3 l4 l5 l6 l7 s0 f6
    | 3 => B_Model_wrongAt_3 (F_Model_wrongAt f1 f2 f3 f4 f5 n) f1 f2 f3 f4 f5 l1 l2 l3 l4 l5 l6 l7 s0 f6
    | 4 => B_Model_wrongAt_4 (F_Model_wrongAt f1 f2 f3 f4 f5 n) f1 f2 f3 f4 f5 l1 l2 l3 l4 l5 l6 l7 s0 f6
    | _ => none
set_option maxHeartbeats 4000000 in
set_option maxRecDepth 100000 in
theorem L_Model_wrongAt {p : Program} {l : Launch} {e : Env} {s : State} {m : MethodId} {args : Array Value} {below : List Frame} {meth : Method} {c : Code} {A : Nat → Prop} {dC : Nat → ClassId} {dI : Nat → Nat → Nat} {kA : Nat → ClassId} (hx : p.tables.exec = Jvm.exec) (hb : c.code = b_Model_wrongAt) (hr : meth.sig.returnType = some .int) (hlocks : meth.locks = false) (hml : c.maxLocals = 9) (hown : s.vm.findClass R_Model = some m.cls) (hts : ∀ w ∈ w_Model_wrongAt, w.before args s = true) (hA : ∀ q : Nat, s.heap.size ≤ q → A q) (hK : va_K (dC, dI) classes (tys_ kA) s) (a0 a1 a2 a3 a4 a5 a6 : Nat) (v0_0 v0_1 v0_2 v0_3 v0_6 v0_7 v0_8 v0_9 v0_10 v0_11 v0_12 v0_15 v0_16 v0_17 v0_20 v0_21 v0_22 v0_23 v0_24 v0_25 v0_26 v0_27 v0_28 : Value) (f1 : (Nat → Int32)) (f2 : (Nat → Int32)) (f3 : (Nat → Int32)) (f4 : (Nat → Int32)) (f5 : (Nat → Int32)) (r : Int32) (of6 : (Nat → Int32)) : ∀ n : Nat, (∀ (l1 l2 l3 l4 l5 l6 l7 s0 : Int32) (f6 : (Nat → Int32)), F_Model_wrongAt f1 f2 f3 f4 f5 n 0 l1 l2 l3 l4 l5 l6 l7 s0 f6 = some (r, of6) → ∀ (H : Heap) (locs : List Loc) (ls : Array Slot), va_P (dC, dI) classes (wd_Model_wrongAt kA a0 a1 a2 a3 a4 a5 a6 v0_0 v0_1 v0_2 v0_3 v0_6 v0_7 v0_8 v0_9 v0_10 v0_11 v0_12 v0_15 v0_16 v0_17 v0_20 v0_21 v0_22 v0_23 v0_24 v0_25 v0_26 v0_27 v0_28 f1 f2 f3 f4 f5 f6) H → va_D A (wd_Model_wrongAt kA a0 a1 a2 a3 a4 a5 a6 v0_0 v0_1 v0_2 v0_3 v0_6 v0_7 v0_8 v0_9 v0_10 v0_11 v0_12 v0_15 v0_16 v0_17 v0_20 v0_21 v0_22 v0_23 v0_24 v0_25 v0_26 v0_27 v0_28 f1 f2 f3 f4 f5 f6) → va_S A s.heap H locs → lv_has ls 9 [(0, .ref a0), (1, .int l1), (2, .int l2), (3, .int l3), (4, .int l4)] → W p l e (headSpec w_Model_wrongAt rm_Model_wrongAt).room s m args below meth c H locs 0 0 (MQ below (va_Qi (fun (r1 : Int32) (_ : Unit) => r1 = r) (fun _ t => va_P (dC, dI) classes (wd_Model_wrongAt kA a0 a1 a2 a3 a4 a5 a6 v0_0 v0_1 v0_2 v0_3 v0_6 v0_7 v0_8 v0_9 v0_10 v0_11 v0_12 v0_15 v0_16 v0_17 v0_20 v0_21 v0_22 v0_23 v0_24 v0_25 v0_26 v0_27 v0_28 f1 f2 f3 f4 f5 of6) t.heap ∧ va_K (dC, dI) classes (tys_ kA) t ∧ va_D A (wd_Model_wrongAt kA a0 a1 a2 a3 a4 a5 a6 v0_0 v0_1 v0_2 v0_3 v0_6 v0_7 v0_8 v0_9 v0_10 v0_11 v0_12 v0_15 v0_16 v0_17 v0_20 v0_21 v0_22 v0_23 v0_24 v0_25 v0_26 v0_27 v0_28 f1 f2 f3 f4 f5 of6)) A) args s 0 0 A) (F0 m 12 ls [])) ∧ (∀ (l1 l2 l3 l4 l5 l6 l7 s0 : Int32) (f6 : (Nat → Int32)), F_Model_wrongAt f1 f2 f3 f4 f5 n 1 l1 l2 l3 l4 l5 l6 l7 s0 f6 = some (r, of6) → ∀ (H : Heap) (locs : List Loc) (ls : Array Slot), va_P (dC, dI) classes (wd_Model_wrongAt kA a0 a1 a2 a3 a4 a5 a6 v0_0 v0_1 v0_2 v0_3 v0_6 v0_7 v0_8 v0_9 v0_10 v0_11 v0_12 v0_15 v0_16 v0_17 v0_20 v0_21 v0_22 v0_23 v0_24 v0_25 v0_26 v0_27 v0_28 f1 f2 f3 f4 f5 f6) H → va_D A (wd_Model_wrongAt kA a0 a1 a2 a3 a4 a5 a6 v0_0 v0_1 v0_2 v0_3 v0_6 v0_7 v0_8 v0_9 v0_10 v0_11 v0_12 v0_15 v0_16 v0_17 v0_20 v0_21 v0_22 v0_23 v0_24 v0_25 v0_26 v0_27 v0_28 f1 f2 f3 f4 f5 f6) → va_S A s.heap H locs → lv_has ls 9 [(0, .ref a0), (1, .int l1), (2, .int l2), (3, .int l3), (4, .int l4)] → W p l e (headSpec w_Model_wrongAt rm_Model_wrongAt).room s m args below meth c H locs 0 0 (MQ below (va_Qi (fun (r1 : Int32) (_ : Unit) => r1 = r) (fun _ t => va_P (dC, dI) classes (wd_Model_wrongAt kA a0 a1 a2 a3 a4 a5 a6 v0_0 v0_1 v0_2 v0_3 v0_6 v0_7 v0_8 v0_9 v0_10 v0_11 v0_12 v0_15 v0_16 v0_17 v0_20 v0_21 v0_22 v0_23 v0_24 v0_25 v0_26 v0_27 v0_28 f1 f2 f3 f4 f5 of6) t.heap ∧ va_K (dC, dI) classes (tys_ kA) t ∧ va_D A (wd_Model_wrongAt kA a0 a1 a2 a3 a4 a5 a6 v0_0 v0_1 v0_2 v0_3 v0_6 v0_7 v0_8 v0_9 v0_10 v0_11 v0_12 v0_15 v0_16 v0_17 v0_20 v0_21 v0_22 v0_23 v0_24 v0_25 v0_26 v0_27 v0_28 f1 f2 f3 f4 f5 of6)) A) args s 0 0 A) (F0 m 22 ls [])) ∧ (∀ (l1 l2 l3 l4 l5 l6 l7 s0 : Int32) (f6 : (Nat → Int32)), F_Model_wrongAt f1 f2 f3 f4 f5 n 2 l1 l2 l3 l4 l5 l6 l7 s0 f6 = some (r, of6) → ∀ (H : Heap) (locs : List Loc) (ls : Array Slot), va_P (dC, dI) classes (wd_Model_wrongAt kA a0 a1 a2 a3 a4 a5 a6 v0_0 v0_1 v0_2 v0_3 v0_6 v0_7 v0_8 v0_9 v0_10 v0_11 v0_12 v0_15 v0_16 v0_17 v0_20 v0_21 v0_22 v0_23 v0_24 v0_25 v0_26 v0_27 v0_28 f1 f2 f3 f4 f5 f6) H → va_D A (wd_Model_wrongAt kA a0 a1 a2 a3 a4 a5 a6 v0_0 v0_1 v0_2 v0_3 v0_6 v0_7 v0_8 v0_9 v0_10 v0_11 v0_12 v0_15 v0_16 v0_17 v0_20 v0_21 v0_22 v0_23 v0_24 v0_25 v0_26 v0_27 v0_28 f1 f2 f3 f4 f5 f6) → va_S A s.heap H locs → lv_has ls 9 [(0, .ref a0), (1, .int l1), (2, .int l2), (3, .int l3), (4, .int l4)] → W p l e (headSpec w_Model_wrongAt rm_Model_wrongAt).room s m args below meth c H locs 0 0 (MQ below (va_Qi (fun (r1 : Int32) (_ : Unit) => r1 = r) (fun _ t => va_P (dC, dI) classes (wd_Model_wrongAt kA a0 a1 a2 a3 a4 a5 a6 v0_0 v0_1 v0_2 v0_3 v0_6 v0_7 v0_8 v0_9 v0_10 v0_11 v0_12 v0_15 v0_16 v0_17 v0_20 v0_21 v0_22 v0_23 v0_24 v0_25 v0_26 v0_27 v0_28 f1 f2 f3 f4 f5 of6) t.heap ∧ va_K (dC, dI) classes (tys_ kA) t ∧ va_D A (wd_Model_wrongAt kA a0 a1 a2 a3 a4 a5 a6 v0_0 v0_1 v0_2 v0_3 v0_6 v0_7 v0_8 v0_9 v0_10 v0_11 v0_12 v0_15 v0_16 v0_17 v0_20 v0_21 v0_22 v0_23 v0_24 v0_25 v0_26 v0_27 v0_28 f1 f2 f3 f4 f5 of6)) A) args s 0 0 A) (F0 m 40 ls [.int s0])) ∧ (∀ (l1 l2 l3 l4 l5 l6 l7 s0 : Int32) (f6 : (Nat → Int32)), F_Model_wrongAt f1 f2 f3 f4 f5 n 3 l1 l2 l3 l4 l5 l6 l7 s0 f6 = some (r, of6) → ∀ (H : Heap) (locs : List Loc) (ls : Array Slot), va_P (dC, dI) classes (wd_Model_wrongAt kA a0 a1 a2 a3 a4 a5 a6 v0_0 v0_1 v0_2 v0_3 v0_6 v0_7 v0_8 v0_9 v0_10 v0_11 v0_12 v0_15 v0_16 v0_17 v0_20 v0_21 v0_22 v0_23 v0_24 v0_25 v0_26 v0_27 v0_28 f1 f2 f3 f4 f5 f6) H → va_D A (wd_Model_wrongAt kA a0 a1 a2 a3 a4 a5 a6 v0_0 v0_1 v0_2 v0_3 v0_6 v0_7 v0_8 v0_9 v0_10 v0_11 v0_12 v0_15 v0_16 v0_17 v0_20 v0_21 v0_22 v0_23 v0_24 v0_25 v0_26 v0_27 v0_28 f1 f2 f3 f4 f5 f6) → va_S A s.heap H locs → lv_has ls 9 [(0, .ref a0), (1, .int l1), (2, .int l2), (3, .int l3), (4, .int l4), (5, .int l5), (6, .int l6)] → W p l e (headSpec w_Model_wrongAt rm_Model_wrongAt).room s m args below meth c H locs 0 0 (MQ below (va_Qi (fun (r1 : Int32) (_ : Unit) => r1 = r) (fun _ t => va_P (dC, dI) classes (wd_Model_wrongAt kA a0 a1 a2 a3 a4 a5 a6 v0_0 v0_1 v0_2 v0_3 v0_6 v0_7 v0_8 v0_9 v0_10 v0_11 v0_12 v0_15 v0_16 v0_17 v0_20 v0_21 v0_22 v0_23 v0_24 v0_25 v0_26 v0_27 v0_28 f1 f2 f3 f4 f5 of6) t.heap ∧ va_K (dC, dI) classes (tys_ kA) t ∧ va_D A (wd_Model_wrongAt kA a0 a1 a2 a3 a4 a5 a6 v0_0 v0_1 v0_2 v0_3 v0_6 v0_7 v0_8 v0_9 v0_10 v0_11 v0_12 v0_15 v0_16 v0_17 v0_20 v0_21 v0_22 v0_23 v0_24 v0_25 v0_26 v0_27 v0_28 f1 f2 f3 f4 f5 of6)) A) args s 0 0 A) (F0 m 74 ls [.int s0])) ∧ (∀ (l1 l2 l3 l4 l5 l6 l7 s0 : Int32) (f6 : (Nat → Int32)), F_Model_wrongAt f1 f2 f3 f4 f5 n 4 l1 l2 l3 l4 l5 l6 l7 s0 f6 = some (r, of6) → ∀ (H : Heap) (locs : List Loc) (ls : Array Slot), va_P (dC, dI) classes (wd_Model_wrongAt kA a0 a1 a2 a3 a4 a5 a6 v0_0 v0_1 v0_2 v0_3 v0_6 v0_7 v0_8 v0_9 v0_10 v0_11 v0_12 v0_15 v0_16 v0_17 v0_20 v0_21 v0_22 v0_23 v0_24 v0_25 v0_26 v0_27 v0_28 f1 f2 f3 f4 f5 f6) H → va_D A (wd_Model_wrongAt kA a0 a1 a2 a3 a4 a5 a6 v0_0 v0_1 v0_2 v0_3 v0_6 v0_7 v0_8 v0_9 v0_10 v0_11 v0_12 v0_15 v0_16 v0_17 v0_20 v0_21 v0_22 v0_23 v0_24 v0_25 v0_26 v0_27 v0_28 f1 f2 f3 f4 f5 f6) → va_S A s.heap H locs → lv_has ls 9 [(0, .ref a0), (1, .int l1), (2, .int l2), (3, .int l3), (4, .int l4), (5, .int l5), (6, .int l6), (7, .int l7)] → W p l e (headSpec w_Model_wrongAt rm_Model_wrongAt).room s m args below meth c H locs 0 0 (MQ below (va_Qi (fun (r1 : Int32) (_ : Unit) => r1 = r) (fun _ t => va_P (dC, dI) classes (wd_Model_wrongAt kA a0 a1 a2 a3 a4 a5 a6 v0_0 v0_1 v0_2 v0_3 v0_6 v0_7 v0_8 v0_9 v0_10 v0_11 v0_12 v0_15 v0_16 v0_17 v0_20 v0_21 v0_22 v0_23 v0_24 v0_25 v0_26 v0_27 v0_28 f1 f2 f3 f4 f5 of6) t.heap ∧ va_K (dC, dI) classes (tys_ kA) t ∧ va_D A (wd_Model_wrongAt kA a0 a1 a2 a3 a4 a5 a6 v0_0 v0_1 v0_2 v0_3 v0_6 v0_7 v0_8 v0_9 v0_10 v0_11 v0_12 v0_15 v0_16 v0_17 v0_20 v0_21 v0_22 v0_23 v0_24 v0_25 v0_26 v0_27 v0_28 f1 f2 f3 f4 f5 of6)) A) args s 0 0 A) (F0 m 93 ls [.int s0])) := by
  have hg := fun (w : Cond) (h : w ∈ gw) => hts w (List.mem_cons_of_mem _ h)
  intro n
  induction n with
  | zero =>
    exact ⟨fun _ _ _ _ _ _ _ _ _ hF => absurd (show (none : Option _) = some _ from hF) (fun z => by cases z), fun _ _ _ _ _ _ _ _ _ hF => absurd (show (none : Option _) = some _ from hF) (fun z => by cases z), fun _ _ _ _ _ _ _ _ _ hF => absurd (show (none : Option _) = some _ from hF) (fun z => by cases z), fun _ _ _ _ _ _ _ _ _ hF => absurd (show (none : Option _) = some _ from hF) (fun z => by cases z), fun _ _ _ _ _ _ _ _ _ hF => absurd (show (none : Option _) = some _ from hF) (fun z => by cases z)⟩
  | succ n ih =>
    refine ⟨?_, ?_, ?_, ?_, ?_⟩
    · intro l1 l2 l3 l4 l5 l6 l7 s0 f6 hF H locs ls hP hD hS hl
      have hF : B_Model_wrongAt_0 (F_Model_wrongAt f1 f2 f3 f4 f5 n) f1 f2 f3 f4 f5 l1 l2 l3 l4 l5 l6 l7 s0 f6 = some (r, of6) := hF
      unfold B_Model_wrongAt_0 at hF
      refine lv_iload hx hb d_Model_wrongAt_12 (lv_at hl 4 rfl) ?_
      refine lv_iload_n hx hb d_Model_wrongAt_14 rfl (lv_at hl 1 rfl) ?_
      refine lv_icmp_lt (tgt := 22) hx hb d_Model_wrongAt_15 (by decide) (fun c_1 => ?_) (fun c_1 => ?_)
      · rw [if_pos c_1] at hF
        exact ih.2.1 l1 l2 l3 l4 0 0 0 0 f6 hF _ _ _ hP hD hS (lv_sub hl [0, 1, 2, 3, 4] rfl)
      · rw [if_neg c_1] at hF
        refine lv_iload_n hx hb d_Model_wrongAt_18 rfl (lv_at hl 2 rfl) ?_
        refine lv_if_eq (tgt := 182) hx hb d_Model_wrongAt_19 (by decide) (fun c_2 => ?_) (fun c_2 => ?_)
        · rw [if_pos c_2] at hF
          refine lv_iload_n hx hb d_Model_wrongAt_182 rfl (lv_at hl 1 rfl) ?_
          have e0 := Option.some.inj hF
          have q0 := Prod.mk.inj e0
          exact W.iret (v := l1) hx hb hr (fun t ht hW => ⟨⟨l1, (), rfl, q0.1, by rw [ht, ← q0.2]; exact hP, va_K.moved hW.alike hK, (by rw [← q0.2]; exact hD)⟩, hS.F ht⟩) hS.2.2 d_Model_wrongAt_183 hlocks
        · rw [if_neg c_2] at hF
          exact ih.2.1 l1 l2 l3 l4 0 0 0 0 f6 hF _ _ _ hP hD hS (lv_sub hl [0, 1, 2, 3, 4] rfl)
    · intro l1 l2 l3 l4 l5 l6 l7 s0 f6 hF H locs ls hP hD hS hl
      have hF : B_Model_wrongAt_1 (F_Model_wrongAt f1 f2 f3 f4 f5 n) f1 f2 f3 f4 f5 l1 l2 l3 l4 l5 l6 l7 s0 f6 = some (r, of6) := hF
      unfold B_Model_wrongAt_1 at hF
      refine lv_iload hx hb d_Model_wrongAt_22 (lv_at hl 4 rfl) ?_
      refine lv_iload_n hx hb d_Model_wrongAt_24 rfl (lv_at hl 1 rfl) ?_
      refine lv_icmp_ge (tgt := 38) hx hb d_Model_wrongAt_25 (by decide) (fun c_3 => ?_) (fun c_3 => ?_)
      · rw [if_pos c_3] at hF
        refine lv_bipush (v := 6) hx hb d_Model_wrongAt_38 (by decide) ?_
        exact ih.2.2.1 l1 l2 l3 l4 0 0 0 6 f6 hF _ _ _ hP hD hS (lv_sub hl [0, 1, 2, 3, 4] rfl)
      · rw [if_neg c_3] at hF
        refine lv_aload_n hx hb d_Model_wrongAt_28 rfl (lv_at hl 0 rfl) ?_
        refine va_get (D := (dC, dI)) (ci := 9) (v := .ref a2) (C := R_Model) (T := F_Model) (N := 29) hx hb hg iw_Model hown hK hP 0 rfl rfl 18 (by decide) (hg _ gw_275) (fun _ h9 => h9) rfl d_Model_wrongAt_29 ?_
        refine lv_iload hx hb d_Model_wrongAt_32 (lv_at hl 4 rfl) ?_
        obtain ⟨h_4, hF⟩ := rd_chk hF
        refine va_iald hx hb hK hP 2 0 rfl rfl h_4 d_Model_wrongAt_34 ?_
        refine lv_goto (tgt := 40) hx hb d_Model_wrongAt_35 (by decide) ?_
        exact ih.2.2.1 l1 l2 l3 l4 0 0 0 (f2 (Int32.toNatClampNeg l4)) f6 hF _ _ _ hP hD hS (lv_sub hl [0, 1, 2, 3, 4] rfl)
    · intro l1 l2 l3 l4 l5 l6 l7 s0 f6 hF H locs ls hP hD hS hl
      have hF : B_Model_wrongAt_2 (F_Model_wrongAt f1 f2 f3 f4 f5 n) f1 f2 f3 f4 f5 l1 l2 l3 l4 l5 l6 l7 s0 f6 = some (r, of6) := hF
      unfold B_Model_wrongAt_2 at hF
      refine lv_istore (lv' := [(5, .int s0), (0, .ref a0), (1, .int l1), (2, .int l2), (3, .int l3), (4, .int l4)]) hx hb d_Model_wrongAt_40 hl (by decide) rfl (fun ls hl => ?_)
      refine lv_aload_n hx hb d_Model_wrongAt_42 rfl (lv_at hl 1 rfl) ?_
      refine va_get (D := (dC, dI)) (ci := 9) (v := .ref a6) (C := R_Model) (T := F_Model) (N := 29) hx hb hg iw_Model hown hK hP 0 rfl rfl 19 (by decide) (hg _ gw_324) (fun _ h9 => h9) rfl d_Model_wrongAt_43 ?_
      refine lv_iload_n hx hb d_Model_wrongAt_46 rfl (lv_at hl 4 rfl) ?_
      obtain ⟨h_5, hF⟩ := rd_chk hF
      refine va_iald hx hb hK hP 6 0 rfl rfl h_5 d_Model_wrongAt_47 ?_
      refine lv_istore (lv' := [(6, .int (f6 (Int32.toNatClampNeg l3))), (5, .int s0), (0, .ref a0), (1, .int l1), (2, .int l2), (3, .int l3), (4, .int l4)]) hx hb d_Model_wrongAt_48 hl (by decide) rfl (fun ls hl => ?_)
      refine lv_iload hx hb d_Model_wrongAt_50 (lv_at hl 1 rfl) ?_
      refine lv_bipush (v := 6) hx hb d_Model_wrongAt_52 (by decide) ?_
      refine lv_icmp_ge (tgt := 73) hx hb d_Model_wrongAt_54 (by decide) (fun c_6 => ?_) (fun c_6 => ?_)
      · rw [if_pos c_6] at hF
        refine lv_iconst (v := (-1)) hx hb d_Model_wrongAt_73 (by decide) ?_
        exact ih.2.2.2.1 l1 l2 l3 l4 s0 (f6 (Int32.toNatClampNeg l3)) 0 (-1) f6 hF _ _ _ hP hD hS (lv_sub hl [2, 3, 4, 5, 6, 1, 0] rfl)
      · rw [if_neg c_6] at hF
        refine lv_aload_n hx hb d_Model_wrongAt_57 rfl (lv_at hl 2 rfl) ?_
        refine va_get (D := (dC, dI)) (ci := 9) (v := .ref a5) (C := R_Model) (T := F_Model) (N := 29) hx hb hg iw_Model hown hK hP 0 rfl rfl 14 (by decide) (hg _ gw_315) (fun _ h9 => h9) rfl d_Model_wrongAt_58 ?_
        refine lv_bipush (v := 12) hx hb d_Model_wrongAt_61 (by decide) ?_
        refine lv_iload hx hb d_Model_wrongAt_63 (lv_at hl 0 rfl) ?_
        refine lv_imul hx hb d_Model_wrongAt_65 ?_
        refine lv_iload hx hb d_Model_wrongAt_66 (lv_at hl 1 rfl) ?_
        refine lv_iadd hx hb d_Model_wrongAt_68 ?_
        obtain ⟨h_7, hF⟩ := rd_chk hF
        refine va_iald hx hb hK hP 5 0 rfl rfl h_7 d_Model_wrongAt_69 ?_
        refine lv_goto (tgt := 74) hx hb d_Model_wrongAt_70 (by decide) ?_
        exact ih.2.2.2.1 l1 l2 l3 l4 s0 (f6 (Int32.toNatClampNeg l3)) 0 (f5 (Int32.toNatClampNeg ((12 * (f6 (Int32.toNatClampNeg l3))) + s0))) f6 hF _ _ _ hP hD hS (lv_sub hl [2, 3, 4, 5, 6, 1, 0] rfl)
    · intro l1 l2 l3 l4 l5 l6 l7 s0 f6 hF H locs ls hP hD hS hl
      have hF : B_Model_wrongAt_3 (F_Model_wrongAt f1 f2 f3 f4 f5 n) f1 f2 f3 f4 f5 l1 l2 l3 l4 l5 l6 l7 s0 f6 = some (r, of6) := hF
      unfold B_Model_wrongAt_3 at hF
      refine lv_istore (lv' := [(7, .int s0), (0, .ref a0), (1, .int l1), (2, .int l2), (3, .int l3), (4, .int l4), (5, .int l5), (6, .int l6)]) hx hb d_Model_wrongAt_74 hl (by decide) rfl (fun ls hl => ?_)
      refine lv_iload hx hb d_Model_wrongAt_76 (lv_at hl 0 rfl) ?_
      refine lv_if_lt (tgt := 85) hx hb d_Model_wrongAt_78 (by decide) (fun c_8 => ?_) (fun c_8 => ?_)
      · rw [if_pos c_8] at hF
        refine lv_aload_n hx hb d_Model_wrongAt_85 rfl (lv_at hl 1 rfl) ?_
        refine lv_iload hx hb d_Model_wrongAt_86 (lv_at hl 7 rfl) ?_
        refine lv_iload hx hb d_Model_wrongAt_88 (lv_at hl 6 rfl) ?_
        obtain ⟨u_9, hS_9, hF⟩ := rd_bind hF
        have hPc := hP.sub (ws' := (wd_Model_ended kA a0 a1 a4 v0_0 v0_1 v0_2 v0_3 (.ref a3) v0_6 v0_7 v0_8 v0_9 v0_10 v0_11 v0_12 (.ref a5) v0_15 v0_16 v0_17 (.ref a2) (.ref a6) v0_20 v0_21 v0_22 v0_23 v0_24 v0_25 v0_26 v0_27 v0_28 f1 f4)) [0, 1, 4] rfl
        have hDc := hD.sub (ws' := (wd_Model_ended kA a0 a1 a4 v0_0 v0_1 v0_2 v0_3 (.ref a3) v0_6 v0_7 v0_8 v0_9 v0_10 v0_11 v0_12 (.ref a5) v0_15 v0_16 v0_17 (.ref a2) (.ref a6) v0_20 v0_21 v0_22 v0_23 v0_24 v0_25 v0_26 v0_27 v0_28 f1 f4)) [0, 1, 4] (by decide) rfl
        have hFc := va_free (wc := (wd_Model_ended kA a0 a1 a4 v0_0 v0_1 v0_2 v0_3 (.ref a3) v0_6 v0_7 v0_8 v0_9 v0_10 v0_11 v0_12 (.ref a5) v0_15 v0_16 v0_17 (.ref a2) (.ref a6) v0_20 v0_21 v0_22 v0_23 v0_24 v0_25 v0_26 v0_27 v0_28 f1 f4)) hD hS hA [0, 1, 4] rfl
        refine va_calli (va_runV (As := [.int l6, .int l5]) (rest := []) ⟨hx, hb, hml, hown, hts⟩ (c_Model_ended l dC dI kA H.size a0 a1 a4 v0_0 v0_1 v0_2 v0_3 (.ref a3) v0_6 v0_7 v0_8 v0_9 v0_10 v0_11 v0_12 (.ref a5) v0_15 v0_16 v0_17 (.ref a2) (.ref a6) v0_20 v0_21 v0_22 v0_23 v0_24 v0_25 v0_26 v0_27 v0_28 l6 l5 f1 f4 u_9 hS_9) (cwV 2 hts (gw_V gw_325 gw_326 gw_327 gw_267 gw_328) rfl rfl rfl (by decide +kernel) ⟨Nat.le_of_ble_eq_true rfl, Nat.le_of_ble_eq_true rfl⟩) ⟨fun a U g mk q => by obtain ⟨q0, q1, qP, qK, qD⟩ := q; exact ⟨q0, q1, qP, va_K.moved (u := U) (U := U.calling g mk a) (Vm.Alike.refl U.vm) qK, qD⟩, va_recv hK hP (ci := 9) (q0 := 0) rfl rfl, fun U hU hW => ⟨rfl, by rw [hU], by rw [hU]; exact hPc, va_K.moved hW.alike hK, hDc.weaken (fun _ _ _ _ => trivial)⟩⟩ rfl rfl hl.1 rfl (lv_room (Nat.le_of_ble_eq_true rfl)) d_Model_wrongAt_90 ⟨Nat.zero_le _, Nat.zero_le _⟩) hS (fun q _ h => hFc q h) hFc (fun r1 u t H1 locs ht hvm hw hB hz1 hk1 hS => ?_)
        rw [show r1 = _ from hw]
        obtain ⟨hP1, hK1, hD1⟩ := hB
        rw [ht] at hP1
        obtain ⟨hP, hD⟩ := va_join (wr := [(a2, .inl (kA 0, 24, .inl f2)), (a3, .inl (kA 0, 11, .inl f3)), (a5, .inl (kA 0, 492, .inl f5)), (a6, .inl (kA 0, 400, .inl f6))]) (w1 := (wd_Model_ended kA a0 a1 a4 v0_0 v0_1 v0_2 v0_3 (.ref a3) v0_6 v0_7 v0_8 v0_9 v0_10 v0_11 v0_12 (.ref a5) v0_15 v0_16 v0_17 (.ref a2) (.ref a6) v0_20 v0_21 v0_22 v0_23 v0_24 v0_25 v0_26 v0_27 v0_28 f1 f4)) hP hD [0, 1, 4] [2, 3, 5, 6] rfl rfl (by decide) (by decide) hk1 hFc hP1 hD1
        have hP := hP.sub (ws' := (wd_Model_wrongAt kA a0 a1 a2 a3 a4 a5 a6 v0_0 v0_1 v0_2 v0_3 v0_6 v0_7 v0_8 v0_9 v0_10 v0_11 v0_12 v0_15 v0_16 v0_17 v0_20 v0_21 v0_22 v0_23 v0_24 v0_25 v0_26 v0_27 v0_28 f1 f2 f3 f4 f5 f6)) [4, 5, 0, 1, 6, 2, 3] rfl
        have hD := hD.sub (ws' := (wd_Model_wrongAt kA a0 a1 a2 a3 a4 a5 a6 v0_0 v0_1 v0_2 v0_3 v0_6 v0_7 v0_8 v0_9 v0_10 v0_11 v0_12 v0_15 v0_16 v0_17 v0_20 v0_21 v0_22 v0_23 v0_24 v0_25 v0_26 v0_27 v0_28 f1 f2 f3 f4 f5 f6)) [4, 5, 0, 1, 6, 2, 3] (by decide) rfl
        clear hPc hDc hFc hP1 hK1 hD1
        generalize H1 = H at hP hS ⊢
        exact ih.2.2.2.2 l1 l2 l3 l4 l5 l6 s0 u_9 f6 hF _ _ _ hP hD hS (lv_sub hl [1, 2, 3, 4, 5, 6, 7, 0] rfl)
      · rw [if_neg c_8] at hF
        refine lv_iconst (v := (-1)) hx hb d_Model_wrongAt_81 (by decide) ?_
        refine lv_goto (tgt := 93) hx hb d_Model_wrongAt_82 (by decide) ?_
        exact ih.2.2.2.2 l1 l2 l3 l4 l5 l6 s0 (-1) f6 hF _ _ _ hP hD hS (lv_sub hl [1, 2, 3, 4, 5, 6, 7, 0] rfl)
    · intro l1 l2 l3 l4 l5 l6 l7 s0 f6 hF H locs ls hP hD hS hl
      have hF : B_Model_wrongAt_4 (F_Model_wrongAt f1 f2 f3 f4 f5 n) f1 f2 f3 f4 f5 l1 l2 l3 l4 l5 l6 l7 s0 f6 = some (r, of6) := hF
      unfold B_Model_wrongAt_4 at hF
      refine lv_istore (lv' := [(8, .int s0), (0, .ref a0), (1, .int l1), (2, .int l2), (3, .int l3), (4, .int l4), (5, .int l5), (6, .int l6), (7, .int l7)]) hx hb d_Model_wrongAt_93 hl (by decide) rfl (fun ls hl => ?_)
      refine lv_iload hx hb d_Model_wrongAt_95 (lv_at hl 8 rfl) ?_
      refine lv_if_lt (tgt := 117) hx hb d_Model_wrongAt_97 (by decide) (fun c_10 => ?_) (fun c_10 => ?_)
      · rw [if_pos c_10] at hF
        refine lv_iload hx hb d_Model_wrongAt_117 (lv_at hl 0 rfl) ?_
        refine lv_if_ge (tgt := 125) hx hb d_Model_wrongAt_119 (by decide) (fun c_11 => ?_) (fun c_11 => ?_)
        · rw [if_pos c_11] at hF
          refine lv_iload hx hb d_Model_wrongAt_125 (lv_at hl 0 rfl) ?_
          refine lv_bipush (v := 10) hx hb d_Model_wrongAt_127 (by decide) ?_
          refine lv_icmp_ne (tgt := 134) hx hb d_Model_wrongAt_129 (by decide) (fun c_12 => ?_) (fun c_12 => ?_)
          · rw [if_pos c_12] at hF
            refine lv_iload_n hx hb d_Model_wrongAt_134 rfl (lv_at hl 4 rfl) ?_
            refine lv_aload_n hx hb d_Model_wrongAt_135 rfl (lv_at hl 1 rfl) ?_
            refine va_get (D := (dC, dI)) (ci := 9) (v := .ref a4) (C := R_Model) (T := F_Model) (N := 29) hx hb hg iw_Model hown hK hP 0 rfl rfl 5 (by decide) (hg _ gw_278) (fun _ h9 => h9) rfl d_Model_wrongAt_136 ?_
            refine lv_iload hx hb d_Model_wrongAt_139 (lv_at hl 0 rfl) ?_
            obtain ⟨h_13, hF⟩ := rd_chk hF
            refine va_iald hx hb hK hP 4 0 rfl rfl h_13 d_Model_wrongAt_141 ?_
            refine lv_isub hx hb d_Model_wrongAt_142 ?_
            refine lv_iconst (v := 1) hx hb d_Model_wrongAt_143 (by decide) ?_
            refine lv_iadd hx hb d_Model_wrongAt_144 ?_
            refine lv_istore_n (lv' := [(3, .int ((l3 - (f4 (Int32.toNatClampNeg s0))) + 1)), (8, .int s0), (0, .ref a0), (1, .int l1), (2, .int l2), (4, .int l4), (5, .int l5), (6, .int l6), (7, .int l7)]) hx hb d_Model_wrongAt_145 rfl hl (by decide) rfl (fun ls hl => ?_)
            refine lv_aload_n hx hb d_Model_wrongAt_146 rfl (lv_at hl 2 rfl) ?_
            refine va_get (D := (dC, dI)) (ci := 9) (v := .ref a6) (C := R_Model) (T := F_Model) (N := 29) hx hb hg iw_Model hown hK hP 0 rfl rfl 19 (by decide) (hg _ gw_324) (fun _ h9 => h9) rfl d_Model_wrongAt_147 ?_
            refine lv_iload_n hx hb d_Model_wrongAt_150 rfl (lv_at hl 0 rfl) ?_
            refine lv_aload_n hx hb d_Model_wrongAt_151 rfl (lv_at hl 2 rfl) ?_
            refine va_get (D := (dC, dI)) (ci := 9) (v := .ref a5) (C := R_Model) (T := F_Model) (N := 29) hx hb hg iw_Model hown hK hP 0 rfl rfl 14 (by decide) (hg _ gw_315) (fun _ h9 => h9) rfl d_Model_wrongAt_152 ?_
            refine lv_bipush (v := 12) hx hb d_Model_wrongAt_155 (by decide) ?_
            refine lv_aload_n hx hb d_Model_wrongAt_157 rfl (lv_at hl 2 rfl) ?_
            refine va_get (D := (dC, dI)) (ci := 9) (v := .ref a6) (C := R_Model) (T := F_Model) (N := 29) hx hb hg iw_Model hown hK hP 0 rfl rfl 19 (by decide) (hg _ gw_324) (fun _ h9 => h9) rfl d_Model_wrongAt_158 ?_
            refine lv_iload_n hx hb d_Model_wrongAt_161 rfl (lv_at hl 0 rfl) ?_
            refine lv_iconst (v := 1) hx hb d_Model_wrongAt_162 (by decide) ?_
            refine lv_isub hx hb d_Model_wrongAt_163 ?_
            obtain ⟨h_14, hF⟩ := rd_chk hF
            refine va_iald hx hb hK hP 6 0 rfl rfl h_14 d_Model_wrongAt_164 ?_
            refine lv_imul hx hb d_Model_wrongAt_165 ?_
            refine lv_bipush (v := 6) hx hb d_Model_wrongAt_166 (by decide) ?_
            refine lv_iadd hx hb d_Model_wrongAt_168 ?_
            refine lv_aload_n hx hb d_Model_wrongAt_169 rfl (lv_at hl 2 rfl) ?_
            refine va_get (D := (dC, dI)) (ci := 9) (v := .ref a3) (C := R_Model) (T := F_Model) (N := 29) hx hb hg iw_Model hown hK hP 0 rfl rfl 4 (by decide) (hg _ gw_277) (fun _ h9 => h9) rfl d_Model_wrongAt_170 ?_
            refine lv_iload hx hb d_Model_wrongAt_173 (lv_at hl 1 rfl) ?_
            obtain ⟨h_15, hF⟩ := rd_chk hF
            refine va_iald hx hb hK hP 3 0 rfl rfl h_15 d_Model_wrongAt_175 ?_
            refine lv_iadd hx hb d_Model_wrongAt_176 ?_
            obtain ⟨h_16, hF⟩ := rd_chk hF
            refine va_iald hx hb hK hP 5 0 rfl rfl h_16 d_Model_wrongAt_177 ?_
            obtain ⟨h_17, hF⟩ := rd_chk hF
            refine va_iast hx hb hK hP hD hS 6 0 rfl rfl h_17 d_Model_wrongAt_178 (fun H locs hP hD hS => ?_)
            have hP : va_P (dC, dI) classes (wd_Model_wrongAt kA a0 a1 a2 a3 a4 a5 a6 v0_0 v0_1 v0_2 v0_3 v0_6 v0_7 v0_8 v0_9 v0_10 v0_11 v0_12 v0_15 v0_16 v0_17 v0_20 v0_21 v0_22 v0_23 v0_24 v0_25 v0_26 v0_27 v0_28 f1 f2 f3 f4 f5 (upd f6 (Int32.toNatClampNeg ((l3 - (f4 (Int32.toNatClampNeg s0))) + 1)) (f5 (Int32.toNatClampNeg (((12 * (f6 (Int32.toNatClampNeg (((l3 - (f4 (Int32.toNatClampNeg s0))) + 1) - 1)))) + 6) + (f3 (Int32.toNatClampNeg s0))))))) H := hP
            have hD : va_D A (wd_Model_wrongAt kA a0 a1 a2 a3 a4 a5 a6 v0_0 v0_1 v0_2 v0_3 v0_6 v0_7 v0_8 v0_9 v0_10 v0_11 v0_12 v0_15 v0_16 v0_17 v0_20 v0_21 v0_22 v0_23 v0_24 v0_25 v0_26 v0_27 v0_28 f1 f2 f3 f4 f5 (upd f6 (Int32.toNatClampNeg ((l3 - (f4 (Int32.toNatClampNeg s0))) + 1)) (f5 (Int32.toNatClampNeg (((12 * (f6 (Int32.toNatClampNeg (((l3 - (f4 (Int32.toNatClampNeg s0))) + 1) - 1)))) + 6) + (f3 (Int32.toNatClampNeg s0))))))) := hD
            refine lv_goto (tgt := 12) hx hb d_Model_wrongAt_179 (by decide) ?_
            exact ih.1 l1 l2 ((l3 - (f4 (Int32.toNatClampNeg s0))) + 1) l4 0 0 0 0 (upd f6 (Int32.toNatClampNeg ((l3 - (f4 (Int32.toNatClampNeg s0))) + 1)) (f5 (Int32.toNatClampNeg (((12 * (f6 (Int32.toNatClampNeg (((l3 - (f4 (Int32.toNatClampNeg s0))) + 1) - 1)))) + 6) + (f3 (Int32.toNatClampNeg s0)))))) hF _ _ _ hP hD hS (lv_sub hl [2, 3, 4, 0, 5] rfl)
          · rw [if_neg (fun z => z c_12)] at hF
            refine lv_iconst (v := (-1)) hx hb d_Model_wrongAt_132 (by decide) ?_
            have e0 := Option.some.inj hF
            have q0 := Prod.mk.inj e0
            exact W.iret (v := (-1)) hx hb hr (fun t ht hW => ⟨⟨(-1), (), rfl, q0.1, by rw [ht, ← q0.2]; exact hP, va_K.moved hW.alike hK, (by rw [← q0.2]; exact hD)⟩, hS.F ht⟩) hS.2.2 d_Model_wrongAt_133 hlocks
        · rw [if_neg c_11] at hF
          refine lv_iload hx hb d_Model_wrongAt_122 (lv_at hl 5 rfl) ?_
          have e0 := Option.some.inj hF
          have q0 := Prod.mk.inj e0
          exact W.iret (v := l4) hx hb hr (fun t ht hW => ⟨⟨l4, (), rfl, q0.1, by rw [ht, ← q0.2]; exact hP, va_K.moved hW.alike hK, (by rw [← q0.2]; exact hD)⟩, hS.F ht⟩) hS.2.2 d_Model_wrongAt_124 hlocks
      · rw [if_neg c_10] at hF
        refine lv_iinc (v := (l3 + 1)) (lv' := [(3, .int (l3 + 1)), (8, .int s0), (0, .ref a0), (1, .int l1), (2, .int l2), (4, .int l4), (5, .int l5), (6, .int l6), (7, .int l7)]) hx hb d_Model_wrongAt_100 hl (k := 4) rfl (by rfl) (by decide) rfl (fun ls hl => ?_)
        refine lv_aload_n hx hb d_Model_wrongAt_103 rfl (lv_at hl 2 rfl) ?_
        refine va_get (D := (dC, dI)) (ci := 9) (v := .ref a6) (C := R_Model) (T := F_Model) (N := 29) hx hb hg iw_Model hown hK hP 0 rfl rfl 19 (by decide) (hg _ gw_324) (fun _ h9 => h9) rfl d_Model_wrongAt_104 ?_
        refine lv_iload_n hx hb d_Model_wrongAt_107 rfl (lv_at hl 0 rfl) ?_
        refine lv_iload hx hb d_Model_wrongAt_108 (lv_at hl 8 rfl) ?_
        obtain ⟨h_18, hF⟩ := rd_chk hF
        refine va_iast hx hb hK hP hD hS 6 0 rfl rfl h_18 d_Model_wrongAt_110 (fun H locs hP hD hS => ?_)
        have hP : va_P (dC, dI) classes (wd_Model_wrongAt kA a0 a1 a2 a3 a4 a5 a6 v0_0 v0_1 v0_2 v0_3 v0_6 v0_7 v0_8 v0_9 v0_10 v0_11 v0_12 v0_15 v0_16 v0_17 v0_20 v0_21 v0_22 v0_23 v0_24 v0_25 v0_26 v0_27 v0_28 f1 f2 f3 f4 f5 (upd f6 (Int32.toNatClampNeg (l3 + 1)) l7)) H := hP
        have hD : va_D A (wd_Model_wrongAt kA a0 a1 a2 a3 a4 a5 a6 v0_0 v0_1 v0_2 v0_3 v0_6 v0_7 v0_8 v0_9 v0_10 v0_11 v0_12 v0_15 v0_16 v0_17 v0_20 v0_21 v0_22 v0_23 v0_24 v0_25 v0_26 v0_27 v0_28 f1 f2 f3 f4 f5 (upd f6 (Int32.toNatClampNeg (l3 + 1)) l7)) := hD
        refine lv_iinc (v := (l4 + 1)) (lv' := [(4, .int (l4 + 1)), (3, .int (l3 + 1)), (8, .int s0), (0, .ref a0), (1, .int l1), (2, .int l2), (5, .int l5), (6, .int l6), (7, .int l7)]) hx hb d_Model_wrongAt_111 hl (k := 5) rfl (by rfl) (by decide) rfl (fun ls hl => ?_)
        refine lv_goto (tgt := 179) hx hb d_Model_wrongAt_114 (by decide) ?_
        refine lv_goto (tgt := 12) hx hb d_Model_wrongAt_179 (by decide) ?_
        exact ih.1 l1 l2 (l3 + 1) (l4 + 1) 0 0 0 0 (upd f6 (Int32.toNatClampNeg (l3 + 1)) l7) hF _ _ _ hP hD hS (lv_sub hl [3, 4, 5, 1, 0] rfl)
def S_Model_wrongAt (p1 : Int32) (p2 : Int32) (f1 : (Nat → Int32)) (f2 : (Nat → Int32)) (f3 : (Nat → Int32)) (f4 : (Nat → Int32)) (f5 : (Nat → Int32)) (f6 : (Nat → Int32)) : Option (Int32 × (Nat → Int32)) := (if (0 : Int32) < 0 ∨ 400 ≤ (Int32.toNatClampNeg 0) then none else (F_Model_wrongAt f1 f2 f3 f4 f5 fuel_ 0 p1 p2 0 0 0 0 0 0 (upd f6 (Int32.toNatClampNeg 0) 0)))
set_option maxHeartbeats 4000000 in
set_option maxRecDepth 100000 in
theorem c_Model_wrongAt (l : Launch) (dC : Nat → ClassId) (dI : Nat → Nat → Nat) (kA : Nat → ClassId) (sz : Nat) (a0 a1 a2 a3 a4 a5 a6 : Nat) (v0_0 v0_1 v0_2 v0_3 v0_6 v0_7 v0_8 v0_9 v0_10 v0_11 v0_12 v0_15 v0_16 v0_17 v0_20 v0_21 v0_22 v0_23 v0_24 v0_25 v0_26 v0_27 v0_28 : Value) (p1 : Int32) (p2 : Int32) (f1 : (Nat → Int32)) (f2 : (Nat → Int32)) (f3 : (Nat → Int32)) (f4 : (Nat → Int32)) (f5 : (Nat → Int32)) (f6 : (Nat → Int32)) (r : Int32) (of6 : (Nat → Int32)) (hF : S_Model_wrongAt p1 p2 f1 f2 f3 f4 f5 f6 = some (r, of6)) : Met l y_Model_wrongAt w_Model_wrongAt rm_Model_wrongAt (va_Pc [.ref a0, .int p1, .int p2] (fun U => U.heap.size = sz ∧ va_P (dC, dI) classes (wd_Model_wrongAt kA a0 a1 a2 a3 a4 a5 a6 v0_0 v0_1 v0_2 v0_3 v0_6 v0_7 v0_8 v0_9 v0_10 v0_11 v0_12 v0_15 v0_16 v0_17 v0_20 v0_21 v0_22 v0_23 v0_24 v0_25 v0_26 v0_27 v0_28 f1 f2 f3 f4 f5 f6) U.heap ∧ va_K (dC, dI) classes (tys_ kA) U ∧ va_D (fun _ => True) (wd_Model_wrongAt kA a0 a1 a2 a3 a4 a5 a6 v0_0 v0_1 v0_2 v0_3 v0_6 v0_7 v0_8 v0_9 v0_10 v0_11 v0_12 v0_15 v0_16 v0_17 v0_20 v0_21 v0_22 v0_23 v0_24 v0_25 v0_26 v0_27 v0_28 f1 f2 f3 f4 f5 f6))) (va_Qi (fun (r1 : Int32) (_ : Unit) => r1 = r) (fun _ t => va_P (dC, dI) classes (wd_Model_wrongAt kA a0 a1 a2 a3 a4 a5 a6 v0_0 v0_1 v0_2 v0_3 v0_6 v0_7 v0_8 v0_9 v0_10 v0_11 v0_12 v0_15 v0_16 v0_17 v0_20 v0_21 v0_22 v0_23 v0_24 v0_25 v0_26 v0_27 v0_28 f1 f2 f3 f4 f5 of6) t.heap ∧ va_K (dC, dI) classes (tys_ kA) t ∧ va_D (va_A (wd_Model_wrongAt kA a0 a1 a2 a3 a4 a5 a6 v0_0 v0_1 v0_2 v0_3 v0_6 v0_7 v0_8 v0_9 v0_10 v0_11 v0_12 v0_15 v0_16 v0_17 v0_20 v0_21 v0_22 v0_23 v0_24 v0_25 v0_26 v0_27 v0_28 f1 f2 f3 f4 f5 f6) sz) (wd_Model_wrongAt kA a0 a1 a2 a3 a4 a5 a6 v0_0 v0_1 v0_2 v0_3 v0_6 v0_7 v0_8 v0_9 v0_10 v0_11 v0_12 v0_15 v0_16 v0_17 v0_20 v0_21 v0_22 v0_23 v0_24 v0_25 v0_26 v0_27 v0_28 f1 f2 f3 f4 f5 of6)) (va_A (wd_Model_wrongAt kA a0 a1 a2 a3 a4 a5 a6 v0_0 v0_1 v0_2 v0_3 v0_6 v0_7 v0_8 v0_9 v0_10 v0_11 v0_12 v0_15 v0_16 v0_17 v0_20 v0_21 v0_22 v0_23 v0_24 v0_25 v0_26 v0_27 v0_28 f1 f2 f3 f4 f5 f6) sz)) 0 0 (va_A (wd_Model_wrongAt kA a0 a1 a2 a3 a4 a5 a6 v0_0 v0_1 v0_2 v0_3 v0_6 v0_7 v0_8 v0_9 v0_10 v0_11 v0_12 v0_15 v0_16 v0_17 v0_20 v0_21 v0_22 v0_23 v0_24 v0_25 v0_26 v0_27 v0_28 f1 f2 f3 f4 f5 f6) sz) := by
  refine Met.ofW (cc := b_Model_wrongAt) (maxL := 9) (ret := some .int) (by decide) rfl ?_
  intro p e s m args below meth c s₁ B hml hv
  obtain ⟨rfl, hsz, hP, hK, hD0⟩ := hv
  have hx := B.exec
  have hb := B.bytes
  have hr := B.returns
  have hts := atoms_spec (ws := w_Model_wrongAt) B.pre
  have hown : s.vm.findClass R_Model = some m.cls := findClass_of_methodNamed B.named
  have hg := fun (w : Cond) (h : w ∈ gw) => hts w (List.mem_cons_of_mem _ h)
  have hlocks := B.notSynchronized
  subst hsz
  have hD := hD0.self (sz := s.heap.size)
  generalize hAe : va_A (wd_Model_wrongAt kA a0 a1 a2 a3 a4 a5 a6 v0_0 v0_1 v0_2 v0_3 v0_6 v0_7 v0_8 v0_9 v0_10 v0_11 v0_12 v0_15 v0_16 v0_17 v0_20 v0_21 v0_22 v0_23 v0_24 v0_25 v0_26 v0_27 v0_28 f1 f2 f3 f4 f5 f6) s.heap.size = A at hD ⊢
  have hA : ∀ q : Nat, s.heap.size ≤ q → A q := fun q h => by rw [← hAe]; exact Or.inr h
  have hS : va_S A s.heap s.heap [] := va_S.rf
  have hl := lv_entry ([.ref a0, .int p1, .int p2]) (n := 9) (Nat.le_of_ble_eq_true rfl)
  rw [lg_entry_eq]
  generalize (lg_sl ([.ref a0, .int p1, .int p2]) ++ List.replicate (9 - (lg_sl ([.ref a0, .int p1, .int p2])).length) Slot.unset).toArray = ls at hl ⊢
  have hl : lv_has ls 9 [(0, .ref a0), (1, .int p1), (2, .int p2)] := hl
  unfold S_Model_wrongAt at hF
  have ih := L_Model_wrongAt (l := l) (e := e) (below := below) hx hb hr hlocks hml hown hts hA hK a0 a1 a2 a3 a4 a5 a6 v0_0 v0_1 v0_2 v0_3 v0_6 v0_7 v0_8 v0_9 v0_10 v0_11 v0_12 v0_15 v0_16 v0_17 v0_20 v0_21 v0_22 v0_23 v0_24 v0_25 v0_26 v0_27 v0_28 f1 f2 f3 f4 f5 r of6 fuel_
  refine lv_iconst (v := 0) hx hb d_Model_wrongAt_0 (by decide) ?_
  refine lv_istore_n (lv' := [(3, .int 0), (0, .ref a0), (1, .int p1), (2, .int p2)]) hx hb d_Model_wrongAt_1 rfl hl (by decide) rfl (fun ls hl => ?_)
  refine lv_iconst (v := 0) hx hb d_Model_wrongAt_2 (by decide) ?_
  refine lv_istore (lv' := [(4, .int 0), (3, .int 0), (0, .ref a0), (1, .int p1), (2, .int p2)]) hx hb d_Model_wrongAt_3 hl (by decide) rfl (fun ls hl => ?_)
  refine lv_aload_n hx hb d_Model_wrongAt_5 rfl (lv_at hl 2 rfl) ?_
  refine va_get (D := (dC, dI)) (ci := 9) (v := .ref a6) (C := R_Model) (T := F_Model) (N := 29) hx hb hg iw_Model hown hK hP 0 rfl rfl 19 (by decide) (hg _ gw_324) (fun _ h9 => h9) rfl d_Model_wrongAt_6 ?_
  refine lv_iconst (v := 0) hx hb d_Model_wrongAt_9 (by decide) ?_
  refine lv_iconst (v := 0) hx hb d_Model_wrongAt_10 (by decide) ?_
  obtain ⟨h_19, hF⟩ := rd_chk hF
  refine va_iast hx hb hK hP hD hS 6 0 rfl rfl h_19 d_Model_wrongAt_11 (fun H locs hP hD hS => ?_)
  have hP : va_P (dC, dI) classes (wd_Model_wrongAt kA a0 a1 a2 a3 a4 a5 a6 v0_0 v0_1 v0_2 v0_3 v0_6 v0_7 v0_8 v0_9 v0_10 v0_11 v0_12 v0_15 v0_16 v0_17 v0_20 v0_21 v0_22 v0_23 v0_24 v0_25 v0_26 v0_27 v0_28 f1 f2 f3 f4 f5 (upd f6 (Int32.toNatClampNeg 0) 0)) H := hP
  have hD : va_D A (wd_Model_wrongAt kA a0 a1 a2 a3 a4 a5 a6 v0_0 v0_1 v0_2 v0_3 v0_6 v0_7 v0_8 v0_9 v0_10 v0_11 v0_12 v0_15 v0_16 v0_17 v0_20 v0_21 v0_22 v0_23 v0_24 v0_25 v0_26 v0_27 v0_28 f1 f2 f3 f4 f5 (upd f6 (Int32.toNatClampNeg 0) 0)) := hD
  exact ih.1 p1 p2 0 0 0 0 0 0 (upd f6 (Int32.toNatClampNeg 0) 0) hF _ _ _ hP hD hS (lv_sub hl [2, 3, 4, 1, 0] rfl)
-- ===== RepairDeskModel.text()I
abbrev wd_Model_text (kA : Nat → ClassId) (a0 a1 a2 : Nat) (v0_3 v0_4 v0_5 v0_6 v0_7 v0_8 v0_9 v0_10 v0_11 v0_12 v0_13 v0_14 v0_16 v0_18 v0_19 v0_20 v0_21 v0_24 v0_25 v0_26 v0_27 v0_28 : Value) (x0_0 : Int32) (x0_2 : Int32) (x0_15 : Int32) (x0_22 : Int32) (x0_23 : Int32) (f1 : (Nat → Int32)) (f2 : (Nat → Int32)) : va_W := [(a0, .inr (9, [.int x0_0, .ref a1, .int x0_2, v0_3, v0_4, v0_5, v0_6, v0_7, v0_8, v0_9, v0_10, v0_11, v0_12, v0_13, v0_14, .int x0_15, v0_16, .ref a2, v0_18, v0_19, v0_20, v0_21, .int x0_22, .int x0_23, v0_24, v0_25, v0_26, v0_27, v0_28])), (a1, .inl (kA 2, 10, .inl f1)), (a2, .inl (kA 0, 16, .inl f2))]
abbrev rm_Model_text : Room := { frames := 1, cells := 0, slots := 0, locals := 21 }
def B_Model_text_0 (K : Nat → Int32 → Int32 → Int32 → Int32 → Int32 → Int32 → Int32 → Int32 → (Nat → Int32) → Option (Int32 × Int32 × Int32 × Int32 × Int32 × Int32 × (Nat → Int32))) (f1 : (Nat → Int32)) (l1 : Int32) (l2 : Int32) (l3 : Int32) (x0_0 : Int32) (x0_2 : Int32) (x0_15 : Int32) (x0_22 : Int32) (x0_23 : Int32) (f2 : (Nat → Int32)) : Option (Int32 × Int32 × Int32 × Int32 × Int32 × Int32 × (Nat → Int32)) := (if l1 ≤ l3 then (if ¬ l2 = 0 then (K 1 l1 l2 0 x0_0 x0_2 l1 x0_22 x0_23 f2) else ((S_Model_fails 1 x0_0).bind fun u_3 => (some (u_3.1, u_3.2, x0_2, x0_15, x0_22, x0_23, f2)))) else (if l2 = 0 then (if ¬ l2 = 0 then (K 1 l1 l2 0 x0_0 x0_2 l1 x0_22 x0_23 f2) else ((S_Model_fails 1 x0_0).bind fun u_6 => (some (u_6.1, u_6.2, x0_2, x0_15, x0_22, x0_23, f2)))) else (if (l3 : Int32) < 0 ∨ 10 ≤ (Int32.toNatClampNeg l3) then none else ((S_Model_isLetter (f1 (Int32.toNatClampNeg l3))).bind fun u_8 => (K 0 l1 u_8 (l3 + 1) x0_0 x0_2 x0_15 x0_22 x0_23 f2)))))
def B_Model_text_1 (K : Nat → Int32 → Int32 → Int32 → Int32 → Int32 → Int32 → Int32 → Int32 → (Nat → Int32) → Option (Int32 × Int32 × Int32 × Int32 × Int32 × Int32 × (Nat → Int32))) (f1 : (Nat → Int32)) (l1 : Int32) (l2 : Int32) (l3 : Int32) (x0_0 : Int32) (x0_2 : Int32) (x0_15 : Int32) (x0_22 : Int32) (x0_23 : Int32) (f2 : (Nat → Int32)) : Option (Int32 × Int32 × Int32 × Int32 × Int32 × Int32 × (Nat → Int32)) := (if l1 ≤ l3 then ((S_Model_forget x0_22 x0_23).bind fun u_10 => (some (l1, x0_0, x0_2, x0_15, u_10.1, u_10.2, f2))) else (if (l3 : Int32) < 0 ∨ 10 ≤ (Int32.toNatClampNeg l3) then none else (if (l3 : Int32) < 0 ∨ 16 ≤ (Int32.toNatClampNeg l3) then none else (K 1 l1 l2 (l3 + 1) x0_0 x0_2 x0_15 x0_22 x0_23 (upd f2 (Int32.toNatClampNeg l3) ((f1 (Int32.toNatClampNeg l3)) - 97))))))
def F_Model_text (f1 : (Nat → Int32)) : Nat → Nat → Int32 → Int32 → Int32 → Int32 → Int32 → Int32 → Int32 → Int32 → (Nat → Int32) → Option (Int32 × Int32 × Int32 × Int32 × Int32 × Int32 × (Nat → Int32))
  | 0 => fun _ _ _ _ _ _ _ _ _ _ => none
  | n + 1 => fun hd l1 l2 l3 x0_0 x0_2 x0_15 x0_22 x0_23 f2 => match hd with
    | 0 => B_Model_text_0 (F_Model_text f1 n) f1 l1 l2 l3 x0_0 x0_2 x0_15 x0_22 x0_23 f2
    | 1 => B_Model_text_1 (F_Model_text f1 n) f1 l1 l2 l3 x0_0 x0_2 x0_15 x0_22 x0_23 f2
    | _ => none
set_option maxHeartbeats 4000000 in
set_option maxRecDepth 100000 in
theorem L_Model_text {p : Program} {l : Launch} {e : Env} {s : State} {m : MethodId} {args : Array Value} {below : List Frame} {meth : Method} {c : Code} {A : Nat → Prop} {dC : Nat → ClassId} {dI : Nat → Nat → Nat} {kA : Nat → ClassId} (hx : p.tables.exec = Jvm.exec) (hb : c.code = b_Model_text) (hr : meth.sig.returnType = some .int) (hlocks : meth.locks = false) (hml : c.maxLocals = 4) (hown : s.vm.findClass R_Model = some m.cls) (hts : ∀ w ∈ w_Model_text, w.before args s = true) (hA : ∀ q : Nat, s.heap.size ≤ q → A q) (hK : va_K (dC, dI) classes (tys_ kA) s) (a0 a1 a2 : Nat) (v0_3 v0_4 v0_5 v0_6 v0_7 v0_8 v0_9 v0_10 v0_11 v0_12 v0_13 v0_14 v0_16 v0_18 v0_19 v0_20 v0_21 v0_24 v0_25 v0_26 v0_27 v0_28 : Value) (f1 : (Nat → Int32)) (r : Int32) (ox0_0 : Int32) (ox0_2 : Int32) (ox0_15 : Int32) (ox0_22 : Int32) (ox0_23 : Int32) (of2 : (Nat → Int32)) : ∀ n : Nat, (∀ (l1 l2 l3 : Int32) (x0_0 : Int32) (x0_2 : Int32) (x0_15 : Int32) (x0_22 : Int32) (x0_23 : Int32) (f2 : (Nat → Int32)), F_Model_text f1 n 0 l1 l2 l3 x0_0 x0_2 x0_15 x0_22 x0_23 f2 = some (r, ox0_0, ox0_2, ox0_15, ox0_22, ox0_23, of2) → ∀ (H : Heap) (locs : List Loc) (ls : Array Slot), va_P (dC, dI) classes (wd_Model_text kA a0 a1 a2 v0_3 v0_4 v0_5 v0_6 v0_7 v0_8 v0_9 v0_10 v0_11 v0_12 v0_13 v0_14 v0_16 v0_18 v0_19 v0_20 v0_21 v0_24 v0_25 v0_26 v0_27 v0_28 x0_0 x0_2 x0_15 x0_22 x0_23 f1 f2) H → va_D A (wd_Model_text kA a0 a1 a2 v0_3 v0_4 v0_5 v0_6 v0_7 v0_8 v0_9 v0_10 v0_11 v0_12 v0_13 v0_14 v0_16 v0_18 v0_19 v0_20 v0_21 v0_24 v0_25 v0_26 v0_27 v0_28 x0_0 x0_2 x0_15 x0_22 x0_23 f1 f2) → va_S A s.heap H locs → lv_has ls 4 [(0, .ref a0), (1, .int l1), (2, .int l2), (3, .int l3)] → W p l e (headSpec w_Model_text rm_Model_text).room s m args below meth c H locs 0 0 (MQ below (va_Qi (fun (r1 : Int32) (_ : Unit) => r1 = r) (fun _ t => va_P (dC, dI) classes (wd_Model_text kA a0 a1 a2 v0_3 v0_4 v0_5 v0_6 v0_7 v0_8 v0_9 v0_10 v0_11 v0_12 v0_13 v0_14 v0_16 v0_18 v0_19 v0_20 v0_21 v0_24 v0_25 v0_26 v0_27 v0_28 ox0_0 ox0_2 ox0_15 ox0_22 ox0_23 f1 of2) t.heap ∧ va_K (dC, dI) classes (tys_ kA) t ∧ va_D A (wd_Model_text kA a0 a1 a2 v0_3 v0_4 v0_5 v0_6 v0_7 v0_8 v0_9 v0_10 v0_11 v0_12 v0_13 v0_14 v0_16 v0_18 v0_19 v0_20 v0_21 v0_24 v0_25 v0_26 v0_27 v0_28 ox0_0 ox0_2 ox0_15 ox0_22 ox0_23 f1 of2)) A) args s 0 0 A) (F0 m 29 ls [])) ∧ (∀ (l1 l2 l3 : Int32) (x0_0 : Int32) (x0_2 : Int32) (x0_15 : Int32) (x0_22 : Int32) (x0_23 : Int32) (f2 : (Nat → Int32)), F_Model_text f1 n 1 l1 l2 l3 x0_0 x0_2 x0_15 x0_22 x0_23 f2 = some (r, ox0_0, ox0_2, ox0_15, ox0_22, ox0_23, of2) → ∀ (H : Heap) (locs : List Loc) (ls : Array Slot), va_P (dC, dI) classes (wd_Model_text kA a0 a1 a2 v0_3 v0_4 v0_5 v0_6 v0_7 v0_8 v0_9 v0_10 v0_11 v0_12 v0_13 v0_14 v0_16 v0_18 v0_19 v0_20 v0_21 v0_24 v0_25 v0_26 v0_27 v0_28 x0_0 x0_2 x0_15 x0_22 x0_23 f1 f2) H → va_D A (wd_Model_text kA a0 a1 a2 v0_3 v0_4 v0_5 v0_6 v0_7 v0_8 v0_9 v0_10 v0_11 v0_12 v0_13 v0_14 v0_16 v0_18 v0_19 v0_20 v0_21 v0_24 v0_25 v0_26 v0_27 v0_28 x0_0 x0_2 x0_15 x0_22 x0_23 f1 f2) → va_S A s.heap H locs → lv_has ls 4 [(0, .ref a0), (1, .int l1), (2, .int l2), (3, .int l3)] → W p l e (headSpec w_Model_text rm_Model_text).room s m args below meth c H locs 0 0 (MQ below (va_Qi (fun (r1 : Int32) (_ : Unit) => r1 = r) (fun _ t => va_P (dC, dI) classes (wd_Model_text kA a0 a1 a2 v0_3 v0_4 v0_5 v0_6 v0_7 v0_8 v0_9 v0_10 v0_11 v0_12 v0_13 v0_14 v0_16 v0_18 v0_19 v0_20 v0_21 v0_24 v0_25 v0_26 v0_27 v0_28 ox0_0 ox0_2 ox0_15 ox0_22 ox0_23 f1 of2) t.heap ∧ va_K (dC, dI) classes (tys_ kA) t ∧ va_D A (wd_Model_text kA a0 a1 a2 v0_3 v0_4 v0_5 v0_6 v0_7 v0_8 v0_9 v0_10 v0_11 v0_12 v0_13 v0_14 v0_16 v0_18 v0_19 v0_20 v0_21 v0_24 v0_25 v0_26 v0_27 v0_28 ox0_0 ox0_2 ox0_15 ox0_22 ox0_23 f1 of2)) A) args s 0 0 A) (F0 m 71 ls [])) := by
  have hg := fun (w : Cond) (h : w ∈ gw) => hts w (List.mem_cons_of_mem _ h)
  intro n
  induction n with
  | zero =>
    exact ⟨fun _ _ _ _ _ _ _ _ _ hF => absurd (show (none : Option _) = some _ from hF) (fun z => by cases z), fun _ _ _ _ _ _ _ _ _ hF => absurd (show (none : Option _) = some _ from hF) (fun z => by cases z)⟩
  | succ n ih =>
    refine ⟨?_, ?_⟩
    · intro l1 l2 l3 x0_0 x0_2 x0_15 x0_22 x0_23 f2 hF H locs ls hP hD hS hl
      have hF : B_Model_text_0 (F_Model_text f1 n) f1 l1 l2 l3 x0_0 x0_2 x0_15 x0_22 x0_23 f2 = some (r, ox0_0, ox0_2, ox0_15, ox0_22, ox0_23, of2) := hF
      unfold B_Model_text_0 at hF
      refine lv_iload_n hx hb d_Model_text_29 rfl (lv_at hl 3 rfl) ?_
      refine lv_iload_n hx hb d_Model_text_30 rfl (lv_at hl 1 rfl) ?_
      refine lv_icmp_ge (tgt := 54) hx hb d_Model_text_31 (by decide) (fun c_1 => ?_) (fun c_1 => ?_)
      · rw [if_pos c_1] at hF
        refine lv_iload_n hx hb d_Model_text_54 rfl (lv_at hl 2 rfl) ?_
        refine lv_if_ne (tgt := 64) hx hb d_Model_text_55 (by decide) (fun c_2 => ?_) (fun c_2 => ?_)
        · rw [if_pos c_2] at hF
          refine lv_aload_n hx hb d_Model_text_64 rfl (lv_at hl 0 rfl) ?_
          refine lv_iload_n hx hb d_Model_text_65 rfl (lv_at hl 1 rfl) ?_
          refine va_put (D := (dC, dI)) (ci := 9) (v := .int l1) (ty := .int) (C := R_Model) (T := F_Model) (N := 29) hx hb hg iw_Model t_Model t_Model_ok n_Model hown hK hP hD hS 0 rfl rfl 15 (by decide) (hg _ gw_329) (fun _ h9 => h9) rfl (by decide +kernel) rfl rfl (Nat.le_of_ble_eq_true rfl) d_Model_text_66 (fun H locs hP hD hS => ?_)
          have hP : va_P (dC, dI) classes (wd_Model_text kA a0 a1 a2 v0_3 v0_4 v0_5 v0_6 v0_7 v0_8 v0_9 v0_10 v0_11 v0_12 v0_13 v0_14 v0_16 v0_18 v0_19 v0_20 v0_21 v0_24 v0_25 v0_26 v0_27 v0_28 x0_0 x0_2 l1 x0_22 x0_23 f1 f2) H := hP
          have hD : va_D A (wd_Model_text kA a0 a1 a2 v0_3 v0_4 v0_5 v0_6 v0_7 v0_8 v0_9 v0_10 v0_11 v0_12 v0_13 v0_14 v0_16 v0_18 v0_19 v0_20 v0_21 v0_24 v0_25 v0_26 v0_27 v0_28 x0_0 x0_2 l1 x0_22 x0_23 f1 f2) := hD
          refine lv_iconst (v := 0) hx hb d_Model_text_69 (by decide) ?_
          refine lv_istore_n (lv' := [(3, .int 0), (0, .ref a0), (1, .int l1), (2, .int l2)]) hx hb d_Model_text_70 rfl hl (by decide) rfl (fun ls hl => ?_)
          exact ih.2 l1 l2 0 x0_0 x0_2 l1 x0_22 x0_23 f2 hF _ _ _ hP hD hS (lv_sub hl [1, 2, 3, 0] rfl)
        · rw [if_neg (fun z => z c_2)] at hF
          refine lv_aload_n hx hb d_Model_text_58 rfl (lv_at hl 0 rfl) ?_
          refine lv_iconst (v := 1) hx hb d_Model_text_59 (by decide) ?_
          obtain ⟨u_3, hS_3, hF⟩ := rd_bind hF
          have hPc := hP.sub (ws' := (wd_Model_fails kA a0 (.ref a1) (.int x0_2) v0_3 v0_4 v0_5 v0_6 v0_7 v0_8 v0_9 v0_10 v0_11 v0_12 v0_13 v0_14 (.int x0_15) v0_16 (.ref a2) v0_18 v0_19 v0_20 v0_21 (.int x0_22) (.int x0_23) v0_24 v0_25 v0_26 v0_27 v0_28 x0_0)) [0] rfl
          have hDc := hD.sub (ws' := (wd_Model_fails kA a0 (.ref a1) (.int x0_2) v0_3 v0_4 v0_5 v0_6 v0_7 v0_8 v0_9 v0_10 v0_11 v0_12 v0_13 v0_14 (.int x0_15) v0_16 (.ref a2) v0_18 v0_19 v0_20 v0_21 (.int x0_22) (.int x0_23) v0_24 v0_25 v0_26 v0_27 v0_28 x0_0)) [0] (by decide) rfl
          have hFc := va_free (wc := (wd_Model_fails kA a0 (.ref a1) (.int x0_2) v0_3 v0_4 v0_5 v0_6 v0_7 v0_8 v0_9 v0_10 v0_11 v0_12 v0_13 v0_14 (.int x0_15) v0_16 (.ref a2) v0_18 v0_19 v0_20 v0_21 (.int x0_22) (.int x0_23) v0_24 v0_25 v0_26 v0_27 v0_28 x0_0)) hD hS hA [0] rfl
          refine va_calli (va_runV (As := [.int 1]) (rest := []) ⟨hx, hb, hml, hown, hts⟩ (c_Model_fails l dC dI kA H.size a0 (.ref a1) (.int x0_2) v0_3 v0_4 v0_5 v0_6 v0_7 v0_8 v0_9 v0_10 v0_11 v0_12 v0_13 v0_14 (.int x0_15) v0_16 (.ref a2) v0_18 v0_19 v0_20 v0_21 (.int x0_22) (.int x0_23) v0_24 v0_25 v0_26 v0_27 v0_28 1 x0_0 u_3.1 u_3.2 hS_3) (cwV 1 hts (gw_V gw_264 gw_265 gw_266 gw_267 gw_268) rfl rfl rfl (by decide +kernel) ⟨Nat.le_of_ble_eq_true rfl, Nat.le_of_ble_eq_true rfl⟩) ⟨fun a U g mk q => by obtain ⟨q0, q1, qP, qK, qD⟩ := q; exact ⟨q0, q1, qP, va_K.moved (u := U) (U := U.calling g mk a) (Vm.Alike.refl U.vm) qK, qD⟩, va_recv hK hP (ci := 9) (q0 := 0) rfl rfl, fun U hU hW => ⟨rfl, by rw [hU], by rw [hU]; exact hPc, va_K.moved hW.alike hK, hDc.weaken (fun _ _ _ _ => trivial)⟩⟩ rfl rfl hl.1 rfl (lv_room (Nat.le_of_ble_eq_true rfl)) d_Model_text_60 ⟨Nat.zero_le _, Nat.zero_le _⟩) hS (fun q _ h => hFc q h) hFc (fun r1 u t H1 locs ht hvm hw hB hz1 hk1 hS => ?_)
          rw [show r1 = _ from hw]
          obtain ⟨hP1, hK1, hD1⟩ := hB
          rw [ht] at hP1
          obtain ⟨hP, hD⟩ := va_join (wr := [(a1, .inl (kA 2, 10, .inl f1)), (a2, .inl (kA 0, 16, .inl f2))]) (w1 := (wd_Model_fails kA a0 (.ref a1) (.int x0_2) v0_3 v0_4 v0_5 v0_6 v0_7 v0_8 v0_9 v0_10 v0_11 v0_12 v0_13 v0_14 (.int x0_15) v0_16 (.ref a2) v0_18 v0_19 v0_20 v0_21 (.int x0_22) (.int x0_23) v0_24 v0_25 v0_26 v0_27 v0_28 u_3.2)) hP hD [0] [1, 2] rfl rfl (by decide) (by decide) hk1 hFc hP1 hD1
          have hP := hP.sub (ws' := (wd_Model_text kA a0 a1 a2 v0_3 v0_4 v0_5 v0_6 v0_7 v0_8 v0_9 v0_10 v0_11 v0_12 v0_13 v0_14 v0_16 v0_18 v0_19 v0_20 v0_21 v0_24 v0_25 v0_26 v0_27 v0_28 u_3.2 x0_2 x0_15 x0_22 x0_23 f1 f2)) [2, 0, 1] rfl
          have hD := hD.sub (ws' := (wd_Model_text kA a0 a1 a2 v0_3 v0_4 v0_5 v0_6 v0_7 v0_8 v0_9 v0_10 v0_11 v0_12 v0_13 v0_14 v0_16 v0_18 v0_19 v0_20 v0_21 v0_24 v0_25 v0_26 v0_27 v0_28 u_3.2 x0_2 x0_15 x0_22 x0_23 f1 f2)) [2, 0, 1] (by decide) rfl
          clear hPc hDc hFc hP1 hK1 hD1
          generalize H1 = H at hP hS ⊢
          have e0 := Option.some.inj hF
          have q0 := Prod.mk.inj e0
          have q1 := Prod.mk.inj q0.2
          have q2 := Prod.mk.inj q1.2
          have q3 := Prod.mk.inj q2.2
          have q4 := Prod.mk.inj q3.2
          have q5 := Prod.mk.inj q4.2
          exact W.iret (v := u_3.1) hx hb hr (fun t ht hW => ⟨⟨u_3.1, (), rfl, q0.1, by rw [ht, ← q1.1, ← q2.1, ← q3.1, ← q4.1, ← q5.1, ← q5.2]; exact hP, va_K.moved hW.alike hK, (by rw [← q1.1, ← q2.1, ← q3.1, ← q4.1, ← q5.1, ← q5.2]; exact hD)⟩, hS.F ht⟩) hS.2.2 d_Model_text_63 hlocks
      · rw [if_neg c_1] at hF
        refine lv_iload_n hx hb d_Model_text_34 rfl (lv_at hl 2 rfl) ?_
        refine lv_if_eq (tgt := 54) hx hb d_Model_text_35 (by decide) (fun c_4 => ?_) (fun c_4 => ?_)
        · rw [if_pos c_4] at hF
          refine lv_iload_n hx hb d_Model_text_54 rfl (lv_at hl 2 rfl) ?_
          refine lv_if_ne (tgt := 64) hx hb d_Model_text_55 (by decide) (fun c_5 => ?_) (fun c_5 => ?_)
          · rw [if_pos c_5] at hF
            refine lv_aload_n hx hb d_Model_text_64 rfl (lv_at hl 0 rfl) ?_
            refine lv_iload_n hx hb d_Model_text_65 rfl (lv_at hl 1 rfl) ?_
            refine va_put (D := (dC, dI)) (ci := 9) (v := .int l1) (ty := .int) (C := R_Model) (T := F_Model) (N := 29) hx hb hg iw_Model t_Model t_Model_ok n_Model hown hK hP hD hS 0 rfl rfl 15 (by decide) (hg _ gw_329) (fun _ h9 => h9) rfl (by decide +kernel) rfl rfl (Nat.le_of_ble_eq_true rfl) d_Model_text_66 (fun H locs hP hD hS => ?_)
            have hP : va_P (dC, dI) classes (wd_Model_text kA a0 a1 a2 v0_3 v0_4 v0_5 v0_6 v0_7 v0_8 v0_9 v0_10 v0_11 v0_12 v0_13 v0_14 v0_16 v0_18 v0_19 v0_20 v0_21 v0_24 v0_25 v0_26 v0_27 v0_28 x0_0 x0_2 l1 x0_22 x0_23 f1 f2) H := hP
            have hD : va_D A (wd_Model_text kA a0 a1 a2 v0_3 v0_4 v0_5 v0_6 v0_7 v0_8 v0_9 v0_10 v0_11 v0_12 v0_13 v0_14 v0_16 v0_18 v0_19 v0_20 v0_21 v0_24 v0_25 v0_26 v0_27 v0_28 x0_0 x0_2 l1 x0_22 x0_23 f1 f2) := hD
            refine lv_iconst (v := 0) hx hb d_Model_text_69 (by decide) ?_
            refine lv_istore_n (lv' := [(3, .int 0), (0, .ref a0), (1, .int l1), (2, .int l2)]) hx hb d_Model_text_70 rfl hl (by decide) rfl (fun ls hl => ?_)
            exact ih.2 l1 l2 0 x0_0 x0_2 l1 x0_22 x0_23 f2 hF _ _ _ hP hD hS (lv_sub hl [1, 2, 3, 0] rfl)
          · rw [if_neg (fun z => z c_5)] at hF
            refine lv_aload_n hx hb d_Model_text_58 rfl (lv_at hl 0 rfl) ?_
            refine lv_iconst (v := 1) hx hb d_Model_text_59 (by decide) ?_
            obtain ⟨u_6, hS_6, hF⟩ := rd_bind hF
            have hPc := hP.sub (ws' := (wd_Model_fails kA a0 (.ref a1) (.int x0_2) v0_3 v0_4 v0_5 v0_6 v0_7 v0_8 v0_9 v0_10 v0_11 v0_12 v0_13 v0_14 (.int x0_15) v0_16 (.ref a2) v0_18 v0_19 v0_20 v0_21 (.int x0_22) (.int x0_23) v0_24 v0_25 v0_26 v0_27 v0_28 x0_0)) [0] rfl
            have hDc := hD.sub (ws' := (wd_Model_fails kA a0 (.ref a1) (.int x0_2) v0_3 v0_4 v0_5 v0_6 v0_7 v0_8 v0_9 v0_10 v0_11 v0_12 v0_13 v0_14 (.int x0_15) v0_16 (.ref a2) v0_18 v0_19 v0_20 v0_21 (.int x0_22) (.int x0_23) v0_24 v0_25 v0_26 v0_27 v0_28 x0_0)) [0] (by decide) rfl
            have hFc := va_free (wc := (wd_Model_fails kA a0 (.ref a1) (.int x0_2) v0_3 v0_4 v0_5 v0_6 v0_7 v0_8 v0_9 v0_10 v0_11 v0_12 v0_13 v0_14 (.int x0_15) v0_16 (.ref a2) v0_18 v0_19 v0_20 v0_21 (.int x0_22) (.int x0_23) v0_24 v0_25 v0_26 v0_27 v0_28 x0_0)) hD hS hA [0] rfl
            refine va_calli (va_runV (As := [.int 1]) (rest := []) ⟨hx, hb, hml, hown, hts⟩ (c_Model_fails l dC dI kA H.size a0 (.ref a1) (.int x0_2) v0_3 v0_4 v0_5 v0_6 v0_7 v0_8 v0_9 v0_10 v0_11 v0_12 v0_13 v0_14 (.int x0_15) v0_16 (.ref a2) v0_18 v0_19 v0_20 v0_21 (.int x0_22) (.int x0_23) v0_24 v0_25 v0_26 v0_27 v0_28 1 x0_0 u_6.1 u_6.2 hS_6) (cwV 1 hts (gw_V gw_264 gw_265 gw_266 gw_267 gw_268) rfl rfl rfl (by decide +kernel) ⟨Nat.le_of_ble_eq_true rfl, Nat.le_of_ble_eq_true rfl⟩) ⟨fun a U g mk q => by obtain ⟨q0, q1, qP, qK, qD⟩ := q; exact ⟨q0, q1, qP, va_K.moved (u := U) (U := U.calling g mk a) (Vm.Alike.refl U.vm) qK, qD⟩, va_recv hK hP (ci := 9) (q0 := 0) rfl rfl, fun U hU hW => ⟨rfl, by rw [hU], by rw [hU]; exact hPc, va_K.moved hW.alike hK, hDc.weaken (fun _ _ _ _ => trivial)⟩⟩ rfl rfl hl.1 rfl (lv_room (Nat.le_of_ble_eq_true rfl)) d_Model_text_60 ⟨Nat.zero_le _, Nat.zero_le _⟩) hS (fun q _ h => hFc q h) hFc (fun r1 u t H1 locs ht hvm hw hB hz1 hk1 hS => ?_)
            rw [show r1 = _ from hw]
            obtain ⟨hP1, hK1, hD1⟩ := hB
            rw [ht] at hP1
            obtain ⟨hP, hD⟩ := va_join (wr := [(a1, .inl (kA 2, 10, .inl f1)), (a2, .inl (kA 0, 16, .inl f2))]) (w1 := (wd_Model_fails kA a0 (.ref a1) (.int x0_2) v0_3 v0_4 v0_5 v0_6 v0_7 v0_8 v0_9 v0_10 v0_11 v0_12 v0_13 v0_14 (.int x0_15) v0_16 (.ref a2) v0_18 v0_19 v0_20 v0_21 (.int x0_22) (.int x0_23) v0_24 v0_25 v0_26 v0_27 v0_28 u_6.2)) hP hD [0] [1, 2] rfl rfl (by decide) (by decide) hk1 hFc hP1 hD1
            have hP := hP.sub (ws' := (wd_Model_text kA a0 a1 a2 v0_3 v0_4 v0_5 v0_6 v0_7 v0_8 v0_9 v0_10 v0_11 v0_12 v0_13 v0_14 v0_16 v0_18 v0_19 v0_20 v0_21 v0_24 v0_25 v0_26 v0_27 v0_28 u_6.2 x0_2 x0_15 x0_22 x0_23 f1 f2)) [2, 0, 1] rfl
            have hD := hD.sub (ws' := (wd_Model_text kA a0 a1 a2 v0_3 v0_4 v0_5 v0_6 v0_7 v0_8 v0_9 v0_10 v0_11 v0_12 v0_13 v0_14 v0_16 v0_18 v0_19 v0_20 v0_21 v0_24 v0_25 v0_26 v0_27 v0_28 u_6.2 x0_2 x0_15 x0_22 x0_23 f1 f2)) [2, 0, 1] (by decide) rfl
            clear hPc hDc hFc hP1 hK1 hD1
            generalize H1 = H at hP hS ⊢
            have e0 := Option.some.inj hF
            have q0 := Prod.mk.inj e0
            have q1 := Prod.mk.inj q0.2
            have q2 := Prod.mk.inj q1.2
            have q3 := Prod.mk.inj q2.2
            have q4 := Prod.mk.inj q3.2
            have q5 := Prod.mk.inj q4.2
            exact W.iret (v := u_6.1) hx hb hr (fun t ht hW => ⟨⟨u_6.1, (), rfl, q0.1, by rw [ht, ← q1.1, ← q2.1, ← q3.1, ← q4.1, ← q5.1, ← q5.2]; exact hP, va_K.moved hW.alike hK, (by rw [← q1.1, ← q2.1, ← q3.1, ← q4.1, ← q5.1, ← q5.2]; exact hD)⟩, hS.F ht⟩) hS.2.2 d_Model_text_63 hlocks
        · rw [if_neg c_4] at hF
          refine lv_aload_n hx hb d_Model_text_38 rfl (lv_at hl 0 rfl) ?_
          refine va_get (D := (dC, dI)) (ci := 9) (v := .ref a1) (C := R_Model) (T := F_Model) (N := 29) hx hb hg iw_Model hown hK hP 0 rfl rfl 1 (by decide) (hg _ gw_261) (fun _ h9 => h9) rfl d_Model_text_39 ?_
          refine lv_iload_n hx hb d_Model_text_42 rfl (lv_at hl 3 rfl) ?_
          obtain ⟨h_7, hF⟩ := rd_chk hF
          refine va_cald hx hb hK hP 1 2 rfl rfl h_7 d_Model_text_43 ?_
          obtain ⟨u_8, hS_8, hF⟩ := rd_bind hF
          have hPc := hP.sub (ws' := (wd_Model_isLetter kA )) [] rfl
          have hDc := hD.sub (ws' := (wd_Model_isLetter kA )) [] (by decide) rfl
          have hFc := va_free (wc := (wd_Model_isLetter kA )) hD hS hA [] rfl
          refine va_calli (va_runS (As := [.int (f1 (Int32.toNatClampNeg l3))]) (rest := []) ⟨hx, hb, hml, hown, hts⟩ (c_Model_isLetter l dC dI kA H.size (f1 (Int32.toNatClampNeg l3)) u_8 hS_8) (cwS 1 hts (gw_S gw_269 gw_270 gw_267 gw_271) rfl rfl rfl (by decide +kernel) ⟨Nat.le_of_ble_eq_true rfl, Nat.le_of_ble_eq_true rfl⟩) ⟨fun a U g mk q => by obtain ⟨q0, q1, qP, qK, qD⟩ := q; exact ⟨q0, q1, qP, va_K.moved (u := U) (U := U.calling g mk a) (Vm.Alike.refl U.vm) qK, qD⟩, fun U hU hW => ⟨rfl, by rw [hU], by rw [hU]; exact hPc, va_K.moved hW.alike hK, hDc.weaken (fun _ _ _ _ => trivial)⟩⟩ rfl rfl hl.1 rfl (lv_room (Nat.le_of_ble_eq_true rfl)) d_Model_text_44 ⟨Nat.zero_le _, Nat.zero_le _⟩) hS (fun q _ h => hFc q h) hFc (fun r1 u t H1 locs ht hvm hw hB hz1 hk1 hS => ?_)
          rw [show r1 = _ from hw]
          obtain ⟨hP1, hK1, hD1⟩ := hB
          rw [ht] at hP1
          obtain ⟨hP, hD⟩ := va_join (wr := [(a0, .inr (9, [.int x0_0, .ref a1, .int x0_2, v0_3, v0_4, v0_5, v0_6, v0_7, v0_8, v0_9, v0_10, v0_11, v0_12, v0_13, v0_14, .int x0_15, v0_16, .ref a2, v0_18, v0_19, v0_20, v0_21, .int x0_22, .int x0_23, v0_24, v0_25, v0_26, v0_27, v0_28])), (a1, .inl (kA 2, 10, .inl f1)), (a2, .inl (kA 0, 16, .inl f2))]) (w1 := (wd_Model_isLetter kA )) hP hD [] [0, 1, 2] rfl rfl (by decide) (by decide) hk1 hFc hP1 hD1
          have hP := hP.sub (ws' := (wd_Model_text kA a0 a1 a2 v0_3 v0_4 v0_5 v0_6 v0_7 v0_8 v0_9 v0_10 v0_11 v0_12 v0_13 v0_14 v0_16 v0_18 v0_19 v0_20 v0_21 v0_24 v0_25 v0_26 v0_27 v0_28 x0_0 x0_2 x0_15 x0_22 x0_23 f1 f2)) [0, 1, 2] rfl
          have hD := hD.sub (ws' := (wd_Model_text kA a0 a1 a2 v0_3 v0_4 v0_5 v0_6 v0_7 v0_8 v0_9 v0_10 v0_11 v0_12 v0_13 v0_14 v0_16 v0_18 v0_19 v0_20 v0_21 v0_24 v0_25 v0_26 v0_27 v0_28 x0_0 x0_2 x0_15 x0_22 x0_23 f1 f2)) [0, 1, 2] (by decide) rfl
          clear hPc hDc hFc hP1 hK1 hD1
          generalize H1 = H at hP hS ⊢
          refine lv_istore_n (lv' := [(2, .int u_8), (0, .ref a0), (1, .int l1), (3, .int l3)]) hx hb d_Model_text_47 rfl hl (by decide) rfl (fun ls hl => ?_)
          refine lv_iinc (v := (l3 + 1)) (lv' := [(3, .int (l3 + 1)), (2, .int u_8), (0, .ref a0), (1, .int l1)]) hx hb d_Model_text_48 hl (k := 3) rfl (by rfl) (by decide) rfl (fun ls hl => ?_)
          refine lv_goto (tgt := 29) hx hb d_Model_text_51 (by decide) ?_
          exact ih.1 l1 u_8 (l3 + 1) x0_0 x0_2 x0_15 x0_22 x0_23 f2 hF _ _ _ hP hD hS (lv_sub hl [2, 3, 1, 0] rfl)
    · intro l1 l2 l3 x0_0 x0_2 x0_15 x0_22 x0_23 f2 hF H locs ls hP hD hS hl
      have hF : B_Model_text_1 (F_Model_text f1 n) f1 l1 l2 l3 x0_0 x0_2 x0_15 x0_22 x0_23 f2 = some (r, ox0_0, ox0_2, ox0_15, ox0_22, ox0_23, of2) := hF
      unfold B_Model_text_1 at hF
      refine lv_iload_n hx hb d_Model_text_71 rfl (lv_at hl 3 rfl) ?_
      refine lv_iload_n hx hb d_Model_text_72 rfl (lv_at hl 1 rfl) ?_
      refine lv_icmp_ge (tgt := 97) hx hb d_Model_text_73 (by decide) (fun c_9 => ?_) (fun c_9 => ?_)
      · rw [if_pos c_9] at hF
        refine lv_aload_n hx hb d_Model_text_97 rfl (lv_at hl 0 rfl) ?_
        obtain ⟨u_10, hS_10, hF⟩ := rd_bind hF
        have hPc := hP.sub (ws' := (wd_Model_forget kA a0 (.int x0_0) (.ref a1) (.int x0_2) v0_3 v0_4 v0_5 v0_6 v0_7 v0_8 v0_9 v0_10 v0_11 v0_12 v0_13 v0_14 (.int x0_15) v0_16 (.ref a2) v0_18 v0_19 v0_20 v0_21 v0_24 v0_25 v0_26 v0_27 v0_28 x0_22 x0_23)) [0] rfl
        have hDc := hD.sub (ws' := (wd_Model_forget kA a0 (.int x0_0) (.ref a1) (.int x0_2) v0_3 v0_4 v0_5 v0_6 v0_7 v0_8 v0_9 v0_10 v0_11 v0_12 v0_13 v0_14 (.int x0_15) v0_16 (.ref a2) v0_18 v0_19 v0_20 v0_21 v0_24 v0_25 v0_26 v0_27 v0_28 x0_22 x0_23)) [0] (by decide) rfl
        have hFc := va_free (wc := (wd_Model_forget kA a0 (.int x0_0) (.ref a1) (.int x0_2) v0_3 v0_4 v0_5 v0_6 v0_7 v0_8 v0_9 v0_10 v0_11 v0_12 v0_13 v0_14 (.int x0_15) v0_16 (.ref a2) v0_18 v0_19 v0_20 v0_21 v0_24 v0_25 v0_26 v0_27 v0_28 x0_22 x0_23)) hD hS hA [0] rfl
        refine va_callv (va_runV (As := []) (rest := []) ⟨hx, hb, hml, hown, hts⟩ (c_Model_forget l dC dI kA H.size a0 (.int x0_0) (.ref a1) (.int x0_2) v0_3 v0_4 v0_5 v0_6 v0_7 v0_8 v0_9 v0_10 v0_11 v0_12 v0_13 v0_14 (.int x0_15) v0_16 (.ref a2) v0_18 v0_19 v0_20 v0_21 v0_24 v0_25 v0_26 v0_27 v0_28 x0_22 x0_23 u_10.1 u_10.2 hS_10) (cwV 0 hts (gw_V gw_281 gw_282 gw_283 gw_267 gw_284) rfl rfl rfl (by decide +kernel) ⟨Nat.le_of_ble_eq_true rfl, Nat.le_of_ble_eq_true rfl⟩) ⟨fun a U g mk q => by obtain ⟨q0, q1, qP, qK, qD⟩ := q; exact ⟨q0, q1, qP, va_K.moved (u := U) (U := U.calling g mk a) (Vm.Alike.refl U.vm) qK, qD⟩, va_recv hK hP (ci := 9) (q0 := 0) rfl rfl, fun U hU hW => ⟨rfl, by rw [hU], by rw [hU]; exact hPc, va_K.moved hW.alike hK, hDc.weaken (fun _ _ _ _ => trivial)⟩⟩ rfl rfl hl.1 rfl (lv_room (Nat.le_of_ble_eq_true rfl)) d_Model_text_98 ⟨Nat.zero_le _, Nat.zero_le _⟩) hS (fun q _ h => hFc q h) hFc (fun u t H1 locs ht hvm hw hB hz1 hk1 hS => ?_)
        obtain ⟨hP1, hK1, hD1⟩ := hB
        rw [ht] at hP1
        obtain ⟨hP, hD⟩ := va_join (wr := [(a1, .inl (kA 2, 10, .inl f1)), (a2, .inl (kA 0, 16, .inl f2))]) (w1 := (wd_Model_forget kA a0 (.int x0_0) (.ref a1) (.int x0_2) v0_3 v0_4 v0_5 v0_6 v0_7 v0_8 v0_9 v0_10 v0_11 v0_12 v0_13 v0_14 (.int x0_15) v0_16 (.ref a2) v0_18 v0_19 v0_20 v0_21 v0_24 v0_25 v0_26 v0_27 v0_28 u_10.1 u_10.2)) hP hD [0] [1, 2] rfl rfl (by decide) (by decide) hk1 hFc hP1 hD1
        have hP := hP.sub (ws' := (wd_Model_text kA a0 a1 a2 v0_3 v0_4 v0_5 v0_6 v0_7 v0_8 v0_9 v0_10 v0_11 v0_12 v0_13 v0_14 v0_16 v0_18 v0_19 v0_20 v0_21 v0_24 v0_25 v0_26 v0_27 v0_28 x0_0 x0_2 x0_15 u_10.1 u_10.2 f1 f2)) [2, 0, 1] rfl
        have hD := hD.sub (ws' := (wd_Model_text kA a0 a1 a2 v0_3 v0_4 v0_5 v0_6 v0_7 v0_8 v0_9 v0_10 v0_11 v0_12 v0_13 v0_14 v0_16 v0_18 v0_19 v0_20 v0_21 v0_24 v0_25 v0_26 v0_27 v0_28 x0_0 x0_2 x0_15 u_10.1 u_10.2 f1 f2)) [2, 0, 1] (by decide) rfl
        clear hPc hDc hFc hP1 hK1 hD1
        generalize H1 = H at hP hS ⊢
        refine lv_iload_n hx hb d_Model_text_101 rfl (lv_at hl 1 rfl) ?_
        have e0 := Option.some.inj hF
        have q0 := Prod.mk.inj e0
        have q1 := Prod.mk.inj q0.2
        have q2 := Prod.mk.inj q1.2
        have q3 := Prod.mk.inj q2.2
        have q4 := Prod.mk.inj q3.2
        have q5 := Prod.mk.inj q4.2
        exact W.iret (v := l1) hx hb hr (fun t ht hW => ⟨⟨l1, (), rfl, q0.1, by rw [ht, ← q1.1, ← q2.1, ← q3.1, ← q4.1, ← q5.1, ← q5.2]; exact hP, va_K.moved hW.alike hK, (by rw [← q1.1, ← q2.1, ← q3.1, ← q4.1, ← q5.1, ← q5.2]; exact hD)⟩, hS.F ht⟩) hS.2.2 d_Model_text_102 hlocks
      · rw [if_neg c_9] at hF
        refine lv_aload_n hx hb d_Model_text_76 rfl (lv_at hl 0 rfl) ?_
        refine va_get (D := (dC, dI)) (ci := 9) (v := .ref a2) (C := R_Model) (T := F_Model) (N := 29) hx hb hg iw_Model hown hK hP 0 rfl rfl 17 (by decide) (hg _ gw_330) (fun _ h9 => h9) rfl d_Model_text_77 ?_
        refine lv_iload_n hx hb d_Model_text_80 rfl (lv_at hl 3 rfl) ?_
        refine lv_aload_n hx hb d_Model_text_81 rfl (lv_at hl 0 rfl) ?_
        refine va_get (D := (dC, dI)) (ci := 9) (v := .ref a1) (C := R_Model) (T := F_Model) (N := 29) hx hb hg iw_Model hown hK hP 0 rfl rfl 1 (by decide) (hg _ gw_261) (fun _ h9 => h9) rfl d_Model_text_82 ?_
        refine lv_iload_n hx hb d_Model_text_85 rfl (lv_at hl 3 rfl) ?_
        obtain ⟨h_11, hF⟩ := rd_chk hF
        refine va_cald hx hb hK hP 1 2 rfl rfl h_11 d_Model_text_86 ?_
        refine lv_bipush (v := 97) hx hb d_Model_text_87 (by decide) ?_
        refine lv_isub hx hb d_Model_text_89 ?_
        obtain ⟨h_12, hF⟩ := rd_chk hF
        refine va_iast hx hb hK hP hD hS 2 0 rfl rfl h_12 d_Model_text_90 (fun H locs hP hD hS => ?_)
        have hP : va_P (dC, dI) classes (wd_Model_text kA a0 a1 a2 v0_3 v0_4 v0_5 v0_6 v0_7 v0_8 v0_9 v0_10 v0_11 v0_12 v0_13 v0_14 v0_16 v0_18 v0_19 v0_20 v0_21 v0_24 v0_25 v0_26 v0_27 v0_28 x0_0 x0_2 x0_15 x0_22 x0_23 f1 (upd f2 (Int32.toNatClampNeg l3) ((f1 (Int32.toNatClampNeg l3)) - 97))) H := hP
        have hD : va_D A (wd_Model_text kA a0 a1 a2 v0_3 v0_4 v0_5 v0_6 v0_7 v0_8 v0_9 v0_10 v0_11 v0_12 v0_13 v0_14 v0_16 v0_18 v0_19 v0_20 v0_21 v0_24 v0_25 v0_26 v0_27 v0_28 x0_0 x0_2 x0_15 x0_22 x0_23 f1 (upd f2 (Int32.toNatClampNeg l3) ((f1 (Int32.toNatClampNeg l3)) - 97))) := hD
        refine lv_iinc (v := (l3 + 1)) (lv' := [(3, .int (l3 + 1)), (0, .ref a0), (1, .int l1), (2, .int l2)]) hx hb d_Model_text_91 hl (k := 3) rfl (by rfl) (by decide) rfl (fun ls hl => ?_)
        refine lv_goto (tgt := 71) hx hb d_Model_text_94 (by decide) ?_
        exact ih.2 l1 l2 (l3 + 1) x0_0 x0_2 x0_15 x0_22 x0_23 (upd f2 (Int32.toNatClampNeg l3) ((f1 (Int32.toNatClampNeg l3)) - 97)) hF _ _ _ hP hD hS (lv_sub hl [1, 2, 3, 0] rfl)
def S_Model_text (x0_0 : Int32) (x0_2 : Int32) (x0_15 : Int32) (x0_22 : Int32) (x0_23 : Int32) (f1 : (Nat → Int32)) (f2 : (Nat → Int32)) : Option (Int32 × Int32 × Int32 × Int32 × Int32 × Int32 × (Nat → Int32)) := (if 8 < x0_2 then (F_Model_text f1 fuel_ 0 x0_2 0 0 0 0 x0_15 x0_22 x0_23 f2) else (F_Model_text f1 fuel_ 0 x0_2 1 0 0 0 x0_15 x0_22 x0_23 f2))
set_option maxHeartbeats 4000000 in
set_option maxRecDepth 100000 in
theorem c_Model_text (l : Launch) (dC : Nat → ClassId) (dI : Nat → Nat → Nat) (kA : Nat → ClassId) (sz : Nat) (a0 a1 a2 : Nat) (v0_3 v0_4 v0_5 v0_6 v0_7 v0_8 v0_9 v0_10 v0_11 v0_12 v0_13 v0_14 v0_16 v0_18 v0_19 v0_20 v0_21 v0_24 v0_25 v0_26 v0_27 v0_28 : Value) (x0_0 : Int32) (x0_2 : Int32) (x0_15 : Int32) (x0_22 : Int32) (x0_23 : Int32) (f1 : (Nat → Int32)) (f2 : (Nat → Int32)) (r : Int32) (ox0_0 : Int32) (ox0_2 : Int32) (ox0_15 : Int32) (ox0_22 : Int32) (ox0_23 : Int32) (of2 : (Nat → Int32)) (hF : S_Model_text x0_0 x0_2 x0_15 x0_22 x0_23 f1 f2 = some (r, ox0_0, ox0_2, ox0_15, ox0_22, ox0_23, of2)) : Met l y_Model_text w_Model_text rm_Model_text (va_Pc [.ref a0] (fun U => U.heap.size = sz ∧ va_P (dC, dI) classes (wd_Model_text kA a0 a1 a2 v0_3 v0_4 v0_5 v0_6 v0_7 v0_8 v0_9 v0_10 v0_11 v0_12 v0_13 v0_14 v0_16 v0_18 v0_19 v0_20 v0_21 v0_24 v0_25 v0_26 v0_27 v0_28 x0_0 x0_2 x0_15 x0_22 x0_23 f1 f2) U.heap ∧ va_K (dC, dI) classes (tys_ kA) U ∧ va_D (fun _ => True) (wd_Model_text kA a0 a1 a2 v0_3 v0_4 v0_5 v0_6 v0_7 v0_8 v0_9 v0_10 v0_11 v0_12 v0_13 v0_14 v0_16 v0_18 v0_19 v0_20 v0_21 v0_24 v0_25 v0_26 v0_27 v0_28 x0_0 x0_2 x0_15 x0_22 x0_23 f1 f2))) (va_Qi (fun (r1 : Int32) (_ : Unit) => r1 = r) (fun _ t => va_P (dC, dI) classes (wd_Model_text kA a0 a1 a2 v0_3 v0_4 v0_5 v0_6 v0_7 v0_8 v0_9 v0_10 v0_11 v0_12 v0_13 v0_14 v0_16 v0_18 v0_19 v0_20 v0_21 v0_24 v0_25 v0_26 v0_27 v0_28 ox0_0 ox0_2 ox0_15 ox0_22 ox0_23 f1 of2) t.heap ∧ va_K (dC, dI) classes (tys_ kA) t ∧ va_D (va_A (wd_Model_text kA a0 a1 a2 v0_3 v0_4 v0_5 v0_6 v0_7 v0_8 v0_9 v0_10 v0_11 v0_12 v0_13 v0_14 v0_16 v0_18 v0_19 v0_20 v0_21 v0_24 v0_25 v0_26 v0_27 v0_28 x0_0 x0_2 x0_15 x0_22 x0_23 f1 f2) sz) (wd_Model_text kA a0 a1 a2 v0_3 v0_4 v0_5 v0_6 v0_7 v0_8 v0_9 v0_10 v0_11 v0_12 v0_13 v0_14 v0_16 v0_18 v0_19 v0_20 v0_21 v0_24 v0_25 v0_26 v0_27 v0_28 ox0_0 ox0_2 ox0_15 ox0_22 ox0_23 f1 of2)) (va_A (wd_Model_text kA a0 a1 a2 v0_3 v0_4 v0_5 v0_6 v0_7 v0_8 v0_9 v0_10 v0_11 v0_12 v0_13 v0_14 v0_16 v0_18 v0_19 v0_20 v0_21 v0_24 v0_25 v0_26 v0_27 v0_28 x0_0 x0_2 x0_15 x0_22 x0_23 f1 f2) sz)) 0 0 (va_A (wd_Model_text kA a0 a1 a2 v0_3 v0_4 v0_5 v0_6 v0_7 v0_8 v0_9 v0_10 v0_11 v0_12 v0_13 v0_14 v0_16 v0_18 v0_19 v0_20 v0_21 v0_24 v0_25 v0_26 v0_27 v0_28 x0_0 x0_2 x0_15 x0_22 x0_23 f1 f2) sz) := by
  refine Met.ofW (cc := b_Model_text) (maxL := 4) (ret := some .int) (by decide) rfl ?_
  intro p e s m args below meth c s₁ B hml hv
  obtain ⟨rfl, hsz, hP, hK, hD0⟩ := hv
  have hx := B.exec
  have hb := B.bytes
  have hr := B.returns
  have hts := atoms_spec (ws := w_Model_text) B.pre
  have hown : s.vm.findClass R_Model = some m.cls := findClass_of_methodNamed B.named
  have hg := fun (w : Cond) (h : w ∈ gw) => hts w (List.mem_cons_of_mem _ h)
  have hlocks := B.notSynchronized
  subst hsz
  have hD := hD0.self (sz := s.heap.size)
  generalize hAe : va_A (wd_Model_text kA a0 a1 a2 v0_3 v0_4 v0_5 v0_6 v0_7 v0_8 v0_9 v0_10 v0_11 v0_12 v0_13 v0_14 v0_16 v0_18 v0_19 v0_20 v0_21 v0_24 v0_25 v0_26 v0_27 v0_28 x0_0 x0_2 x0_15 x0_22 x0_23 f1 f2) s.heap.size = A at hD ⊢
  have hA : ∀ q : Nat, s.heap.size ≤ q → A q := fun q h => by rw [← hAe]; exact Or.inr h
  have hS : va_S A s.heap s.heap [] := va_S.rf
  have hl := lv_entry ([.ref a0]) (n := 4) (Nat.le_of_ble_eq_true rfl)
  rw [lg_entry_eq]
  generalize (lg_sl ([.ref a0]) ++ List.replicate (4 - (lg_sl ([.ref a0])).length) Slot.unset).toArray = ls at hl ⊢
  have hl : lv_has ls 4 [(0, .ref a0)] := hl
  unfold S_Model_text at hF
  have ih := L_Model_text (l := l) (e := e) (below := below) hx hb hr hlocks hml hown hts hA hK a0 a1 a2 v0_3 v0_4 v0_5 v0_6 v0_7 v0_8 v0_9 v0_10 v0_11 v0_12 v0_13 v0_14 v0_16 v0_18 v0_19 v0_20 v0_21 v0_24 v0_25 v0_26 v0_27 v0_28 f1 r ox0_0 ox0_2 ox0_15 ox0_22 ox0_23 of2 fuel_
  refine lv_aload_n hx hb d_Model_text_0 rfl (lv_at hl 0 rfl) ?_
  refine lv_iconst (v := 0) hx hb d_Model_text_1 (by decide) ?_
  refine va_put (D := (dC, dI)) (ci := 9) (v := .int 0) (ty := .int) (C := R_Model) (T := F_Model) (N := 29) hx hb hg iw_Model t_Model t_Model_ok n_Model hown hK hP hD hS 0 rfl rfl 0 (by decide) (hg _ gw_259) (fun _ h9 => h9) rfl (by decide +kernel) rfl rfl (Nat.le_of_ble_eq_true rfl) d_Model_text_2 (fun H locs hP hD hS => ?_)
  have hP : va_P (dC, dI) classes (wd_Model_text kA a0 a1 a2 v0_3 v0_4 v0_5 v0_6 v0_7 v0_8 v0_9 v0_10 v0_11 v0_12 v0_13 v0_14 v0_16 v0_18 v0_19 v0_20 v0_21 v0_24 v0_25 v0_26 v0_27 v0_28 0 x0_2 x0_15 x0_22 x0_23 f1 f2) H := hP
  have hD : va_D A (wd_Model_text kA a0 a1 a2 v0_3 v0_4 v0_5 v0_6 v0_7 v0_8 v0_9 v0_10 v0_11 v0_12 v0_13 v0_14 v0_16 v0_18 v0_19 v0_20 v0_21 v0_24 v0_25 v0_26 v0_27 v0_28 0 x0_2 x0_15 x0_22 x0_23 f1 f2) := hD
  refine lv_aload_n hx hb d_Model_text_5 rfl (lv_at hl 0 rfl) ?_
  refine va_get (D := (dC, dI)) (ci := 9) (v := .int x0_2) (C := R_Model) (T := F_Model) (N := 29) hx hb hg iw_Model hown hK hP 0 rfl rfl 2 (by decide) (hg _ gw_260) (fun _ h9 => h9) rfl d_Model_text_6 ?_
  refine lv_istore_n (lv' := [(1, .int x0_2), (0, .ref a0)]) hx hb d_Model_text_9 rfl hl (by decide) rfl (fun ls hl => ?_)
  refine lv_aload_n hx hb d_Model_text_10 rfl (lv_at hl 1 rfl) ?_
  refine lv_iconst (v := 0) hx hb d_Model_text_11 (by decide) ?_
  refine va_put (D := (dC, dI)) (ci := 9) (v := .int 0) (ty := .int) (C := R_Model) (T := F_Model) (N := 29) hx hb hg iw_Model t_Model t_Model_ok n_Model hown hK hP hD hS 0 rfl rfl 2 (by decide) (hg _ gw_260) (fun _ h9 => h9) rfl (by decide +kernel) rfl rfl (Nat.le_of_ble_eq_true rfl) d_Model_text_12 (fun H locs hP hD hS => ?_)
  have hP : va_P (dC, dI) classes (wd_Model_text kA a0 a1 a2 v0_3 v0_4 v0_5 v0_6 v0_7 v0_8 v0_9 v0_10 v0_11 v0_12 v0_13 v0_14 v0_16 v0_18 v0_19 v0_20 v0_21 v0_24 v0_25 v0_26 v0_27 v0_28 0 0 x0_15 x0_22 x0_23 f1 f2) H := hP
  have hD : va_D A (wd_Model_text kA a0 a1 a2 v0_3 v0_4 v0_5 v0_6 v0_7 v0_8 v0_9 v0_10 v0_11 v0_12 v0_13 v0_14 v0_16 v0_18 v0_19 v0_20 v0_21 v0_24 v0_25 v0_26 v0_27 v0_28 0 0 x0_15 x0_22 x0_23 f1 f2) := hD
  refine lv_iload_n hx hb d_Model_text_15 rfl (lv_at hl 0 rfl) ?_
  refine lv_bipush (v := 8) hx hb d_Model_text_16 (by decide) ?_
  refine lv_icmp_gt (tgt := 25) hx hb d_Model_text_18 (by decide) (fun c_13 => ?_) (fun c_13 => ?_)
  · rw [if_pos c_13] at hF
    refine lv_iconst (v := 0) hx hb d_Model_text_25 (by decide) ?_
    refine lv_istore_n (lv' := [(2, .int 0), (1, .int x0_2), (0, .ref a0)]) hx hb d_Model_text_26 rfl hl (by decide) rfl (fun ls hl => ?_)
    refine lv_iconst (v := 0) hx hb d_Model_text_27 (by decide) ?_
    refine lv_istore_n (lv' := [(3, .int 0), (2, .int 0), (1, .int x0_2), (0, .ref a0)]) hx hb d_Model_text_28 rfl hl (by decide) rfl (fun ls hl => ?_)
    exact ih.1 x0_2 0 0 0 0 x0_15 x0_22 x0_23 f2 hF _ _ _ hP hD hS (lv_sub hl [3, 2, 1, 0] rfl)
  · rw [if_neg c_13] at hF
    refine lv_iconst (v := 1) hx hb d_Model_text_21 (by decide) ?_
    refine lv_goto (tgt := 26) hx hb d_Model_text_22 (by decide) ?_
    refine lv_istore_n (lv' := [(2, .int 1), (1, .int x0_2), (0, .ref a0)]) hx hb d_Model_text_26 rfl hl (by decide) rfl (fun ls hl => ?_)
    refine lv_iconst (v := 0) hx hb d_Model_text_27 (by decide) ?_
    refine lv_istore_n (lv' := [(3, .int 0), (2, .int 1), (1, .int x0_2), (0, .ref a0)]) hx hb d_Model_text_28 rfl hl (by decide) rfl (fun ls hl => ?_)
    exact ih.1 x0_2 1 0 0 0 x0_15 x0_22 x0_23 f2 hF _ _ _ hP hD hS (lv_sub hl [3, 2, 1, 0] rfl)
-- ===== RepairDeskModel.cost(IZI)Z
abbrev wd_Model_cost (kA : Nat → ClassId) (a0 a1 a2 : Nat) (v0_1 v0_2 v0_3 v0_4 v0_5 v0_6 v0_7 v0_8 v0_9 v0_10 v0_11 v0_12 v0_13 v0_14 v0_15 v0_16 v0_17 v0_18 v0_19 v0_22 v0_23 v0_24 v0_25 v0_26 v0_27 v0_28 : Value) (x0_0 : Int32) (f1 : (Nat → Int32)) (f2 : (Nat → Int32)) : va_W := [(a0, .inr (9, [.int x0_0, v0_1, v0_2, v0_3, v0_4, v0_5, v0_6, v0_7, v0_8, v0_9, v0_10, v0_11, v0_12, v0_13, v0_14, v0_15, v0_16, v0_17, v0_18, v0_19, .ref a1, .ref a2, v0_22, v0_23, v0_24, v0_25, v0_26, v0_27, v0_28])), (a1, .inl (kA 0, 6, .inl f1)), (a2, .inl (kA 0, 6, .inl f2))]
abbrev rm_Model_cost : Room := { frames := 0, cells := 0, slots := 0, locals := 0 }
def S_Model_cost (p1 : Int32) (p2 : Int32) (p3 : Int32) (x0_0 : Int32) (f1 : (Nat → Int32)) (f2 : (Nat → Int32)) : Option (Int32 × Int32 × (Nat → Int32) × (Nat → Int32)) := (if p1 < 0 then (some (0, 0, f1, f2)) else (if 5 < p1 then (some (0, 0, f1, f2)) else (if p3 < 1 then (some (0, 0, f1, f2)) else (if p3 ≤ 3 then (if p2 = 0 then (if (p1 : Int32) < 0 ∨ 6 ≤ (Int32.toNatClampNeg p1) then none else (some (1, 0, (upd f1 (Int32.toNatClampNeg p1) p3), f2))) else (if (p1 : Int32) < 0 ∨ 6 ≤ (Int32.toNatClampNeg p1) then none else (some (1, 0, f1, (upd f2 (Int32.toNatClampNeg p1) p3))))) else (some (0, 0, f1, f2))))))
set_option maxHeartbeats 4000000 in
set_option maxRecDepth 100000 in
theorem c_Model_cost (l : Launch) (dC : Nat → ClassId) (dI : Nat → Nat → Nat) (kA : Nat → ClassId) (sz : Nat) (a0 a1 a2 : Nat) (v0_1 v0_2 v0_3 v0_4 v0_5 v0_6 v0_7 v0_8 v0_9 v0_10 v0_11 v0_12 v0_13 v0_14 v0_15 v0_16 v0_17 v0_18 v0_19 v0_22 v0_23 v0_24 v0_25 v0_26 v0_27 v0_28 : Value) (p1 : Int32) (p2 : Int32) (p3 : Int32) (x0_0 : Int32) (f1 : (Nat → Int32)) (f2 : (Nat → Int32)) (r : Int32) (ox0_0 : Int32) (of1 : (Nat → Int32)) (of2 : (Nat → Int32)) (hF : S_Model_cost p1 p2 p3 x0_0 f1 f2 = some (r, ox0_0, of1, of2)) : Met l y_Model_cost w_Model_cost rm_Model_cost (va_Pc [.ref a0, .int p1, .int p2, .int p3] (fun U => U.heap.size = sz ∧ va_P (dC, dI) classes (wd_Model_cost kA a0 a1 a2 v0_1 v0_2 v0_3 v0_4 v0_5 v0_6 v0_7 v0_8 v0_9 v0_10 v0_11 v0_12 v0_13 v0_14 v0_15 v0_16 v0_17 v0_18 v0_19 v0_22 v0_23 v0_24 v0_25 v0_26 v0_27 v0_28 x0_0 f1 f2) U.heap ∧ va_K (dC, dI) classes (tys_ kA) U ∧ va_D (fun _ => True) (wd_Model_cost kA a0 a1 a2 v0_1 v0_2 v0_3 v0_4 v0_5 v0_6 v0_7 v0_8 v0_9 v0_10 v0_11 v0_12 v0_13 v0_14 v0_15 v0_16 v0_17 v0_18 v0_19 v0_22 v0_23 v0_24 v0_25 v0_26 v0_27 v0_28 x0_0 f1 f2))) (va_Qi (fun (r1 : Int32) (_ : Unit) => r1 = r) (fun _ t => va_P (dC, dI) classes (wd_Model_cost kA a0 a1 a2 v0_1 v0_2 v0_3 v0_4 v0_5 v0_6 v0_7 v0_8 v0_9 v0_10 v0_11 v0_12 v0_13 v0_14 v0_15 v0_16 v0_17 v0_18 v0_19 v0_22 v0_23 v0_24 v0_25 v0_26 v0_27 v0_28 ox0_0 of1 of2) t.heap ∧ va_K (dC, dI) classes (tys_ kA) t ∧ va_D (va_A (wd_Model_cost kA a0 a1 a2 v0_1 v0_2 v0_3 v0_4 v0_5 v0_6 v0_7 v0_8 v0_9 v0_10 v0_11 v0_12 v0_13 v0_14 v0_15 v0_16 v0_17 v0_18 v0_19 v0_22 v0_23 v0_24 v0_25 v0_26 v0_27 v0_28 x0_0 f1 f2) sz) (wd_Model_cost kA a0 a1 a2 v0_1 v0_2 v0_3 v0_4 v0_5 v0_6 v0_7 v0_8 v0_9 v0_10 v0_11 v0_12 v0_13 v0_14 v0_15 v0_16 v0_17 v0_18 v0_19 v0_22 v0_23 v0_24 v0_25 v0_26 v0_27 v0_28 ox0_0 of1 of2)) (va_A (wd_Model_cost kA a0 a1 a2 v0_1 v0_2 v0_3 v0_4 v0_5 v0_6 v0_7 v0_8 v0_9 v0_10 v0_11 v0_12 v0_13 v0_14 v0_15 v0_16 v0_17 v0_18 v0_19 v0_22 v0_23 v0_24 v0_25 v0_26 v0_27 v0_28 x0_0 f1 f2) sz)) 0 0 (va_A (wd_Model_cost kA a0 a1 a2 v0_1 v0_2 v0_3 v0_4 v0_5 v0_6 v0_7 v0_8 v0_9 v0_10 v0_11 v0_12 v0_13 v0_14 v0_15 v0_16 v0_17 v0_18 v0_19 v0_22 v0_23 v0_24 v0_25 v0_26 v0_27 v0_28 x0_0 f1 f2) sz) := by
  refine Met.ofW (cc := b_Model_cost) (maxL := 4) (ret := some .boolean) (by decide) rfl ?_
  intro p e s m args below meth c s₁ B hml hv
  obtain ⟨rfl, hsz, hP, hK, hD0⟩ := hv
  have hx := B.exec
  have hb := B.bytes
  have hr := B.returns
  have hts := atoms_spec (ws := w_Model_cost) B.pre
  have hown : s.vm.findClass R_Model = some m.cls := findClass_of_methodNamed B.named
  have hg := fun (w : Cond) (h : w ∈ gw) => hts w (List.mem_cons_of_mem _ h)
  have hlocks := B.notSynchronized
  subst hsz
  have hD := hD0.self (sz := s.heap.size)
  generalize hAe : va_A (wd_Model_cost kA a0 a1 a2 v0_1 v0_2 v0_3 v0_4 v0_5 v0_6 v0_7 v0_8 v0_9 v0_10 v0_11 v0_12 v0_13 v0_14 v0_15 v0_16 v0_17 v0_18 v0_19 v0_22 v0_23 v0_24 v0_25 v0_26 v0_27 v0_28 x0_0 f1 f2) s.heap.size = A at hD ⊢
  have hA : ∀ q : Nat, s.heap.size ≤ q → A q := fun q h => by rw [← hAe]; exact Or.inr h
  have hS : va_S A s.heap s.heap [] := va_S.rf
  have hl := lv_entry ([.ref a0, .int p1, .int p2, .int p3]) (n := 4) (Nat.le_of_ble_eq_true rfl)
  rw [lg_entry_eq]
  generalize (lg_sl ([.ref a0, .int p1, .int p2, .int p3]) ++ List.replicate (4 - (lg_sl ([.ref a0, .int p1, .int p2, .int p3])).length) Slot.unset).toArray = ls at hl ⊢
  have hl : lv_has ls 4 [(0, .ref a0), (1, .int p1), (2, .int p2), (3, .int p3)] := hl
  unfold S_Model_cost at hF
  refine lv_aload_n hx hb d_Model_cost_0 rfl (lv_at hl 0 rfl) ?_
  refine lv_iconst (v := 0) hx hb d_Model_cost_1 (by decide) ?_
  refine va_put (D := (dC, dI)) (ci := 9) (v := .int 0) (ty := .int) (C := R_Model) (T := F_Model) (N := 29) hx hb hg iw_Model t_Model t_Model_ok n_Model hown hK hP hD hS 0 rfl rfl 0 (by decide) (hg _ gw_259) (fun _ h9 => h9) rfl (by decide +kernel) rfl rfl (Nat.le_of_ble_eq_true rfl) d_Model_cost_2 (fun H locs hP hD hS => ?_)
  have hP : va_P (dC, dI) classes (wd_Model_cost kA a0 a1 a2 v0_1 v0_2 v0_3 v0_4 v0_5 v0_6 v0_7 v0_8 v0_9 v0_10 v0_11 v0_12 v0_13 v0_14 v0_15 v0_16 v0_17 v0_18 v0_19 v0_22 v0_23 v0_24 v0_25 v0_26 v0_27 v0_28 0 f1 f2) H := hP
  have hD : va_D A (wd_Model_cost kA a0 a1 a2 v0_1 v0_2 v0_3 v0_4 v0_5 v0_6 v0_7 v0_8 v0_9 v0_10 v0_11 v0_12 v0_13 v0_14 v0_15 v0_16 v0_17 v0_18 v0_19 v0_22 v0_23 v0_24 v0_25 v0_26 v0_27 v0_28 0 f1 f2) := hD
  refine lv_iload_n hx hb d_Model_cost_5 rfl (lv_at hl 1 rfl) ?_
  refine lv_if_lt (tgt := 24) hx hb d_Model_cost_6 (by decide) (fun c_1 => ?_) (fun c_1 => ?_)
  · rw [if_pos c_1] at hF
    refine lv_iconst (v := 0) hx hb d_Model_cost_24 (by decide) ?_
    have e0 := Option.some.inj hF
    have q0 := Prod.mk.inj e0
    have q1 := Prod.mk.inj q0.2
    have q2 := Prod.mk.inj q1.2
    exact W.zret (v := 0) hx hb hr rfl (fun t ht hW => ⟨⟨0, (), rfl, q0.1, by rw [ht, ← q1.1, ← q2.1, ← q2.2]; exact hP, va_K.moved hW.alike hK, (by rw [← q1.1, ← q2.1, ← q2.2]; exact hD)⟩, hS.F ht⟩) hS.2.2 d_Model_cost_25 hlocks
  · rw [if_neg c_1] at hF
    refine lv_iload_n hx hb d_Model_cost_9 rfl (lv_at hl 1 rfl) ?_
    refine lv_iconst (v := 5) hx hb d_Model_cost_10 (by decide) ?_
    refine lv_icmp_gt (tgt := 24) hx hb d_Model_cost_11 (by decide) (fun c_2 => ?_) (fun c_2 => ?_)
    · rw [if_pos c_2] at hF
      refine lv_iconst (v := 0) hx hb d_Model_cost_24 (by decide) ?_
      have e0 := Option.some.inj hF
      have q0 := Prod.mk.inj e0
      have q1 := Prod.mk.inj q0.2
      have q2 := Prod.mk.inj q1.2
      exact W.zret (v := 0) hx hb hr rfl (fun t ht hW => ⟨⟨0, (), rfl, q0.1, by rw [ht, ← q1.1, ← q2.1, ← q2.2]; exact hP, va_K.moved hW.alike hK, (by rw [← q1.1, ← q2.1, ← q2.2]; exact hD)⟩, hS.F ht⟩) hS.2.2 d_Model_cost_25 hlocks
    · rw [if_neg c_2] at hF
      refine lv_iload_n hx hb d_Model_cost_14 rfl (lv_at hl 3 rfl) ?_
      refine lv_iconst (v := 1) hx hb d_Model_cost_15 (by decide) ?_
      refine lv_icmp_lt (tgt := 24) hx hb d_Model_cost_16 (by decide) (fun c_3 => ?_) (fun c_3 => ?_)
      · rw [if_pos c_3] at hF
        refine lv_iconst (v := 0) hx hb d_Model_cost_24 (by decide) ?_
        have e0 := Option.some.inj hF
        have q0 := Prod.mk.inj e0
        have q1 := Prod.mk.inj q0.2
        have q2 := Prod.mk.inj q1.2
        exact W.zret (v := 0) hx hb hr rfl (fun t ht hW => ⟨⟨0, (), rfl, q0.1, by rw [ht, ← q1.1, ← q2.1, ← q2.2]; exact hP, va_K.moved hW.alike hK, (by rw [← q1.1, ← q2.1, ← q2.2]; exact hD)⟩, hS.F ht⟩) hS.2.2 d_Model_cost_25 hlocks
      · rw [if_neg c_3] at hF
        refine lv_iload_n hx hb d_Model_cost_19 rfl (lv_at hl 3 rfl) ?_
        refine lv_iconst (v := 3) hx hb d_Model_cost_20 (by decide) ?_
        refine lv_icmp_le (tgt := 26) hx hb d_Model_cost_21 (by decide) (fun c_4 => ?_) (fun c_4 => ?_)
        · rw [if_pos c_4] at hF
          refine lv_iload_n hx hb d_Model_cost_26 rfl (lv_at hl 2 rfl) ?_
          refine lv_if_eq (tgt := 40) hx hb d_Model_cost_27 (by decide) (fun c_5 => ?_) (fun c_5 => ?_)
          · rw [if_pos c_5] at hF
            refine lv_aload_n hx hb d_Model_cost_40 rfl (lv_at hl 0 rfl) ?_
            refine va_get (D := (dC, dI)) (ci := 9) (v := .ref a1) (C := R_Model) (T := F_Model) (N := 29) hx hb hg iw_Model hown hK hP 0 rfl rfl 20 (by decide) (hg _ gw_331) (fun _ h9 => h9) rfl d_Model_cost_41 ?_
            refine lv_iload_n hx hb d_Model_cost_44 rfl (lv_at hl 1 rfl) ?_
            refine lv_iload_n hx hb d_Model_cost_45 rfl (lv_at hl 3 rfl) ?_
            obtain ⟨h_6, hF⟩ := rd_chk hF
            refine va_iast hx hb hK hP hD hS 1 0 rfl rfl h_6 d_Model_cost_46 (fun H locs hP hD hS => ?_)
            have hP : va_P (dC, dI) classes (wd_Model_cost kA a0 a1 a2 v0_1 v0_2 v0_3 v0_4 v0_5 v0_6 v0_7 v0_8 v0_9 v0_10 v0_11 v0_12 v0_13 v0_14 v0_15 v0_16 v0_17 v0_18 v0_19 v0_22 v0_23 v0_24 v0_25 v0_26 v0_27 v0_28 0 (upd f1 (Int32.toNatClampNeg p1) p3) f2) H := hP
            have hD : va_D A (wd_Model_cost kA a0 a1 a2 v0_1 v0_2 v0_3 v0_4 v0_5 v0_6 v0_7 v0_8 v0_9 v0_10 v0_11 v0_12 v0_13 v0_14 v0_15 v0_16 v0_17 v0_18 v0_19 v0_22 v0_23 v0_24 v0_25 v0_26 v0_27 v0_28 0 (upd f1 (Int32.toNatClampNeg p1) p3) f2) := hD
            refine lv_iconst (v := 1) hx hb d_Model_cost_47 (by decide) ?_
            have e0 := Option.some.inj hF
            have q0 := Prod.mk.inj e0
            have q1 := Prod.mk.inj q0.2
            have q2 := Prod.mk.inj q1.2
            exact W.zret (v := 1) hx hb hr rfl (fun t ht hW => ⟨⟨1, (), rfl, q0.1, by rw [ht, ← q1.1, ← q2.1, ← q2.2]; exact hP, va_K.moved hW.alike hK, (by rw [← q1.1, ← q2.1, ← q2.2]; exact hD)⟩, hS.F ht⟩) hS.2.2 d_Model_cost_48 hlocks
          · rw [if_neg c_5] at hF
            refine lv_aload_n hx hb d_Model_cost_30 rfl (lv_at hl 0 rfl) ?_
            refine va_get (D := (dC, dI)) (ci := 9) (v := .ref a2) (C := R_Model) (T := F_Model) (N := 29) hx hb hg iw_Model hown hK hP 0 rfl rfl 21 (by decide) (hg _ gw_332) (fun _ h9 => h9) rfl d_Model_cost_31 ?_
            refine lv_iload_n hx hb d_Model_cost_34 rfl (lv_at hl 1 rfl) ?_
            refine lv_iload_n hx hb d_Model_cost_35 rfl (lv_at hl 3 rfl) ?_
            obtain ⟨h_7, hF⟩ := rd_chk hF
            refine va_iast hx hb hK hP hD hS 2 0 rfl rfl h_7 d_Model_cost_36 (fun H locs hP hD hS => ?_)
            have hP : va_P (dC, dI) classes (wd_Model_cost kA a0 a1 a2 v0_1 v0_2 v0_3 v0_4 v0_5 v0_6 v0_7 v0_8 v0_9 v0_10 v0_11 v0_12 v0_13 v0_14 v0_15 v0_16 v0_17 v0_18 v0_19 v0_22 v0_23 v0_24 v0_25 v0_26 v0_27 v0_28 0 f1 (upd f2 (Int32.toNatClampNeg p1) p3)) H := hP
            have hD : va_D A (wd_Model_cost kA a0 a1 a2 v0_1 v0_2 v0_3 v0_4 v0_5 v0_6 v0_7 v0_8 v0_9 v0_10 v0_11 v0_12 v0_13 v0_14 v0_15 v0_16 v0_17 v0_18 v0_19 v0_22 v0_23 v0_24 v0_25 v0_26 v0_27 v0_28 0 f1 (upd f2 (Int32.toNatClampNeg p1) p3)) := hD
            refine lv_goto (tgt := 47) hx hb d_Model_cost_37 (by decide) ?_
            refine lv_iconst (v := 1) hx hb d_Model_cost_47 (by decide) ?_
            have e0 := Option.some.inj hF
            have q0 := Prod.mk.inj e0
            have q1 := Prod.mk.inj q0.2
            have q2 := Prod.mk.inj q1.2
            exact W.zret (v := 1) hx hb hr rfl (fun t ht hW => ⟨⟨1, (), rfl, q0.1, by rw [ht, ← q1.1, ← q2.1, ← q2.2]; exact hP, va_K.moved hW.alike hK, (by rw [← q1.1, ← q2.1, ← q2.2]; exact hD)⟩, hS.F ht⟩) hS.2.2 d_Model_cost_48 hlocks
        · rw [if_neg c_4] at hF
          refine lv_iconst (v := 0) hx hb d_Model_cost_24 (by decide) ?_
          have e0 := Option.some.inj hF
          have q0 := Prod.mk.inj e0
          have q1 := Prod.mk.inj q0.2
          have q2 := Prod.mk.inj q1.2
          exact W.zret (v := 0) hx hb hr rfl (fun t ht hW => ⟨⟨0, (), rfl, q0.1, by rw [ht, ← q1.1, ← q2.1, ← q2.2]; exact hP, va_K.moved hW.alike hK, (by rw [← q1.1, ← q2.1, ← q2.2]; exact hD)⟩, hS.F ht⟩) hS.2.2 d_Model_cost_25 hlocks
-- ===== RepairDeskModel.parsed()I
abbrev wd_Model_parsed (kA : Nat → ClassId) (a0 a1 a2 a3 a4 a5 a6 a7 : Nat) (v0_0 v0_1 v0_2 v0_3 v0_6 v0_7 v0_8 v0_9 v0_10 v0_11 v0_12 v0_16 v0_20 v0_21 v0_22 v0_23 v0_24 v0_25 v0_26 v0_27 v0_28 : Value) (x0_15 : Int32) (f1 : (Nat → Int32)) (f2 : (Nat → Int32)) (f3 : (Nat → Int32)) (f4 : (Nat → Int32)) (f5 : (Nat → Int32)) (f6 : (Nat → Int32)) (f7 : (Nat → Int32)) : va_W := [(a0, .inr (9, [v0_0, v0_1, v0_2, v0_3, .ref a3, .ref a4, v0_6, v0_7, v0_8, v0_9, v0_10, v0_11, v0_12, .ref a1, .ref a5, .int x0_15, v0_16, .ref a7, .ref a2, .ref a6, v0_20, v0_21, v0_22, v0_23, v0_24, v0_25, v0_26, v0_27, v0_28])), (a1, .inl (kA 0, 2310, .inl f1)), (a2, .inl (kA 0, 24, .inl f2)), (a3, .inl (kA 0, 11, .inl f3)), (a4, .inl (kA 0, 11, .inl f4)), (a5, .inl (kA 0, 492, .inl f5)), (a6, .inl (kA 0, 400, .inl f6)), (a7, .inl (kA 0, 16, .inl f7))]
abbrev rm_Model_parsed : Room := { frames := 2, cells := 0, slots := 0, locals := 51 }
def B_Model_parsed_0 (K : Nat → Int32 → (Nat → Int32) → (Nat → Int32) → Option (Int32 × (Nat → Int32) × (Nat → Int32))) (x0_15 : Int32) (f1 : (Nat → Int32)) (f3 : (Nat → Int32)) (f4 : (Nat → Int32)) (f5 : (Nat → Int32)) (f7 : (Nat → Int32)) (l1 : Int32) (f2 : (Nat → Int32)) (f6 : (Nat → Int32)) : Option (Int32 × (Nat → Int32) × (Nat → Int32)) := (if x0_15 ≤ l1 then ((S_Model_wrongAt x0_15 1 f1 f2 f3 f4 f5 f6).bind fun u_2 => (some (u_2.1, f2, u_2.2))) else (if (l1 : Int32) < 0 ∨ 16 ≤ (Int32.toNatClampNeg l1) then none else (if (l1 : Int32) < 0 ∨ 24 ≤ (Int32.toNatClampNeg l1) then none else (K 0 (l1 + 1) (upd f2 (Int32.toNatClampNeg l1) (f7 (Int32.toNatClampNeg l1))) f6))))
def F_Model_parsed (x0_15 : Int32) (f1 : (Nat → Int32)) (f3 : (Nat → Int32)) (f4 : (Nat → Int32)) (f5 : (Nat → Int32)) (f7 : (Nat → Int32)) : Nat → Nat → Int32 → (Nat → Int32) → (Nat → Int32) → Option (Int32 × (Nat → Int32) × (Nat → Int32))
  | 0 => fun _ _ _ _ => none
  | n + 1 => fun hd l1 f2 f6 => match hd with
    | 0 => B_Model_parsed_0 (F_Model_parsed x0_15 f1 f3 f4 f5 f7 n) x0_15 f1 f3 f4 f5 f7 l1 f2 f6
    | _ => none
set_option maxHeartbeats 4000000 in
set_option maxRecDepth 100000 in
theorem L_Model_parsed {p : Program} {l : Launch} {e : Env} {s : State} {m : MethodId} {args : Array Value} {below : List Frame} {meth : Method} {c : Code} {A : Nat → Prop} {dC : Nat → ClassId} {dI : Nat → Nat → Nat} {kA : Nat → ClassId} (hx : p.tables.exec = Jvm.exec) (hb : c.code = b_Model_parsed) (hr : meth.sig.returnType = some .int) (hlocks : meth.locks = false) (hml : c.maxLocals = 2) (hown : s.vm.findClass R_Model = some m.cls) (hts : ∀ w ∈ w_Model_parsed, w.before args s = true) (hA : ∀ q : Nat, s.heap.size ≤ q → A q) (hK : va_K (dC, dI) classes (tys_ kA) s) (a0 a1 a2 a3 a4 a5 a6 a7 : Nat) (v0_0 v0_1 v0_2 v0_3 v0_6 v0_7 v0_8 v0_9 v0_10 v0_11 v0_12 v0_16 v0_20 v0_21 v0_22 v0_23 v0_24 v0_25 v0_26 v0_27 v0_28 : Value) (x0_15 : Int32) (f1 : (Nat → Int32)) (f3 : (Nat → Int32)) (f4 : (Nat → Int32)) (f5 : (Nat → Int32)) (f7 : (Nat → Int32)) (r : Int32) (of2 : (Nat → Int32)) (of6 : (Nat → Int32)) : ∀ n : Nat, (∀ (l1 : Int32) (f2 : (Nat → Int32)) (f6 : (Nat → Int32)), F_Model_parsed x0_15 f1 f3 f4 f5 f7 n 0 l1 f2 f6 = some (r, of2, of6) → ∀ (H : Heap) (locs : List Loc) (ls : Array Slot), va_P (dC, dI) classes (wd_Model_parsed kA a0 a1 a2 a3 a4 a5 a6 a7 v0_0 v0_1 v0_2 v0_3 v0_6 v0_7 v0_8 v0_9 v0_10 v0_11 v0_12 v0_16 v0_20 v0_21 v0_22 v0_23 v0_24 v0_25 v0_26 v0_27 v0_28 x0_15 f1 f2 f3 f4 f5 f6 f7) H → va_D A (wd_Model_parsed kA a0 a1 a2 a3 a4 a5 a6 a7 v0_0 v0_1 v0_2 v0_3 v0_6 v0_7 v0_8 v0_9 v0_10 v0_11 v0_12 v0_16 v0_20 v0_21 v0_22 v0_23 v0_24 v0_25 v0_26 v0_27 v0_28 x0_15 f1 f2 f3 f4 f5 f6 f7) → va_S A s.heap H locs → lv_has ls 2 [(0, .ref a0), (1, .int l1)] → W p l e (headSpec w_Model_parsed rm_Model_parsed).room s m args below meth c H locs 0 0 (MQ below (va_Qi (fun (r1 : Int32) (_ : Unit) => r1 = r) (fun _ t => va_P (dC, dI) classes (wd_Model_parsed kA a0 a1 a2 a3 a4 a5 a6 a7 v0_0 v0_1 v0_2 v0_3 v0_6 v0_7 v0_8 v0_9 v0_10 v0_11 v0_12 v0_16 v0_20 v0_21 v0_22 v0_23 v0_24 v0_25 v0_26 v0_27 v0_28 x0_15 f1 of2 f3 f4 f5 of6 f7) t.heap ∧ va_K (dC, dI) classes (tys_ kA) t ∧ va_D A (wd_Model_parsed kA a0 a1 a2 a3 a4 a5 a6 a7 v0_0 v0_1 v0_2 v0_3 v0_6 v0_7 v0_8 v0_9 v0_10 v0_11 v0_12 v0_16 v0_20 v0_21 v0_22 v0_23 v0_24 v0_25 v0_26 v0_27 v0_28 x0_15 f1 of2 f3 f4 f5 of6 f7)) A) args s 0 0 A) (F0 m 2 ls [])) := by
  have hg := fun (w : Cond) (h : w ∈ gw) => hts w (List.mem_cons_of_mem _ h)
  intro n
  induction n with
  | zero =>
    exact fun _ _ _ hF => absurd (show (none : Option _) = some _ from hF) (fun z => by cases z)
  | succ n ih =>
    intro l1 f2 f6 hF H locs ls hP hD hS hl
    have hF : B_Model_parsed_0 (F_Model_parsed x0_15 f1 f3 f4 f5 f7 n) x0_15 f1 f3 f4 f5 f7 l1 f2 f6 = some (r, of2, of6) := hF
    unfold B_Model_parsed_0 at hF
    refine lv_iload_n hx hb d_Model_parsed_2 rfl (lv_at hl 1 rfl) ?_
    refine lv_aload_n hx hb d_Model_parsed_3 rfl (lv_at hl 0 rfl) ?_
    refine va_get (D := (dC, dI)) (ci := 9) (v := .int x0_15) (C := R_Model) (T := F_Model) (N := 29) hx hb hg iw_Model hown hK hP 0 rfl rfl 15 (by decide) (hg _ gw_329) (fun _ h9 => h9) rfl d_Model_parsed_4 ?_
    refine lv_icmp_ge (tgt := 28) hx hb d_Model_parsed_7 (by decide) (fun c_1 => ?_) (fun c_1 => ?_)
    · rw [if_pos c_1] at hF
      refine lv_aload_n hx hb d_Model_parsed_28 rfl (lv_at hl 0 rfl) ?_
      refine lv_aload_n hx hb d_Model_parsed_29 rfl (lv_at hl 0 rfl) ?_
      refine va_get (D := (dC, dI)) (ci := 9) (v := .int x0_15) (C := R_Model) (T := F_Model) (N := 29) hx hb hg iw_Model hown hK hP 0 rfl rfl 15 (by decide) (hg _ gw_329) (fun _ h9 => h9) rfl d_Model_parsed_30 ?_
      refine lv_iconst (v := 1) hx hb d_Model_parsed_33 (by decide) ?_
      obtain ⟨u_2, hS_2, hF⟩ := rd_bind hF
      have hPc := hP.sub (ws' := (wd_Model_wrongAt kA a0 a1 a2 a3 a4 a5 a6 v0_0 v0_1 v0_2 v0_3 v0_6 v0_7 v0_8 v0_9 v0_10 v0_11 v0_12 (.int x0_15) v0_16 (.ref a7) v0_20 v0_21 v0_22 v0_23 v0_24 v0_25 v0_26 v0_27 v0_28 f1 f2 f3 f4 f5 f6)) [0, 1, 2, 3, 4, 5, 6] rfl
      have hDc := hD.sub (ws' := (wd_Model_wrongAt kA a0 a1 a2 a3 a4 a5 a6 v0_0 v0_1 v0_2 v0_3 v0_6 v0_7 v0_8 v0_9 v0_10 v0_11 v0_12 (.int x0_15) v0_16 (.ref a7) v0_20 v0_21 v0_22 v0_23 v0_24 v0_25 v0_26 v0_27 v0_28 f1 f2 f3 f4 f5 f6)) [0, 1, 2, 3, 4, 5, 6] (by decide) rfl
      have hFc := va_free (wc := (wd_Model_wrongAt kA a0 a1 a2 a3 a4 a5 a6 v0_0 v0_1 v0_2 v0_3 v0_6 v0_7 v0_8 v0_9 v0_10 v0_11 v0_12 (.int x0_15) v0_16 (.ref a7) v0_20 v0_21 v0_22 v0_23 v0_24 v0_25 v0_26 v0_27 v0_28 f1 f2 f3 f4 f5 f6)) hD hS hA [0, 1, 2, 3, 4, 5, 6] rfl
      refine va_calli (va_runV (As := [.int x0_15, .int 1]) (rest := []) ⟨hx, hb, hml, hown, hts⟩ (c_Model_wrongAt l dC dI kA H.size a0 a1 a2 a3 a4 a5 a6 v0_0 v0_1 v0_2 v0_3 v0_6 v0_7 v0_8 v0_9 v0_10 v0_11 v0_12 (.int x0_15) v0_16 (.ref a7) v0_20 v0_21 v0_22 v0_23 v0_24 v0_25 v0_26 v0_27 v0_28 x0_15 1 f1 f2 f3 f4 f5 f6 u_2.1 u_2.2 hS_2) (cwV 2 hts (gw_V gw_333 gw_334 gw_335 gw_267 gw_336) rfl rfl rfl (by decide +kernel) ⟨Nat.le_of_ble_eq_true rfl, Nat.le_of_ble_eq_true rfl⟩) ⟨fun a U g mk q => by obtain ⟨q0, q1, qP, qK, qD⟩ := q; exact ⟨q0, q1, qP, va_K.moved (u := U) (U := U.calling g mk a) (Vm.Alike.refl U.vm) qK, qD⟩, va_recv hK hP (ci := 9) (q0 := 0) rfl rfl, fun U hU hW => ⟨rfl, by rw [hU], by rw [hU]; exact hPc, va_K.moved hW.alike hK, hDc.weaken (fun _ _ _ _ => trivial)⟩⟩ rfl rfl hl.1 rfl (lv_room (Nat.le_of_ble_eq_true rfl)) d_Model_parsed_34 ⟨Nat.zero_le _, Nat.zero_le _⟩) hS (fun q _ h => hFc q h) hFc (fun r1 u t H1 locs ht hvm hw hB hz1 hk1 hS => ?_)
      rw [show r1 = _ from hw]
      obtain ⟨hP1, hK1, hD1⟩ := hB
      rw [ht] at hP1
      obtain ⟨hP, hD⟩ := va_join (wr := [(a7, .inl (kA 0, 16, .inl f7))]) (w1 := (wd_Model_wrongAt kA a0 a1 a2 a3 a4 a5 a6 v0_0 v0_1 v0_2 v0_3 v0_6 v0_7 v0_8 v0_9 v0_10 v0_11 v0_12 (.int x0_15) v0_16 (.ref a7) v0_20 v0_21 v0_22 v0_23 v0_24 v0_25 v0_26 v0_27 v0_28 f1 f2 f3 f4 f5 u_2.2)) hP hD [0, 1, 2, 3, 4, 5, 6] [7] rfl rfl (by decide) (by decide) hk1 hFc hP1 hD1
      have hP := hP.sub (ws' := (wd_Model_parsed kA a0 a1 a2 a3 a4 a5 a6 a7 v0_0 v0_1 v0_2 v0_3 v0_6 v0_7 v0_8 v0_9 v0_10 v0_11 v0_12 v0_16 v0_20 v0_21 v0_22 v0_23 v0_24 v0_25 v0_26 v0_27 v0_28 x0_15 f1 f2 f3 f4 f5 u_2.2 f7)) [1, 2, 3, 4, 5, 6, 7, 0] rfl
      have hD := hD.sub (ws' := (wd_Model_parsed kA a0 a1 a2 a3 a4 a5 a6 a7 v0_0 v0_1 v0_2 v0_3 v0_6 v0_7 v0_8 v0_9 v0_10 v0_11 v0_12 v0_16 v0_20 v0_21 v0_22 v0_23 v0_24 v0_25 v0_26 v0_27 v0_28 x0_15 f1 f2 f3 f4 f5 u_2.2 f7)) [1, 2, 3, 4, 5, 6, 7, 0] (by decide) rfl
      clear hPc hDc hFc hP1 hK1 hD1
      generalize H1 = H at hP hS ⊢
      have e0 := Option.some.inj hF
      have q0 := Prod.mk.inj e0
      have q1 := Prod.mk.inj q0.2
      exact W.iret (v := u_2.1) hx hb hr (fun t ht hW => ⟨⟨u_2.1, (), rfl, q0.1, by rw [ht, ← q1.1, ← q1.2]; exact hP, va_K.moved hW.alike hK, (by rw [← q1.1, ← q1.2]; exact hD)⟩, hS.F ht⟩) hS.2.2 d_Model_parsed_37 hlocks
    · rw [if_neg c_1] at hF
      refine lv_aload_n hx hb d_Model_parsed_10 rfl (lv_at hl 0 rfl) ?_
      refine va_get (D := (dC, dI)) (ci := 9) (v := .ref a2) (C := R_Model) (T := F_Model) (N := 29) hx hb hg iw_Model hown hK hP 0 rfl rfl 18 (by decide) (hg _ gw_275) (fun _ h9 => h9) rfl d_Model_parsed_11 ?_
      refine lv_iload_n hx hb d_Model_parsed_14 rfl (lv_at hl 1 rfl) ?_
      refine lv_aload_n hx hb d_Model_parsed_15 rfl (lv_at hl 0 rfl) ?_
      refine va_get (D := (dC, dI)) (ci := 9) (v := .ref a7) (C := R_Model) (T := F_Model) (N := 29) hx hb hg iw_Model hown hK hP 0 rfl rfl 17 (by decide) (hg _ gw_330) (fun _ h9 => h9) rfl d_Model_parsed_16 ?_
      refine lv_iload_n hx hb d_Model_parsed_19 rfl (lv_at hl 1 rfl) ?_
      obtain ⟨h_3, hF⟩ := rd_chk hF
      refine va_iald hx hb hK hP 7 0 rfl rfl h_3 d_Model_parsed_20 ?_
      obtain ⟨h_4, hF⟩ := rd_chk hF
      refine va_iast hx hb hK hP hD hS 2 0 rfl rfl h_4 d_Model_parsed_21 (fun H locs hP hD hS => ?_)
      have hP : va_P (dC, dI) classes (wd_Model_parsed kA a0 a1 a2 a3 a4 a5 a6 a7 v0_0 v0_1 v0_2 v0_3 v0_6 v0_7 v0_8 v0_9 v0_10 v0_11 v0_12 v0_16 v0_20 v0_21 v0_22 v0_23 v0_24 v0_25 v0_26 v0_27 v0_28 x0_15 f1 (upd f2 (Int32.toNatClampNeg l1) (f7 (Int32.toNatClampNeg l1))) f3 f4 f5 f6 f7) H := hP
      have hD : va_D A (wd_Model_parsed kA a0 a1 a2 a3 a4 a5 a6 a7 v0_0 v0_1 v0_2 v0_3 v0_6 v0_7 v0_8 v0_9 v0_10 v0_11 v0_12 v0_16 v0_20 v0_21 v0_22 v0_23 v0_24 v0_25 v0_26 v0_27 v0_28 x0_15 f1 (upd f2 (Int32.toNatClampNeg l1) (f7 (Int32.toNatClampNeg l1))) f3 f4 f5 f6 f7) := hD
      refine lv_iinc (v := (l1 + 1)) (lv' := [(1, .int (l1 + 1)), (0, .ref a0)]) hx hb d_Model_parsed_22 hl (k := 1) rfl (by rfl) (by decide) rfl (fun ls hl => ?_)
      refine lv_goto (tgt := 2) hx hb d_Model_parsed_25 (by decide) ?_
      exact ih (l1 + 1) (upd f2 (Int32.toNatClampNeg l1) (f7 (Int32.toNatClampNeg l1))) f6 hF _ _ _ hP hD hS (lv_sub hl [1, 0] rfl)
def S_Model_parsed (x0_15 : Int32) (f1 : (Nat → Int32)) (f2 : (Nat → Int32)) (f3 : (Nat → Int32)) (f4 : (Nat → Int32)) (f5 : (Nat → Int32)) (f6 : (Nat → Int32)) (f7 : (Nat → Int32)) : Option (Int32 × (Nat → Int32) × (Nat → Int32)) := (F_Model_parsed x0_15 f1 f3 f4 f5 f7 fuel_ 0 0 f2 f6)
set_option maxHeartbeats 4000000 in
set_option maxRecDepth 100000 in
theorem c_Model_parsed (l : Launch) (dC : Nat → ClassId) (dI : Nat → Nat → Nat) (kA : Nat → ClassId) (sz : Nat) (a0 a1 a2 a3 a4 a5 a6 a7 : Nat) (v0_0 v0_1 v0_2 v0_3 v0_6 v0_7 v0_8 v0_9 v0_10 v0_11 v0_12 v0_16 v0_20 v0_21 v0_22 v0_23 v0_24 v0_25 v0_26 v0_27 v0_28 : Value) (x0_15 : Int32) (f1 : (Nat → Int32)) (f2 : (Nat → Int32)) (f3 : (Nat → Int32)) (f4 : (Nat → Int32)) (f5 : (Nat → Int32)) (f6 : (Nat → Int32)) (f7 : (Nat → Int32)) (r : Int32) (of2 : (Nat → Int32)) (of6 : (Nat → Int32)) (hF : S_Model_parsed x0_15 f1 f2 f3 f4 f5 f6 f7 = some (r, of2, of6)) : Met l y_Model_parsed w_Model_parsed rm_Model_parsed (va_Pc [.ref a0] (fun U => U.heap.size = sz ∧ va_P (dC, dI) classes (wd_Model_parsed kA a0 a1 a2 a3 a4 a5 a6 a7 v0_0 v0_1 v0_2 v0_3 v0_6 v0_7 v0_8 v0_9 v0_10 v0_11 v0_12 v0_16 v0_20 v0_21 v0_22 v0_23 v0_24 v0_25 v0_26 v0_27 v0_28 x0_15 f1 f2 f3 f4 f5 f6 f7) U.heap ∧ va_K (dC, dI) classes (tys_ kA) U ∧ va_D (fun _ => True) (wd_Model_parsed kA a0 a1 a2 a3 a4 a5 a6 a7 v0_0 v0_1 v0_2 v0_3 v0_6 v0_7 v0_8 v0_9 v0_10 v0_11 v0_12 v0_16 v0_20 v0_21 v0_22 v0_23 v0_24 v0_25 v0_26 v0_27 v0_28 x0_15 f1 f2 f3 f4 f5 f6 f7))) (va_Qi (fun (r1 : Int32) (_ : Unit) => r1 = r) (fun _ t => va_P (dC, dI) classes (wd_Model_parsed kA a0 a1 a2 a3 a4 a5 a6 a7 v0_0 v0_1 v0_2 v0_3 v0_6 v0_7 v0_8 v0_9 v0_10 v0_11 v0_12 v0_16 v0_20 v0_21 v0_22 v0_23 v0_24 v0_25 v0_26 v0_27 v0_28 x0_15 f1 of2 f3 f4 f5 of6 f7) t.heap ∧ va_K (dC, dI) classes (tys_ kA) t ∧ va_D (va_A (wd_Model_parsed kA a0 a1 a2 a3 a4 a5 a6 a7 v0_0 v0_1 v0_2 v0_3 v0_6 v0_7 v0_8 v0_9 v0_10 v0_11 v0_12 v0_16 v0_20 v0_21 v0_22 v0_23 v0_24 v0_25 v0_26 v0_27 v0_28 x0_15 f1 f2 f3 f4 f5 f6 f7) sz) (wd_Model_parsed kA a0 a1 a2 a3 a4 a5 a6 a7 v0_0 v0_1 v0_2 v0_3 v0_6 v0_7 v0_8 v0_9 v0_10 v0_11 v0_12 v0_16 v0_20 v0_21 v0_22 v0_23 v0_24 v0_25 v0_26 v0_27 v0_28 x0_15 f1 of2 f3 f4 f5 of6 f7)) (va_A (wd_Model_parsed kA a0 a1 a2 a3 a4 a5 a6 a7 v0_0 v0_1 v0_2 v0_3 v0_6 v0_7 v0_8 v0_9 v0_10 v0_11 v0_12 v0_16 v0_20 v0_21 v0_22 v0_23 v0_24 v0_25 v0_26 v0_27 v0_28 x0_15 f1 f2 f3 f4 f5 f6 f7) sz)) 0 0 (va_A (wd_Model_parsed kA a0 a1 a2 a3 a4 a5 a6 a7 v0_0 v0_1 v0_2 v0_3 v0_6 v0_7 v0_8 v0_9 v0_10 v0_11 v0_12 v0_16 v0_20 v0_21 v0_22 v0_23 v0_24 v0_25 v0_26 v0_27 v0_28 x0_15 f1 f2 f3 f4 f5 f6 f7) sz) := by
  refine Met.ofW (cc := b_Model_parsed) (maxL := 2) (ret := some .int) (by decide) rfl ?_
  intro p e s m args below meth c s₁ B hml hv
  obtain ⟨rfl, hsz, hP, hK, hD0⟩ := hv
  have hx := B.exec
  have hb := B.bytes
  have hr := B.returns
  have hts := atoms_spec (ws := w_Model_parsed) B.pre
  have hown : s.vm.findClass R_Model = some m.cls := findClass_of_methodNamed B.named
  have hg := fun (w : Cond) (h : w ∈ gw) => hts w (List.mem_cons_of_mem _ h)
  have hlocks := B.notSynchronized
  subst hsz
  have hD := hD0.self (sz := s.heap.size)
  generalize hAe : va_A (wd_Model_parsed kA a0 a1 a2 a3 a4 a5 a6 a7 v0_0 v0_1 v0_2 v0_3 v0_6 v0_7 v0_8 v0_9 v0_10 v0_11 v0_12 v0_16 v0_20 v0_21 v0_22 v0_23 v0_24 v0_25 v0_26 v0_27 v0_28 x0_15 f1 f2 f3 f4 f5 f6 f7) s.heap.size = A at hD ⊢
  have hA : ∀ q : Nat, s.heap.size ≤ q → A q := fun q h => by rw [← hAe]; exact Or.inr h
  have hS : va_S A s.heap s.heap [] := va_S.rf
  have hl := lv_entry ([.ref a0]) (n := 2) (Nat.le_of_ble_eq_true rfl)
  rw [lg_entry_eq]
  generalize (lg_sl ([.ref a0]) ++ List.replicate (2 - (lg_sl ([.ref a0])).length) Slot.unset).toArray = ls at hl ⊢
  have hl : lv_has ls 2 [(0, .ref a0)] := hl
  unfold S_Model_parsed at hF
  have ih := L_Model_parsed (l := l) (e := e) (below := below) hx hb hr hlocks hml hown hts hA hK a0 a1 a2 a3 a4 a5 a6 a7 v0_0 v0_1 v0_2 v0_3 v0_6 v0_7 v0_8 v0_9 v0_10 v0_11 v0_12 v0_16 v0_20 v0_21 v0_22 v0_23 v0_24 v0_25 v0_26 v0_27 v0_28 x0_15 f1 f3 f4 f5 f7 r of2 of6 fuel_
  refine lv_iconst (v := 0) hx hb d_Model_parsed_0 (by decide) ?_
  refine lv_istore_n (lv' := [(1, .int 0), (0, .ref a0)]) hx hb d_Model_parsed_1 rfl hl (by decide) rfl (fun ls hl => ?_)
  exact ih 0 f2 f6 hF _ _ _ hP hD hS (lv_sub hl [1, 0] rfl)
-- ===== RepairDeskModel.parse()I
abbrev wd_Model_parse (kA : Nat → ClassId) (a0 a1 a2 a3 a4 a5 a6 a7 : Nat) (v0_1 v0_2 v0_3 v0_6 v0_7 v0_8 v0_9 v0_10 v0_11 v0_16 v0_20 v0_21 v0_22 v0_23 v0_24 v0_25 v0_26 v0_27 v0_28 : Value) (x0_0 : Int32) (x0_12 : Int32) (x0_15 : Int32) (f1 : (Nat → Int32)) (f2 : (Nat → Int32)) (f3 : (Nat → Int32)) (f4 : (Nat → Int32)) (f5 : (Nat → Int32)) (f6 : (Nat → Int32)) (f7 : (Nat → Int32)) : va_W := [(a0, .inr (9, [.int x0_0, v0_1, v0_2, v0_3, .ref a3, .ref a4, v0_6, v0_7, v0_8, v0_9, v0_10, v0_11, .int x0_12, .ref a1, .ref a5, .int x0_15, v0_16, .ref a7, .ref a2, .ref a6, v0_20, v0_21, v0_22, v0_23, v0_24, v0_25, v0_26, v0_27, v0_28])), (a1, .inl (kA 0, 2310, .inl f1)), (a2, .inl (kA 0, 24, .inl f2)), (a3, .inl (kA 0, 11, .inl f3)), (a4, .inl (kA 0, 11, .inl f4)), (a5, .inl (kA 0, 492, .inl f5)), (a6, .inl (kA 0, 400, .inl f6)), (a7, .inl (kA 0, 16, .inl f7))]
abbrev rm_Model_parse : Room := { frames := 3, cells := 0, slots := 0, locals := 72 }
def S_Model_parse (x0_0 : Int32) (x0_12 : Int32) (x0_15 : Int32) (f1 : (Nat → Int32)) (f2 : (Nat → Int32)) (f3 : (Nat → Int32)) (f4 : (Nat → Int32)) (f5 : (Nat → Int32)) (f6 : (Nat → Int32)) (f7 : (Nat → Int32)) : Option (Int32 × Int32 × (Nat → Int32) × (Nat → Int32)) := (if ¬ x0_12 = 0 then ((S_Model_parsed x0_15 f1 f2 f3 f4 f5 f6 f7).bind fun u_2 => (some (u_2.1, 0, u_2.2.1, u_2.2.2))) else ((S_Model_fails 1 0).bind fun u_3 => (some (u_3.1, u_3.2, f2, f6))))
set_option maxHeartbeats 4000000 in
set_option maxRecDepth 100000 in
theorem c_Model_parse (l : Launch) (dC : Nat → ClassId) (dI : Nat → Nat → Nat) (kA : Nat → ClassId) (sz : Nat) (a0 a1 a2 a3 a4 a5 a6 a7 : Nat) (v0_1 v0_2 v0_3 v0_6 v0_7 v0_8 v0_9 v0_10 v0_11 v0_16 v0_20 v0_21 v0_22 v0_23 v0_24 v0_25 v0_26 v0_27 v0_28 : Value) (x0_0 : Int32) (x0_12 : Int32) (x0_15 : Int32) (f1 : (Nat → Int32)) (f2 : (Nat → Int32)) (f3 : (Nat → Int32)) (f4 : (Nat → Int32)) (f5 : (Nat → Int32)) (f6 : (Nat → Int32)) (f7 : (Nat → Int32)) (r : Int32) (ox0_0 : Int32) (of2 : (Nat → Int32)) (of6 : (Nat → Int32)) (hF : S_Model_parse x0_0 x0_12 x0_15 f1 f2 f3 f4 f5 f6 f7 = some (r, ox0_0, of2, of6)) : Met l y_Model_parse w_Model_parse rm_Model_parse (va_Pc [.ref a0] (fun U => U.heap.size = sz ∧ va_P (dC, dI) classes (wd_Model_parse kA a0 a1 a2 a3 a4 a5 a6 a7 v0_1 v0_2 v0_3 v0_6 v0_7 v0_8 v0_9 v0_10 v0_11 v0_16 v0_20 v0_21 v0_22 v0_23 v0_24 v0_25 v0_26 v0_27 v0_28 x0_0 x0_12 x0_15 f1 f2 f3 f4 f5 f6 f7) U.heap ∧ va_K (dC, dI) classes (tys_ kA) U ∧ va_D (fun _ => True) (wd_Model_parse kA a0 a1 a2 a3 a4 a5 a6 a7 v0_1 v0_2 v0_3 v0_6 v0_7 v0_8 v0_9 v0_10 v0_11 v0_16 v0_20 v0_21 v0_22 v0_23 v0_24 v0_25 v0_26 v0_27 v0_28 x0_0 x0_12 x0_15 f1 f2 f3 f4 f5 f6 f7))) (va_Qi (fun (r1 : Int32) (_ : Unit) => r1 = r) (fun _ t => va_P (dC, dI) classes (wd_Model_parse kA a0 a1 a2 a3 a4 a5 a6 a7 v0_1 v0_2 v0_3 v0_6 v0_7 v0_8 v0_9 v0_10 v0_11 v0_16 v0_20 v0_21 v0_22 v0_23 v0_24 v0_25 v0_26 v0_27 v0_28 ox0_0 x0_12 x0_15 f1 of2 f3 f4 f5 of6 f7) t.heap ∧ va_K (dC, dI) classes (tys_ kA) t ∧ va_D (va_A (wd_Model_parse kA a0 a1 a2 a3 a4 a5 a6 a7 v0_1 v0_2 v0_3 v0_6 v0_7 v0_8 v0_9 v0_10 v0_11 v0_16 v0_20 v0_21 v0_22 v0_23 v0_24 v0_25 v0_26 v0_27 v0_28 x0_0 x0_12 x0_15 f1 f2 f3 f4 f5 f6 f7) sz) (wd_Model_parse kA a0 a1 a2 a3 a4 a5 a6 a7 v0_1 v0_2 v0_3 v0_6 v0_7 v0_8 v0_9 v0_10 v0_11 v0_16 v0_20 v0_21 v0_22 v0_23 v0_24 v0_25 v0_26 v0_27 v0_28 ox0_0 x0_12 x0_15 f1 of2 f3 f4 f5 of6 f7)) (va_A (wd_Model_parse kA a0 a1 a2 a3 a4 a5 a6 a7 v0_1 v0_2 v0_3 v0_6 v0_7 v0_8 v0_9 v0_10 v0_11 v0_16 v0_20 v0_21 v0_22 v0_23 v0_24 v0_25 v0_26 v0_27 v0_28 x0_0 x0_12 x0_15 f1 f2 f3 f4 f5 f6 f7) sz)) 0 0 (va_A (wd_Model_parse kA a0 a1 a2 a3 a4 a5 a6 a7 v0_1 v0_2 v0_3 v0_6 v0_7 v0_8 v0_9 v0_10 v0_11 v0_16 v0_20 v0_21 v0_22 v0_23 v0_24 v0_25 v0_26 v0_27 v0_28 x0_0 x0_12 x0_15 f1 f2 f3 f4 f5 f6 f7) sz) := by
  refine Met.ofW (cc := b_Model_parse) (maxL := 1) (ret := some .int) (by decide) rfl ?_
  intro p e s m args below meth c s₁ B hml hv
  obtain ⟨rfl, hsz, hP, hK, hD0⟩ := hv
  have hx := B.exec
  have hb := B.bytes
  have hr := B.returns
  have hts := atoms_spec (ws := w_Model_parse) B.pre
  have hown : s.vm.findClass R_Model = some m.cls := findClass_of_methodNamed B.named
  have hg := fun (w : Cond) (h : w ∈ gw) => hts w (List.mem_cons_of_mem _ h)
  have hlocks := B.notSynchronized
  subst hsz
  have hD := hD0.self (sz := s.heap.size)
  generalize hAe : va_A (wd_Model_parse kA a0 a1 a2 a3 a4 a5 a6 a7 v0_1 v0_2 v0_3 v0_6 v0_7 v0_8 v0_9 v0_10 v0_11 v0_16 v0_20 v0_21 v0_22 v0_23 v0_24 v0_25 v0_26 v0_27 v0_28 x0_0 x0_12 x0_15 f1 f2 f3 f4 f5 f6 f7) s.heap.size = A at hD ⊢
  have hA : ∀ q : Nat, s.heap.size ≤ q → A q := fun q h => by rw [← hAe]; exact Or.inr h
  have hS : va_S A s.heap s.heap [] := va_S.rf
  have hl := lv_entry ([.ref a0]) (n := 1) (Nat.le_of_ble_eq_true rfl)
  rw [lg_entry_eq]
  generalize (lg_sl ([.ref a0]) ++ List.replicate (1 - (lg_sl ([.ref a0])).length) Slot.unset).toArray = ls at hl ⊢
  have hl : lv_has ls 1 [(0, .ref a0)] := hl
  unfold S_Model_parse at hF
  refine lv_aload_n hx hb d_Model_parse_0 rfl (lv_at hl 0 rfl) ?_
  refine lv_iconst (v := 0) hx hb d_Model_parse_1 (by decide) ?_
  refine va_put (D := (dC, dI)) (ci := 9) (v := .int 0) (ty := .int) (C := R_Model) (T := F_Model) (N := 29) hx hb hg iw_Model t_Model t_Model_ok n_Model hown hK hP hD hS 0 rfl rfl 0 (by decide) (hg _ gw_259) (fun _ h9 => h9) rfl (by decide +kernel) rfl rfl (Nat.le_of_ble_eq_true rfl) d_Model_parse_2 (fun H locs hP hD hS => ?_)
  have hP : va_P (dC, dI) classes (wd_Model_parse kA a0 a1 a2 a3 a4 a5 a6 a7 v0_1 v0_2 v0_3 v0_6 v0_7 v0_8 v0_9 v0_10 v0_11 v0_16 v0_20 v0_21 v0_22 v0_23 v0_24 v0_25 v0_26 v0_27 v0_28 0 x0_12 x0_15 f1 f2 f3 f4 f5 f6 f7) H := hP
  have hD : va_D A (wd_Model_parse kA a0 a1 a2 a3 a4 a5 a6 a7 v0_1 v0_2 v0_3 v0_6 v0_7 v0_8 v0_9 v0_10 v0_11 v0_16 v0_20 v0_21 v0_22 v0_23 v0_24 v0_25 v0_26 v0_27 v0_28 0 x0_12 x0_15 f1 f2 f3 f4 f5 f6 f7) := hD
  refine lv_aload_n hx hb d_Model_parse_5 rfl (lv_at hl 0 rfl) ?_
  refine va_get (D := (dC, dI)) (ci := 9) (v := .int x0_12) (C := R_Model) (T := F_Model) (N := 29) hx hb hg iw_Model hown hK hP 0 rfl rfl 12 (by decide) (hg _ gw_280) (fun _ h9 => h9) rfl d_Model_parse_6 ?_
  refine lv_if_ne (tgt := 20) hx hb d_Model_parse_9 (by decide) (fun c_1 => ?_) (fun c_1 => ?_)
  · rw [if_pos c_1] at hF
    refine lv_aload_n hx hb d_Model_parse_20 rfl (lv_at hl 0 rfl) ?_
    obtain ⟨u_2, hS_2, hF⟩ := rd_bind hF
    have hPc := hP.sub (ws' := (wd_Model_parsed kA a0 a1 a2 a3 a4 a5 a6 a7 (.int 0) v0_1 v0_2 v0_3 v0_6 v0_7 v0_8 v0_9 v0_10 v0_11 (.int x0_12) v0_16 v0_20 v0_21 v0_22 v0_23 v0_24 v0_25 v0_26 v0_27 v0_28 x0_15 f1 f2 f3 f4 f5 f6 f7)) [0, 1, 2, 3, 4, 5, 6, 7] rfl
    have hDc := hD.sub (ws' := (wd_Model_parsed kA a0 a1 a2 a3 a4 a5 a6 a7 (.int 0) v0_1 v0_2 v0_3 v0_6 v0_7 v0_8 v0_9 v0_10 v0_11 (.int x0_12) v0_16 v0_20 v0_21 v0_22 v0_23 v0_24 v0_25 v0_26 v0_27 v0_28 x0_15 f1 f2 f3 f4 f5 f6 f7)) [0, 1, 2, 3, 4, 5, 6, 7] (by decide) rfl
    have hFc := va_free (wc := (wd_Model_parsed kA a0 a1 a2 a3 a4 a5 a6 a7 (.int 0) v0_1 v0_2 v0_3 v0_6 v0_7 v0_8 v0_9 v0_10 v0_11 (.int x0_12) v0_16 v0_20 v0_21 v0_22 v0_23 v0_24 v0_25 v0_26 v0_27 v0_28 x0_15 f1 f2 f3 f4 f5 f6 f7)) hD hS hA [0, 1, 2, 3, 4, 5, 6, 7] rfl
    refine va_calli (va_runV (As := []) (rest := []) ⟨hx, hb, hml, hown, hts⟩ (c_Model_parsed l dC dI kA H.size a0 a1 a2 a3 a4 a5 a6 a7 (.int 0) v0_1 v0_2 v0_3 v0_6 v0_7 v0_8 v0_9 v0_10 v0_11 (.int x0_12) v0_16 v0_20 v0_21 v0_22 v0_23 v0_24 v0_25 v0_26 v0_27 v0_28 x0_15 f1 f2 f3 f4 f5 f6 f7 u_2.1 u_2.2.1 u_2.2.2 hS_2) (cwV 0 hts (gw_V gw_337 gw_338 gw_339 gw_267 gw_340) rfl rfl rfl (by decide +kernel) ⟨Nat.le_of_ble_eq_true rfl, Nat.le_of_ble_eq_true rfl⟩) ⟨fun a U g mk q => by obtain ⟨q0, q1, qP, qK, qD⟩ := q; exact ⟨q0, q1, qP, va_K.moved (u := U) (U := U.calling g mk a) (Vm.Alike.refl U.vm) qK, qD⟩, va_recv hK hP (ci := 9) (q0 := 0) rfl rfl, fun U hU hW => ⟨rfl, by rw [hU], by rw [hU]; exact hPc, va_K.moved hW.alike hK, hDc.weaken (fun _ _ _ _ => trivial)⟩⟩ rfl rfl hl.1 rfl (lv_room (Nat.le_of_ble_eq_true rfl)) d_Model_parse_21 ⟨Nat.zero_le _, Nat.zero_le _⟩) hS (fun q _ h => hFc q h) hFc (fun r1 u t H1 locs ht hvm hw hB hz1 hk1 hS => ?_)
    rw [show r1 = _ from hw]
    obtain ⟨hP1, hK1, hD1⟩ := hB
    rw [ht] at hP1
    obtain ⟨hP, hD⟩ := va_join (wr := []) (w1 := (wd_Model_parsed kA a0 a1 a2 a3 a4 a5 a6 a7 (.int 0) v0_1 v0_2 v0_3 v0_6 v0_7 v0_8 v0_9 v0_10 v0_11 (.int x0_12) v0_16 v0_20 v0_21 v0_22 v0_23 v0_24 v0_25 v0_26 v0_27 v0_28 x0_15 f1 u_2.2.1 f3 f4 f5 u_2.2.2 f7)) hP hD [0, 1, 2, 3, 4, 5, 6, 7] [] rfl rfl (by decide) (by decide) hk1 hFc hP1 hD1
    have hP := hP.sub (ws' := (wd_Model_parse kA a0 a1 a2 a3 a4 a5 a6 a7 v0_1 v0_2 v0_3 v0_6 v0_7 v0_8 v0_9 v0_10 v0_11 v0_16 v0_20 v0_21 v0_22 v0_23 v0_24 v0_25 v0_26 v0_27 v0_28 0 x0_12 x0_15 f1 u_2.2.1 f3 f4 f5 u_2.2.2 f7)) [0, 1, 2, 3, 4, 5, 6, 7] rfl
    have hD := hD.sub (ws' := (wd_Model_parse kA a0 a1 a2 a3 a4 a5 a6 a7 v0_1 v0_2 v0_3 v0_6 v0_7 v0_8 v0_9 v0_10 v0_11 v0_16 v0_20 v0_21 v0_22 v0_23 v0_24 v0_25 v0_26 v0_27 v0_28 0 x0_12 x0_15 f1 u_2.2.1 f3 f4 f5 u_2.2.2 f7)) [0, 1, 2, 3, 4, 5, 6, 7] (by decide) rfl
    clear hPc hDc hFc hP1 hK1 hD1
    generalize H1 = H at hP hS ⊢
    have e0 := Option.some.inj hF
    have q0 := Prod.mk.inj e0
    have q1 := Prod.mk.inj q0.2
    have q2 := Prod.mk.inj q1.2
    exact W.iret (v := u_2.1) hx hb hr (fun t ht hW => ⟨⟨u_2.1, (), rfl, q0.1, by rw [ht, ← q1.1, ← q2.1, ← q2.2]; exact hP, va_K.moved hW.alike hK, (by rw [← q1.1, ← q2.1, ← q2.2]; exact hD)⟩, hS.F ht⟩) hS.2.2 d_Model_parse_24 hlocks
  · rw [if_neg (fun z => z c_1)] at hF
    refine lv_aload_n hx hb d_Model_parse_12 rfl (lv_at hl 0 rfl) ?_
    refine lv_iconst (v := 1) hx hb d_Model_parse_13 (by decide) ?_
    obtain ⟨u_3, hS_3, hF⟩ := rd_bind hF
    have hPc := hP.sub (ws' := (wd_Model_fails kA a0 v0_1 v0_2 v0_3 (.ref a3) (.ref a4) v0_6 v0_7 v0_8 v0_9 v0_10 v0_11 (.int x0_12) (.ref a1) (.ref a5) (.int x0_15) v0_16 (.ref a7) (.ref a2) (.ref a6) v0_20 v0_21 v0_22 v0_23 v0_24 v0_25 v0_26 v0_27 v0_28 0)) [0] rfl
    have hDc := hD.sub (ws' := (wd_Model_fails kA a0 v0_1 v0_2 v0_3 (.ref a3) (.ref a4) v0_6 v0_7 v0_8 v0_9 v0_10 v0_11 (.int x0_12) (.ref a1) (.ref a5) (.int x0_15) v0_16 (.ref a7) (.ref a2) (.ref a6) v0_20 v0_21 v0_22 v0_23 v0_24 v0_25 v0_26 v0_27 v0_28 0)) [0] (by decide) rfl
    have hFc := va_free (wc := (wd_Model_fails kA a0 v0_1 v0_2 v0_3 (.ref a3) (.ref a4) v0_6 v0_7 v0_8 v0_9 v0_10 v0_11 (.int x0_12) (.ref a1) (.ref a5) (.int x0_15) v0_16 (.ref a7) (.ref a2) (.ref a6) v0_20 v0_21 v0_22 v0_23 v0_24 v0_25 v0_26 v0_27 v0_28 0)) hD hS hA [0] rfl
    refine va_calli (va_runV (As := [.int 1]) (rest := []) ⟨hx, hb, hml, hown, hts⟩ (c_Model_fails l dC dI kA H.size a0 v0_1 v0_2 v0_3 (.ref a3) (.ref a4) v0_6 v0_7 v0_8 v0_9 v0_10 v0_11 (.int x0_12) (.ref a1) (.ref a5) (.int x0_15) v0_16 (.ref a7) (.ref a2) (.ref a6) v0_20 v0_21 v0_22 v0_23 v0_24 v0_25 v0_26 v0_27 v0_28 1 0 u_3.1 u_3.2 hS_3) (cwV 1 hts (gw_V gw_264 gw_265 gw_266 gw_267 gw_268) rfl rfl rfl (by decide +kernel) ⟨Nat.le_of_ble_eq_true rfl, Nat.le_of_ble_eq_true rfl⟩) ⟨fun a U g mk q => by obtain ⟨q0, q1, qP, qK, qD⟩ := q; exact ⟨q0, q1, qP, va_K.moved (u := U) (U := U.calling g mk a) (Vm.Alike.refl U.vm) qK, qD⟩, va_recv hK hP (ci := 9) (q0 := 0) rfl rfl, fun U hU hW => ⟨rfl, by rw [hU], by rw [hU]; exact hPc, va_K.moved hW.alike hK, hDc.weaken (fun _ _ _ _ => trivial)⟩⟩ rfl rfl hl.1 rfl (lv_room (Nat.le_of_ble_eq_true rfl)) d_Model_parse_14 ⟨Nat.zero_le _, Nat.zero_le _⟩) hS (fun q _ h => hFc q h) hFc (fun r1 u t H1 locs ht hvm hw hB hz1 hk1 hS => ?_)
    rw [show r1 = _ from hw]
    obtain ⟨hP1, hK1, hD1⟩ := hB
    rw [ht] at hP1
    obtain ⟨hP, hD⟩ := va_join (wr := [(a1, .inl (kA 0, 2310, .inl f1)), (a2, .inl (kA 0, 24, .inl f2)), (a3, .inl (kA 0, 11, .inl f3)), (a4, .inl (kA 0, 11, .inl f4)), (a5, .inl (kA 0, 492, .inl f5)), (a6, .inl (kA 0, 400, .inl f6)), (a7, .inl (kA 0, 16, .inl f7))]) (w1 := (wd_Model_fails kA a0 v0_1 v0_2 v0_3 (.ref a3) (.ref a4) v0_6 v0_7 v0_8 v0_9 v0_10 v0_11 (.int x0_12) (.ref a1) (.ref a5) (.int x0_15) v0_16 (.ref a7) (.ref a2) (.ref a6) v0_20 v0_21 v0_22 v0_23 v0_24 v0_25 v0_26 v0_27 v0_28 u_3.2)) hP hD [0] [1, 2, 3, 4, 5, 6, 7] rfl rfl (by decide) (by decide) hk1 hFc hP1 hD1
    have hP := hP.sub (ws' := (wd_Model_parse kA a0 a1 a2 a3 a4 a5 a6 a7 v0_1 v0_2 v0_3 v0_6 v0_7 v0_8 v0_9 v0_10 v0_11 v0_16 v0_20 v0_21 v0_22 v0_23 v0_24 v0_25 v0_26 v0_27 v0_28 u_3.2 x0_12 x0_15 f1 f2 f3 f4 f5 f6 f7)) [7, 0, 1, 2, 3, 4, 5, 6] rfl
    have hD := hD.sub (ws' := (wd_Model_parse kA a0 a1 a2 a3 a4 a5 a6 a7 v0_1 v0_2 v0_3 v0_6 v0_7 v0_8 v0_9 v0_10 v0_11 v0_16 v0_20 v0_21 v0_22 v0_23 v0_24 v0_25 v0_26 v0_27 v0_28 u_3.2 x0_12 x0_15 f1 f2 f3 f4 f5 f6 f7)) [7, 0, 1, 2, 3, 4, 5, 6] (by decide) rfl
    clear hPc hDc hFc hP1 hK1 hD1
    generalize H1 = H at hP hS ⊢
    refine lv_goto (tgt := 24) hx hb d_Model_parse_17 (by decide) ?_
    have e0 := Option.some.inj hF
    have q0 := Prod.mk.inj e0
    have q1 := Prod.mk.inj q0.2
    have q2 := Prod.mk.inj q1.2
    exact W.iret (v := u_3.1) hx hb hr (fun t ht hW => ⟨⟨u_3.1, (), rfl, q0.1, by rw [ht, ← q1.1, ← q2.1, ← q2.2]; exact hP, va_K.moved hW.alike hK, (by rw [← q1.1, ← q2.1, ← q2.2]; exact hD)⟩, hS.F ht⟩) hS.2.2 d_Model_parse_24 hlocks
