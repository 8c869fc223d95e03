-- ===== RepairDeskModel.begins(III)I
abbrev wd_Model_begins (kA : Nat → ClassId) (a0 a1 a2 a3 a4 : Nat) (v0_0 v0_1 v0_2 v0_3 v0_4 v0_7 v0_8 v0_11 v0_12 v0_13 v0_14 v0_15 v0_16 v0_17 v0_18 v0_19 v0_20 v0_21 v0_22 v0_23 v0_24 v0_25 v0_26 v0_27 v0_28 : Value) (f1 : (Nat → Int32)) (f2 : (Nat → Int32)) (f3 : (Nat → Int32)) (f4 : (Nat → Int32)) : va_W := [(a0, .inr (9, [v0_0, v0_1, v0_2, v0_3, v0_4, .ref a3, .ref a4, v0_7, v0_8, .ref a1, .ref a2, v0_11, v0_12, v0_13, v0_14, v0_15, v0_16, v0_17, v0_18, v0_19, v0_20, v0_21, v0_22, v0_23, v0_24, v0_25, v0_26, v0_27, v0_28])), (a1, .inl (kA 1, 6, .inl f1)), (a2, .inl (kA 0, 6, .inl f2)), (a3, .inl (kA 0, 11, .inl f3)), (a4, .inl (kA 0, 44, .inl f4))]
abbrev rm_Model_begins : Room := { frames := 0, cells := 0, slots := 0, locals := 0 }
def B_Model_begins_0 (K : Nat → Int32 → Int32 → Int32 → Int32 → Int32 → Option (Int32)) (f1 : (Nat → Int32)) (f2 : (Nat → Int32)) (f3 : (Nat → Int32)) (f4 : (Nat → Int32)) (l1 : Int32) (l2 : Int32) (l3 : Int32) (l4 : Int32) (l5 : Int32)  : Option (Int32) := (if (l1 : Int32) < 0 ∨ 11 ≤ (Int32.toNatClampNeg l1) then none else (if ((4 * l1) + (f3 (Int32.toNatClampNeg l1))) ≤ l5 then (some (l4 ||| l3)) else (if (l5 : Int32) < 0 ∨ 44 ≤ (Int32.toNatClampNeg l5) then none else (if 6 ≤ (f4 (Int32.toNatClampNeg l5)) then (if (((f4 (Int32.toNatClampNeg l5)) - 6) : Int32) < 0 ∨ 6 ≤ (Int32.toNatClampNeg ((f4 (Int32.toNatClampNeg l5)) - 6)) then none else (if (f4 (Int32.toNatClampNeg l5)) < 6 then (some (l4 ||| (f2 (Int32.toNatClampNeg ((f4 (Int32.toNatClampNeg l5)) - 6))))) else (if (((f4 (Int32.toNatClampNeg l5)) - 6) : Int32) < 0 ∨ 6 ≤ (Int32.toNatClampNeg ((f4 (Int32.toNatClampNeg l5)) - 6)) then none else (if ¬ (f1 (Int32.toNatClampNeg ((f4 (Int32.toNatClampNeg l5)) - 6))) = 0 then (K 0 l1 l2 l3 (l4 ||| (f2 (Int32.toNatClampNeg ((f4 (Int32.toNatClampNeg l5)) - 6)))) (l5 + 1)) else (some (l4 ||| (f2 (Int32.toNatClampNeg ((f4 (Int32.toNatClampNeg l5)) - 6))))))))) else (if (f4 (Int32.toNatClampNeg l5)) < 6 then (some (l4 ||| ((1 : Int32) <<< (((f4 (Int32.toNatClampNeg l5)) : Int32) &&& 31)))) else (if (((f4 (Int32.toNatClampNeg l5)) - 6) : Int32) < 0 ∨ 6 ≤ (Int32.toNatClampNeg ((f4 (Int32.toNatClampNeg l5)) - 6)) then none else (if ¬ (f1 (Int32.toNatClampNeg ((f4 (Int32.toNatClampNeg l5)) - 6))) = 0 then (K 0 l1 l2 l3 (l4 ||| ((1 : Int32) <<< (((f4 (Int32.toNatClampNeg l5)) : Int32) &&& 31))) (l5 + 1)) else (some (l4 ||| ((1 : Int32) <<< (((f4 (Int32.toNatClampNeg l5)) : Int32) &&& 31)))))))))))
def F_Model_begins (f1 : (Nat → Int32)) (f2 : (Nat → Int32)) (f3 : (Nat → Int32)) (f4 : (Nat → Int32)) : Nat → Nat → Int32 → Int32 → Int32 → Int32 → Int32 → Option (Int32)
  | 0 => fun _ _ _ _ _ _ => none
  | n + 1 => fun hd l1 l2 l3 l4 l5 => match hd with
    | 0 => B_Model_begins_0 (F_Model_begins f1 f2 f3 f4 n) f1 f2 f3 f4 l1 l2 l3 l4 l5
    | _ => none
set_option maxHeartbeats 4000000 in
set_option maxRecDepth 100000 in
theorem L_Model_begins {p : Program} {l : Launch} {e : Env} {s : State} {m : MethodId} {args : Array Value} {below : List Frame} {meth : Method} {c : Code} {A : Nat → Prop} {dC : Nat → ClassId} {dI : Nat → Nat → Nat} {kA : Nat → ClassId} (hx : p.tables.exec = Jvm.exec) (hb : c.code = b_Model_begins) (hr : meth.sig.returnType = some .int) (hlocks : meth.locks = false) (hml : c.maxLocals = 7) (hown : s.vm.findClass R_Model = some m.cls) (hts : ∀ w ∈ w_Model_begins, w.before args s = true) (hA : ∀ q : Nat, s.heap.size ≤ q → A q) (hK : va_K (dC, dI) classes (tys_ kA) s) (a0 a1 a2 a3 a4 : Nat) (v0_0 v0_1 v0_2 v0_3 v0_4 v0_7 v0_8 v0_11 v0_12 v0_13 v0_14 v0_15 v0_16 v0_17 v0_18 v0_19 v0_20 v0_21 v0_22 v0_23 v0_24 v0_25 v0_26 v0_27 v0_28 : Value) (f1 : (Nat → Int32)) (f2 : (Nat → Int32)) (f3 : (Nat → Int32)) (f4 : (Nat → Int32)) (r : Int32) : ∀ n : Nat, (∀ (l1 l2 l3 l4 l5 : Int32), F_Model_begins f1 f2 f3 f4 n 0 l1 l2 l3 l4 l5 = some r → ∀ (H : Heap) (locs : List Loc) (ls : Array Slot), va_P (dC, dI) classes (wd_Model_begins kA a0 a1 a2 a3 a4 v0_0 v0_1 v0_2 v0_3 v0_4 v0_7 v0_8 v0_11 v0_12 v0_13 v0_14 v0_15 v0_16 v0_17 v0_18 v0_19 v0_20 v0_21 v0_22 v0_23 v0_24 v0_25 v0_26 v0_27 v0_28 f1 f2 f3 f4) H → va_D A (wd_Model_begins kA a0 a1 a2 a3 a4 v0_0 v0_1 v0_2 v0_3 v0_4 v0_7 v0_8 v0_11 v0_12 v0_13 v0_14 v0_15 v0_16 v0_17 v0_18 v0_19 v0_20 v0_21 v0_22 v0_23 v0_24 v0_25 v0_26 v0_27 v0_28 f1 f2 f3 f4) → va_S A s.heap H locs → lv_has ls 7 [(0, .ref a0), (1, .int l1), (2, .int l2), (3, .int l3), (4, .int l4), (5, .int l5)] → W p l e (headSpec w_Model_begins rm_Model_begins).room s m args below meth c H locs 0 0 (MQ below (va_Qi (fun (r1 : Int32) (_ : Unit) => r1 = r) (fun _ t => va_P (dC, dI) classes (wd_Model_begins kA a0 a1 a2 a3 a4 v0_0 v0_1 v0_2 v0_3 v0_4 v0_7 v0_8 v0_11 v0_12 v0_13 v0_14 v0_15 v0_16 v0_17 v0_18 v0_19 v0_20 v0_21 v0_22 v0_23 v0_24 v0_25 v0_26 v0_27 v0_28 f1 f2 f3 f4) t.heap ∧ va_K (dC, dI) classes (tys_ kA) t ∧ va_D A (wd_Model_begins kA a0 a1 a2 a3 a4 v0_0 v0_1 v0_2 v0_3 v0_4 v0_7 v0_8 v0_11 v0_12 v0_13 v0_14 v0_15 v0_16 v0_17 v0_18 v0_19 v0_20 v0_21 v0_22 v0_23 v0_24 v0_25 v0_26 v0_27 v0_28 f1 f2 f3 f4)) A) args s 0 0 A) (F0 m 10 ls [])) := by
  have hg := fun (w : Cond) (h : w ∈ gw) => hts w (List.mem_cons_of_mem _ h)
  intro n
  induction n with
  | zero =>
    exact fun _ _ _ _ _ hF => absurd (show (none : Option _) = some _ from hF) (fun z => by cases z)
  | succ n ih =>
    intro l1 l2 l3 l4 l5 hF H locs ls hP hD hS hl
    have hF : B_Model_begins_0 (F_Model_begins f1 f2 f3 f4 n) f1 f2 f3 f4 l1 l2 l3 l4 l5 = some r := hF
    unfold B_Model_begins_0 at hF
    refine lv_iload hx hb d_Model_begins_10 (lv_at hl 5 rfl) ?_
    refine lv_iconst (v := 4) hx hb d_Model_begins_12 (by decide) ?_
    refine lv_iload_n hx hb d_Model_begins_13 rfl (lv_at hl 1 rfl) ?_
    refine lv_imul hx hb d_Model_begins_14 ?_
    refine lv_aload_n hx hb d_Model_begins_15 rfl (lv_at hl 0 rfl) ?_
    refine va_get (D := (dC, dI)) (ci := 9) (v := .ref a3) (C := R_Model) (T := F_Model) (N := 29) hx hb hg iw_Model hown hK hP 0 rfl rfl 5 (by decide) (hg _ gw_278) (fun _ h9 => h9) rfl d_Model_begins_16 ?_
    refine lv_iload_n hx hb d_Model_begins_19 rfl (lv_at hl 1 rfl) ?_
    obtain ⟨h_1, hF⟩ := rd_chk hF
    refine va_iald hx hb hK hP 3 0 rfl rfl h_1 d_Model_begins_20 ?_
    refine lv_iadd hx hb d_Model_begins_21 ?_
    refine lv_icmp_ge (tgt := 92) hx hb d_Model_begins_22 (by decide) (fun c_2 => ?_) (fun c_2 => ?_)
    · rw [if_pos c_2] at hF
      refine lv_iload hx hb d_Model_begins_92 (lv_at hl 4 rfl) ?_
      refine lv_iload_n hx hb d_Model_begins_94 rfl (lv_at hl 3 rfl) ?_
      refine lv_ior hx hb d_Model_begins_95 ?_
      have e0 := Option.some.inj hF
      exact W.iret (v := (l4 ||| l3)) hx hb hr (fun t ht hW => ⟨⟨(l4 ||| l3), (), rfl, e0, by rw [ht]; exact hP, va_K.moved hW.alike hK, (by exact hD)⟩, hS.F ht⟩) hS.2.2 d_Model_begins_96 hlocks
    · rw [if_neg c_2] at hF
      refine lv_aload_n hx hb d_Model_begins_25 rfl (lv_at hl 0 rfl) ?_
      refine va_get (D := (dC, dI)) (ci := 9) (v := .ref a4) (C := R_Model) (T := F_Model) (N := 29) hx hb hg iw_Model hown hK hP 0 rfl rfl 6 (by decide) (hg _ gw_279) (fun _ h9 => h9) rfl d_Model_begins_26 ?_
      refine lv_iload hx hb d_Model_begins_29 (lv_at hl 5 rfl) ?_
      obtain ⟨h_3, hF⟩ := rd_chk hF
      refine va_iald hx hb hK hP 4 0 rfl rfl h_3 d_Model_begins_31 ?_
      refine lv_istore (lv' := [(6, .int (f4 (Int32.toNatClampNeg l5))), (0, .ref a0), (1, .int l1), (2, .int l2), (3, .int l3), (4, .int l4), (5, .int l5)]) hx hb d_Model_begins_32 hl (by decide) rfl (fun ls hl => ?_)
      refine lv_iload hx hb d_Model_begins_34 (lv_at hl 5 rfl) ?_
      refine lv_iload hx hb d_Model_begins_36 (lv_at hl 0 rfl) ?_
      refine lv_bipush (v := 6) hx hb d_Model_begins_38 (by decide) ?_
      refine lv_icmp_ge (tgt := 50) hx hb d_Model_begins_40 (by decide) (fun c_4 => ?_) (fun c_4 => ?_)
      · rw [if_pos c_4] at hF
        refine lv_aload_n hx hb d_Model_begins_50 rfl (lv_at hl 1 rfl) ?_
        refine va_get (D := (dC, dI)) (ci := 9) (v := .ref a2) (C := R_Model) (T := F_Model) (N := 29) hx hb hg iw_Model hown hK hP 0 rfl rfl 10 (by decide) (hg _ gw_285) (fun _ h9 => h9) rfl d_Model_begins_51 ?_
        refine lv_iload hx hb d_Model_begins_54 (lv_at hl 0 rfl) ?_
        refine lv_bipush (v := 6) hx hb d_Model_begins_56 (by decide) ?_
        refine lv_isub hx hb d_Model_begins_58 ?_
        obtain ⟨h_5, hF⟩ := rd_chk hF
        refine va_iald hx hb hK hP 2 0 rfl rfl h_5 d_Model_begins_59 ?_
        refine lv_ior hx hb d_Model_begins_60 ?_
        refine lv_istore (lv' := [(4, .int (l4 ||| (f2 (Int32.toNatClampNeg ((f4 (Int32.toNatClampNeg l5)) - 6))))), (6, .int (f4 (Int32.toNatClampNeg l5))), (0, .ref a0), (1, .int l1), (2, .int l2), (3, .int l3), (5, .int l5)]) hx hb d_Model_begins_61 hl (by decide) rfl (fun ls hl => ?_)
        refine lv_iload hx hb d_Model_begins_63 (lv_at hl 1 rfl) ?_
        refine lv_bipush (v := 6) hx hb d_Model_begins_65 (by decide) ?_
        refine lv_icmp_lt (tgt := 83) hx hb d_Model_begins_67 (by decide) (fun c_6 => ?_) (fun c_6 => ?_)
        · rw [if_pos c_6] at hF
          refine lv_iload hx hb d_Model_begins_83 (lv_at hl 0 rfl) ?_
          have e0 := Option.some.inj hF
          exact W.iret (v := (l4 ||| (f2 (Int32.toNatClampNeg ((f4 (Int32.toNatClampNeg l5)) - 6))))) hx hb hr (fun t ht hW => ⟨⟨(l4 ||| (f2 (Int32.toNatClampNeg ((f4 (Int32.toNatClampNeg l5)) - 6)))), (), rfl, e0, by rw [ht]; exact hP, va_K.moved hW.alike hK, (by exact hD)⟩, hS.F ht⟩) hS.2.2 d_Model_begins_85 hlocks
        · rw [if_neg c_6] at hF
          refine lv_aload_n hx hb d_Model_begins_70 rfl (lv_at hl 2 rfl) ?_
          refine va_get (D := (dC, dI)) (ci := 9) (v := .ref a1) (C := R_Model) (T := F_Model) (N := 29) hx hb hg iw_Model hown hK hP 0 rfl rfl 9 (by decide) (hg _ gw_286) (fun _ h9 => h9) rfl d_Model_begins_71 ?_
          refine lv_iload hx hb d_Model_begins_74 (lv_at hl 1 rfl) ?_
          refine lv_bipush (v := 6) hx hb d_Model_begins_76 (by decide) ?_
          refine lv_isub hx hb d_Model_begins_78 ?_
          obtain ⟨h_7, hF⟩ := rd_chk hF
          refine va_zald hx hb hK hP 1 1 rfl rfl h_7 d_Model_begins_79 ?_
          refine lv_if_ne (tgt := 86) hx hb d_Model_begins_80 (by decide) (fun c_8 => ?_) (fun c_8 => ?_)
          · rw [if_pos c_8] at hF
            refine lv_iinc (v := (l5 + 1)) (lv' := [(5, .int (l5 + 1)), (4, .int (l4 ||| (f2 (Int32.toNatClampNeg ((f4 (Int32.toNatClampNeg l5)) - 6))))), (6, .int (f4 (Int32.toNatClampNeg l5))), (0, .ref a0), (1, .int l1), (2, .int l2), (3, .int l3)]) hx hb d_Model_begins_86 hl (k := 6) rfl (by rfl) (by decide) rfl (fun ls hl => ?_)
            refine lv_goto (tgt := 10) hx hb d_Model_begins_89 (by decide) ?_
            exact ih l1 l2 l3 (l4 ||| (f2 (Int32.toNatClampNeg ((f4 (Int32.toNatClampNeg l5)) - 6)))) (l5 + 1) hF _ _ _ hP hD hS (lv_sub hl [3, 4, 5, 6, 1, 0] rfl)
          · rw [if_neg (fun z => z c_8)] at hF
            refine lv_iload hx hb d_Model_begins_83 (lv_at hl 0 rfl) ?_
            have e0 := Option.some.inj hF
            exact W.iret (v := (l4 ||| (f2 (Int32.toNatClampNeg ((f4 (Int32.toNatClampNeg l5)) - 6))))) hx hb hr (fun t ht hW => ⟨⟨(l4 ||| (f2 (Int32.toNatClampNeg ((f4 (Int32.toNatClampNeg l5)) - 6)))), (), rfl, e0, by rw [ht]; exact hP, va_K.moved hW.alike hK, (by exact hD)⟩, hS.F ht⟩) hS.2.2 d_Model_begins_85 hlocks
      · rw [if_neg c_4] at hF
        refine lv_iconst (v := 1) hx hb d_Model_begins_43 (by decide) ?_
        refine lv_iload hx hb d_Model_begins_44 (lv_at hl 0 rfl) ?_
        refine lv_ishl hx hb d_Model_begins_46 ?_
        refine lv_goto (tgt := 60) hx hb d_Model_begins_47 (by decide) ?_
        refine lv_ior hx hb d_Model_begins_60 ?_
        refine lv_istore (lv' := [(4, .int (l4 ||| ((1 : Int32) <<< (((f4 (Int32.toNatClampNeg l5)) : Int32) &&& 31)))), (6, .int (f4 (Int32.toNatClampNeg l5))), (0, .ref a0), (1, .int l1), (2, .int l2), (3, .int l3), (5, .int l5)]) hx hb d_Model_begins_61 hl (by decide) rfl (fun ls hl => ?_)
        refine lv_iload hx hb d_Model_begins_63 (lv_at hl 1 rfl) ?_
        refine lv_bipush (v := 6) hx hb d_Model_begins_65 (by decide) ?_
        refine lv_icmp_lt (tgt := 83) hx hb d_Model_begins_67 (by decide) (fun c_9 => ?_) (fun c_9 => ?_)
        · rw [if_pos c_9] at hF
          refine lv_iload hx hb d_Model_begins_83 (lv_at hl 0 rfl) ?_
          have e0 := Option.some.inj hF
          exact W.iret (v := (l4 ||| ((1 : Int32) <<< (((f4 (Int32.toNatClampNeg l5)) : Int32) &&& 31)))) hx hb hr (fun t ht hW => ⟨⟨(l4 ||| ((1 : Int32) <<< (((f4 (Int32.toNatClampNeg l5)) : Int32) &&& 31))), (), rfl, e0, by rw [ht]; exact hP, va_K.moved hW.alike hK, (by exact hD)⟩, hS.F ht⟩) hS.2.2 d_Model_begins_85 hlocks
        · rw [if_neg c_9] at hF
          refine lv_aload_n hx hb d_Model_begins_70 rfl (lv_at hl 2 rfl) ?_
          refine va_get (D := (dC, dI)) (ci := 9) (v := .ref a1) (C := R_Model) (T := F_Model) (N := 29) hx hb hg iw_Model hown hK hP 0 rfl rfl 9 (by decide) (hg _ gw_286) (fun _ h9 => h9) rfl d_Model_begins_71 ?_
          refine lv_iload hx hb d_Model_begins_74 (lv_at hl 1 rfl) ?_
          refine lv_bipush (v := 6) hx hb d_Model_begins_76 (by decide) ?_
          refine lv_isub hx hb d_Model_begins_78 ?_
          obtain ⟨h_10, hF⟩ := rd_chk hF
          refine va_zald hx hb hK hP 1 1 rfl rfl h_10 d_Model_begins_79 ?_
          refine lv_if_ne (tgt := 86) hx hb d_Model_begins_80 (by decide) (fun c_11 => ?_) (fun c_11 => ?_)
          · rw [if_pos c_11] at hF
            refine lv_iinc (v := (l5 + 1)) (lv' := [(5, .int (l5 + 1)), (4, .int (l4 ||| ((1 : Int32) <<< (((f4 (Int32.toNatClampNeg l5)) : Int32) &&& 31)))), (6, .int (f4 (Int32.toNatClampNeg l5))), (0, .ref a0), (1, .int l1), (2, .int l2), (3, .int l3)]) hx hb d_Model_begins_86 hl (k := 6) rfl (by rfl) (by decide) rfl (fun ls hl => ?_)
            refine lv_goto (tgt := 10) hx hb d_Model_begins_89 (by decide) ?_
            exact ih l1 l2 l3 (l4 ||| ((1 : Int32) <<< (((f4 (Int32.toNatClampNeg l5)) : Int32) &&& 31))) (l5 + 1) hF _ _ _ hP hD hS (lv_sub hl [3, 4, 5, 6, 1, 0] rfl)
          · rw [if_neg (fun z => z c_11)] at hF
            refine lv_iload hx hb d_Model_begins_83 (lv_at hl 0 rfl) ?_
            have e0 := Option.some.inj hF
            exact W.iret (v := (l4 ||| ((1 : Int32) <<< (((f4 (Int32.toNatClampNeg l5)) : Int32) &&& 31)))) hx hb hr (fun t ht hW => ⟨⟨(l4 ||| ((1 : Int32) <<< (((f4 (Int32.toNatClampNeg l5)) : Int32) &&& 31))), (), rfl, e0, by rw [ht]; exact hP, va_K.moved hW.alike hK, (by exact hD)⟩, hS.F ht⟩) hS.2.2 d_Model_begins_85 hlocks
def S_Model_begins (p1 : Int32) (p2 : Int32) (p3 : Int32) (f1 : (Nat → Int32)) (f2 : (Nat → Int32)) (f3 : (Nat → Int32)) (f4 : (Nat → Int32)) : Option (Int32) := (F_Model_begins f1 f2 f3 f4 fuel_ 0 p1 p2 p3 0 ((4 * p1) + p2))
set_option maxHeartbeats 4000000 in
set_option maxRecDepth 100000 in
theorem c_Model_begins (l : Launch) (dC : Nat → ClassId) (dI : Nat → Nat → Nat) (kA : Nat → ClassId) (sz : Nat) (a0 a1 a2 a3 a4 : Nat) (v0_0 v0_1 v0_2 v0_3 v0_4 v0_7 v0_8 v0_11 v0_12 v0_13 v0_14 v0_15 v0_16 v0_17 v0_18 v0_19 v0_20 v0_21 v0_22 v0_23 v0_24 v0_25 v0_26 v0_27 v0_28 : Value) (p1 : Int32) (p2 : Int32) (p3 : Int32) (f1 : (Nat → Int32)) (f2 : (Nat → Int32)) (f3 : (Nat → Int32)) (f4 : (Nat → Int32)) (r : Int32) (hF : S_Model_begins p1 p2 p3 f1 f2 f3 f4 = some r) : Met l y_Model_begins w_Model_begins rm_Model_begins (va_Pc [.ref a0, .int p1, .int p2, .int p3] (fun U => U.heap.size = sz ∧ va_P (dC, dI) classes (wd_Model_begins kA a0 a1 a2 a3 a4 v0_0 v0_1 v0_2 v0_3 v0_4 v0_7 v0_8 v0_11 v0_12 v0_13 v0_14 v0_15 v0_16 v0_17 v0_18 v0_19 v0_20 v0_21 v0_22 v0_23 v0_24 v0_25 v0_26 v0_27 v0_28 f1 f2 f3 f4) U.heap ∧ va_K (dC, dI) classes (tys_ kA) U ∧ va_D (fun _ => True) (wd_Model_begins kA a0 a1 a2 a3 a4 v0_0 v0_1 v0_2 v0_3 v0_4 v0_7 v0_8 v0_11 v0_12 v0_13 v0_14 v0_15 v0_16 v0_17 v0_18 v0_19 v0_20 v0_21 v0_22 v0_23 v0_24 v0_25 v0_26 v0_27 v0_28 f1 f2 f3 f4))) (va_Qi (fun (r1 : Int32) (_ : Unit) => r1 = r) (fun _ t => va_P (dC, dI) classes (wd_Model_begins kA a0 a1 a2 a3 a4 v0_0 v0_1 v0_2 v0_3 v0_4 v0_7 v0_8 v0_11 v0_12 v0_13 v0_14 v0_15 v0_16 v0_17 v0_18 v0_19 v0_20 v0_21 v0_22 v0_23 v0_24 v0_25 v0_26 v0_27 v0_28 f1 f2 f3 f4) t.heap ∧ va_K (dC, dI) classes (tys_ kA) t ∧ va_D (va_A (wd_Model_begins kA a0 a1 a2 a3 a4 v0_0 v0_1 v0_2 v0_3 v0_4 v0_7 v0_8 v0_11 v0_12 v0_13 v0_14 v0_15 v0_16 v0_17 v0_18 v0_19 v0_20 v0_21 v0_22 v0_23 v0_24 v0_25 v0_26 v0_27 v0_28 f1 f2 f3 f4) sz) (wd_Model_begins kA a0 a1 a2 a3 a4 v0_0 v0_1 v0_2 v0_3 v0_4 v0_7 v0_8 v0_11 v0_12 v0_13 v0_14 v0_15 v0_16 v0_17 v0_18 v0_19 v0_20 v0_21 v0_22 v0_23 v0_24 v0_25 v0_26 v0_27 v0_28 f1 f2 f3 f4)) (va_A (wd_Model_begins kA a0 a1 a2 a3 a4 v0_0 v0_1 v0_2 v0_3 v0_4 v0_7 v0_8 v0_11 v0_12 v0_13 v0_14 v0_15 v0_16 v0_17 v0_18 v0_19 v0_20 v0_21 v0_22 v0_23 v0_24 v0_25 v0_26 v0_27 v0_28 f1 f2 f3 f4) sz)) 0 0 (va_A (wd_Model_begins kA a0 a1 a2 a3 a4 v0_0 v0_1 v0_2 v0_3 v0_4 v0_7 v0_8 v0_11 v0_12 v0_13 v0_14 v0_15 v0_16 v0_17 v0_18 v0_19 v0_20 v0_21 v0_22 v0_23 v0_24 v0_25 v0_26 v0_27 v0_28 f1 f2 f3 f4) sz) := by
  refine Met.ofW (cc := b_Model_begins) (maxL := 7) (ret := some .int) (by decide) rfl ?_
  intro p e s m args below meth c s₁ B hml hv
  obtain ⟨rfl, hsz, hP, hK, hD0⟩ := hv
  have hx := B.exec
  have hb := B.bytes
  have hr := B.returns
  have hts := atoms_spec (ws := w_Model_begins) B.pre
  have hown : s.vm.findClass R_Model = some m.cls := findClass_of_methodNamed B.named
  have hg := fun (w : Cond) (h : w ∈ gw) => hts w (List.mem_cons_of_mem _ h)
  have hlocks := B.notSynchronized
  subst hsz
  have hD := hD0.self (sz := s.heap.size)
  generalize hAe : va_A (wd_Model_begins kA a0 a1 a2 a3 a4 v0_0 v0_1 v0_2 v0_3 v0_4 v0_7 v0_8 v0_11 v0_12 v0_13 v0_14 v0_15 v0_16 v0_17 v0_18 v0_19 v0_20 v0_21 v0_22 v0_23 v0_24 v0_25 v0_26 v0_27 v0_28 f1 f2 f3 f4) s.heap.size = A at hD ⊢
  have hA : ∀ q : Nat, s.heap.size ≤ q → A q := fun q h => by rw [← hAe]; exact Or.inr h
  have hS : va_S A s.heap s.heap [] := va_S.rf
  have hl := lv_entry ([.ref a0, .int p1, .int p2, .int p3]) (n := 7) (Nat.le_of_ble_eq_true rfl)
  rw [lg_entry_eq]
  generalize (lg_sl ([.ref a0, .int p1, .int p2, .int p3]) ++ List.replicate (7 - (lg_sl ([.ref a0, .int p1, .int p2, .int p3])).length) Slot.unset).toArray = ls at hl ⊢
  have hl : lv_has ls 7 [(0, .ref a0), (1, .int p1), (2, .int p2), (3, .int p3)] := hl
  unfold S_Model_begins at hF
  have ih := L_Model_begins (l := l) (e := e) (below := below) hx hb hr hlocks hml hown hts hA hK a0 a1 a2 a3 a4 v0_0 v0_1 v0_2 v0_3 v0_4 v0_7 v0_8 v0_11 v0_12 v0_13 v0_14 v0_15 v0_16 v0_17 v0_18 v0_19 v0_20 v0_21 v0_22 v0_23 v0_24 v0_25 v0_26 v0_27 v0_28 f1 f2 f3 f4 r fuel_
  refine lv_iconst (v := 0) hx hb d_Model_begins_0 (by decide) ?_
  refine lv_istore (lv' := [(4, .int 0), (0, .ref a0), (1, .int p1), (2, .int p2), (3, .int p3)]) hx hb d_Model_begins_1 hl (by decide) rfl (fun ls hl => ?_)
  refine lv_iconst (v := 4) hx hb d_Model_begins_3 (by decide) ?_
  refine lv_iload_n hx hb d_Model_begins_4 rfl (lv_at hl 2 rfl) ?_
  refine lv_imul hx hb d_Model_begins_5 ?_
  refine lv_iload_n hx hb d_Model_begins_6 rfl (lv_at hl 3 rfl) ?_
  refine lv_iadd hx hb d_Model_begins_7 ?_
  refine lv_istore (lv' := [(5, .int ((4 * p1) + p2)), (4, .int 0), (0, .ref a0), (1, .int p1), (2, .int p2), (3, .int p3)]) hx hb d_Model_begins_8 hl (by decide) rfl (fun ls hl => ?_)
  exact ih p1 p2 p3 0 ((4 * p1) + p2) hF _ _ _ hP hD hS (lv_sub hl [2, 3, 4, 5, 1, 0] rfl)
-- ===== RepairDeskModel.isEmpty(II)Z
abbrev wd_Model_isEmpty (kA : Nat → ClassId) (a0 a1 a2 a3 : Nat) (v0_0 v0_1 v0_2 v0_3 v0_4 v0_7 v0_8 v0_10 v0_11 v0_12 v0_13 v0_14 v0_15 v0_16 v0_17 v0_18 v0_19 v0_20 v0_21 v0_22 v0_23 v0_24 v0_25 v0_26 v0_27 v0_28 : Value) (f1 : (Nat → Int32)) (f2 : (Nat → Int32)) (f3 : (Nat → Int32)) : va_W := [(a0, .inr (9, [v0_0, v0_1, v0_2, v0_3, v0_4, .ref a2, .ref a3, v0_7, v0_8, .ref a1, v0_10, v0_11, v0_12, v0_13, v0_14, v0_15, v0_16, v0_17, v0_18, v0_19, v0_20, v0_21, v0_22, v0_23, v0_24, v0_25, v0_26, v0_27, v0_28])), (a1, .inl (kA 1, 6, .inl f1)), (a2, .inl (kA 0, 11, .inl f2)), (a3, .inl (kA 0, 44, .inl f3))]
abbrev rm_Model_isEmpty : Room := { frames := 0, cells := 0, slots := 0, locals := 0 }
def B_Model_isEmpty_0 (K : Nat → Int32 → Int32 → Int32 → Int32 → Option (Int32)) (f1 : (Nat → Int32)) (f2 : (Nat → Int32)) (f3 : (Nat → Int32)) (l1 : Int32) (l2 : Int32) (l3 : Int32) (l4 : Int32)  : Option (Int32) := (if (l1 : Int32) < 0 ∨ 11 ≤ (Int32.toNatClampNeg l1) then none else (if ((4 * l1) + (f2 (Int32.toNatClampNeg l1))) ≤ l4 then (if l3 = 0 ∨ l3 = 1 then some l3 else none) else (if l3 = 0 then (K 0 l1 l2 0 (l4 + 1)) else (if (l4 : Int32) < 0 ∨ 44 ≤ (Int32.toNatClampNeg l4) then none else (if (f3 (Int32.toNatClampNeg l4)) < 6 then (K 0 l1 l2 0 (l4 + 1)) else (if (l4 : Int32) < 0 ∨ 44 ≤ (Int32.toNatClampNeg l4) then none else (if (((f3 (Int32.toNatClampNeg l4)) - 6) : Int32) < 0 ∨ 6 ≤ (Int32.toNatClampNeg ((f3 (Int32.toNatClampNeg l4)) - 6)) then none else (if (f1 (Int32.toNatClampNeg ((f3 (Int32.toNatClampNeg l4)) - 6))) = 0 then (K 0 l1 l2 0 (l4 + 1)) else (K 0 l1 l2 1 (l4 + 1))))))))))
def F_Model_isEmpty (f1 : (Nat → Int32)) (f2 : (Nat → Int32)) (f3 : (Nat → Int32)) : Nat → Nat → Int32 → Int32 → Int32 → Int32 → Option (Int32)
  | 0 => fun _ _ _ _ _ => none
  | n + 1 => fun hd l1 l2 l3 l4 => match hd with
    | 0 => B_Model_isEmpty_0 (F_Model_isEmpty f1 f2 f3 n) f1 f2 f3 l1 l2 l3 l4
    | _ => none
set_option maxHeartbeats 4000000 in
set_option maxRecDepth 100000 in
theorem L_Model_isEmpty {p : Program} {l : Launch} {e : Env} {s : State} {m : MethodId} {args : Array Value} {below : List Frame} {meth : Method} {c : Code} {A : Nat → Prop} {dC : Nat → ClassId} {dI : Nat → Nat → Nat} {kA : Nat → ClassId} (hx : p.tables.exec = Jvm.exec) (hb : c.code = b_Model_isEmpty) (hr : meth.sig.returnType = some .boolean) (hlocks : meth.locks = false) (hml : c.maxLocals = 5) (hown : s.vm.findClass R_Model = some m.cls) (hts : ∀ w ∈ w_Model_isEmpty, w.before args s = true) (hA : ∀ q : Nat, s.heap.size ≤ q → A q) (hK : va_K (dC, dI) classes (tys_ kA) s) (a0 a1 a2 a3 : Nat) (v0_0 v0_1 v0_2 v0_3 v0_4 v0_7 v0_8 v0_10 v0_11 v0_12 v0_13 v0_14 v0_15 v0_16 v0_17 v0_18 v0_19 v0_20 v0_21 v0_22 v0_23 v0_24 v0_25 v0_26 v0_27 v0_28 : Value) (f1 : (Nat → Int32)) (f2 : (Nat → Int32)) (f3 : (Nat → Int32)) (r : Int32) : ∀ n : Nat, (∀ (l1 l2 l3 l4 : Int32), F_Model_isEmpty f1 f2 f3 n 0 l1 l2 l3 l4 = some r → ∀ (H : Heap) (locs : List Loc) (ls : Array Slot), va_P (dC, dI) classes (wd_Model_isEmpty kA a0 a1 a2 a3 v0_0 v0_1 v0_2 v0_3 v0_4 v0_7 v0_8 v0_10 v0_11 v0_12 v0_13 v0_14 v0_15 v0_16 v0_17 v0_18 v0_19 v0_20 v0_21 v0_22 v0_23 v0_24 v0_25 v0_26 v0_27 v0_28 f1 f2 f3) H → va_D A (wd_Model_isEmpty kA a0 a1 a2 a3 v0_0 v0_1 v0_2 v0_3 v0_4 v0_7 v0_8 v0_10 v0_11 v0_12 v0_13 v0_14 v0_15 v0_16 v0_17 v0_18 v0_19 v0_20 v0_21 v0_22 v0_23 v0_24 v0_25 v0_26 v0_27 v0_28 f1 f2 f3) → va_S A s.heap H locs → lv_has ls 5 [(0, .ref a0), (1, .int l1), (2, .int l2), (3, .int l3), (4, .int l4)] → W p l e (headSpec w_Model_isEmpty rm_Model_isEmpty).room s m args below meth c H locs 0 0 (MQ below (va_Qi (fun (r1 : Int32) (_ : Unit) => r1 = r) (fun _ t => va_P (dC, dI) classes (wd_Model_isEmpty kA a0 a1 a2 a3 v0_0 v0_1 v0_2 v0_3 v0_4 v0_7 v0_8 v0_10 v0_11 v0_12 v0_13 v0_14 v0_15 v0_16 v0_17 v0_18 v0_19 v0_20 v0_21 v0_22 v0_23 v0_24 v0_25 v0_26 v0_27 v0_28 f1 f2 f3) t.heap ∧ va_K (dC, dI) classes (tys_ kA) t ∧ va_D A (wd_Model_isEmpty kA a0 a1 a2 a3 v0_0 v0_1 v0_2 v0_3 v0_4 v0_7 v0_8 v0_10 v0_11 v0_12 v0_13 v0_14 v0_15 v0_16 v0_17 v0_18 v0_19 v0_20 v0_21 v0_22 v0_23 v0_24 v0_25 v0_26 v0_27 v0_28 f1 f2 f3)) A) args s 0 0 A) (F0 m 9 ls [])) := by
  have hg := fun (w : Cond) (h : w ∈ gw) => hts w (List.mem_cons_of_mem _ h)
  intro n
  induction n with
  | zero =>
    exact fun _ _ _ _ hF => absurd (show (none : Option _) = some _ from hF) (fun z => by cases z)
  | succ n ih =>
    intro l1 l2 l3 l4 hF H locs ls hP hD hS hl
    have hF : B_Model_isEmpty_0 (F_Model_isEmpty f1 f2 f3 n) f1 f2 f3 l1 l2 l3 l4 = some r := hF
    unfold B_Model_isEmpty_0 at hF
    refine lv_iload hx hb d_Model_isEmpty_9 (lv_at hl 4 rfl) ?_
    refine lv_iconst (v := 4) hx hb d_Model_isEmpty_11 (by decide) ?_
    refine lv_iload_n hx hb d_Model_isEmpty_12 rfl (lv_at hl 1 rfl) ?_
    refine lv_imul hx hb d_Model_isEmpty_13 ?_
    refine lv_aload_n hx hb d_Model_isEmpty_14 rfl (lv_at hl 0 rfl) ?_
    refine va_get (D := (dC, dI)) (ci := 9) (v := .ref a2) (C := R_Model) (T := F_Model) (N := 29) hx hb hg iw_Model hown hK hP 0 rfl rfl 5 (by decide) (hg _ gw_278) (fun _ h9 => h9) rfl d_Model_isEmpty_15 ?_
    refine lv_iload_n hx hb d_Model_isEmpty_18 rfl (lv_at hl 1 rfl) ?_
    obtain ⟨h_1, hF⟩ := rd_chk hF
    refine va_iald hx hb hK hP 2 0 rfl rfl h_1 d_Model_isEmpty_19 ?_
    refine lv_iadd hx hb d_Model_isEmpty_20 ?_
    refine lv_icmp_ge (tgt := 70) hx hb d_Model_isEmpty_21 (by decide) (fun c_2 => ?_) (fun c_2 => ?_)
    · rw [if_pos c_2] at hF
      refine lv_iload_n hx hb d_Model_isEmpty_70 rfl (lv_at hl 3 rfl) ?_
      obtain ⟨b_3, hF⟩ := rd_bool hF
      have e0 := Option.some.inj hF
      exact W.zret (v := l3) hx hb hr (rd_nb b_3) (fun t ht hW => ⟨⟨l3, (), rfl, e0, by rw [ht]; exact hP, va_K.moved hW.alike hK, (by exact hD)⟩, hS.F ht⟩) hS.2.2 d_Model_isEmpty_71 hlocks
    · rw [if_neg c_2] at hF
      refine lv_iload_n hx hb d_Model_isEmpty_24 rfl (lv_at hl 3 rfl) ?_
      refine lv_if_eq (tgt := 62) hx hb d_Model_isEmpty_25 (by decide) (fun c_4 => ?_) (fun c_4 => ?_)
      · rw [if_pos c_4] at hF
        refine lv_iconst (v := 0) hx hb d_Model_isEmpty_62 (by decide) ?_
        refine lv_istore_n (lv' := [(3, .int 0), (0, .ref a0), (1, .int l1), (2, .int l2), (4, .int l4)]) hx hb d_Model_isEmpty_63 rfl hl (by decide) rfl (fun ls hl => ?_)
        refine lv_iinc (v := (l4 + 1)) (lv' := [(4, .int (l4 + 1)), (3, .int 0), (0, .ref a0), (1, .int l1), (2, .int l2)]) hx hb d_Model_isEmpty_64 hl (k := 4) rfl (by rfl) (by decide) rfl (fun ls hl => ?_)
        refine lv_goto (tgt := 9) hx hb d_Model_isEmpty_67 (by decide) ?_
        exact ih l1 l2 0 (l4 + 1) hF _ _ _ hP hD hS (lv_sub hl [2, 3, 4, 1, 0] rfl)
      · rw [if_neg c_4] at hF
        refine lv_aload_n hx hb d_Model_isEmpty_28 rfl (lv_at hl 0 rfl) ?_
        refine va_get (D := (dC, dI)) (ci := 9) (v := .ref a3) (C := R_Model) (T := F_Model) (N := 29) hx hb hg iw_Model hown hK hP 0 rfl rfl 6 (by decide) (hg _ gw_279) (fun _ h9 => h9) rfl d_Model_isEmpty_29 ?_
        refine lv_iload hx hb d_Model_isEmpty_32 (lv_at hl 4 rfl) ?_
        obtain ⟨h_5, hF⟩ := rd_chk hF
        refine va_iald hx hb hK hP 3 0 rfl rfl h_5 d_Model_isEmpty_34 ?_
        refine lv_bipush (v := 6) hx hb d_Model_isEmpty_35 (by decide) ?_
        refine lv_icmp_lt (tgt := 62) hx hb d_Model_isEmpty_37 (by decide) (fun c_6 => ?_) (fun c_6 => ?_)
        · rw [if_pos c_6] at hF
          refine lv_iconst (v := 0) hx hb d_Model_isEmpty_62 (by decide) ?_
          refine lv_istore_n (lv' := [(3, .int 0), (0, .ref a0), (1, .int l1), (2, .int l2), (4, .int l4)]) hx hb d_Model_isEmpty_63 rfl hl (by decide) rfl (fun ls hl => ?_)
          refine lv_iinc (v := (l4 + 1)) (lv' := [(4, .int (l4 + 1)), (3, .int 0), (0, .ref a0), (1, .int l1), (2, .int l2)]) hx hb d_Model_isEmpty_64 hl (k := 4) rfl (by rfl) (by decide) rfl (fun ls hl => ?_)
          refine lv_goto (tgt := 9) hx hb d_Model_isEmpty_67 (by decide) ?_
          exact ih l1 l2 0 (l4 + 1) hF _ _ _ hP hD hS (lv_sub hl [2, 3, 4, 1, 0] rfl)
        · rw [if_neg c_6] at hF
          refine lv_aload_n hx hb d_Model_isEmpty_40 rfl (lv_at hl 0 rfl) ?_
          refine va_get (D := (dC, dI)) (ci := 9) (v := .ref a1) (C := R_Model) (T := F_Model) (N := 29) hx hb hg iw_Model hown hK hP 0 rfl rfl 9 (by decide) (hg _ gw_286) (fun _ h9 => h9) rfl d_Model_isEmpty_41 ?_
          refine lv_aload_n hx hb d_Model_isEmpty_44 rfl (lv_at hl 0 rfl) ?_
          refine va_get (D := (dC, dI)) (ci := 9) (v := .ref a3) (C := R_Model) (T := F_Model) (N := 29) hx hb hg iw_Model hown hK hP 0 rfl rfl 6 (by decide) (hg _ gw_279) (fun _ h9 => h9) rfl d_Model_isEmpty_45 ?_
          refine lv_iload hx hb d_Model_isEmpty_48 (lv_at hl 4 rfl) ?_
          obtain ⟨h_7, hF⟩ := rd_chk hF
          refine va_iald hx hb hK hP 3 0 rfl rfl h_7 d_Model_isEmpty_50 ?_
          refine lv_bipush (v := 6) hx hb d_Model_isEmpty_51 (by decide) ?_
          refine lv_isub hx hb d_Model_isEmpty_53 ?_
          obtain ⟨h_8, hF⟩ := rd_chk hF
          refine va_zald hx hb hK hP 1 1 rfl rfl h_8 d_Model_isEmpty_54 ?_
          refine lv_if_eq (tgt := 62) hx hb d_Model_isEmpty_55 (by decide) (fun c_9 => ?_) (fun c_9 => ?_)
          · rw [if_pos c_9] at hF
            refine lv_iconst (v := 0) hx hb d_Model_isEmpty_62 (by decide) ?_
            refine lv_istore_n (lv' := [(3, .int 0), (0, .ref a0), (1, .int l1), (2, .int l2), (4, .int l4)]) hx hb d_Model_isEmpty_63 rfl hl (by decide) rfl (fun ls hl => ?_)
            refine lv_iinc (v := (l4 + 1)) (lv' := [(4, .int (l4 + 1)), (3, .int 0), (0, .ref a0), (1, .int l1), (2, .int l2)]) hx hb d_Model_isEmpty_64 hl (k := 4) rfl (by rfl) (by decide) rfl (fun ls hl => ?_)
            refine lv_goto (tgt := 9) hx hb d_Model_isEmpty_67 (by decide) ?_
            exact ih l1 l2 0 (l4 + 1) hF _ _ _ hP hD hS (lv_sub hl [2, 3, 4, 1, 0] rfl)
          · rw [if_neg c_9] at hF
            refine lv_iconst (v := 1) hx hb d_Model_isEmpty_58 (by decide) ?_
            refine lv_goto (tgt := 63) hx hb d_Model_isEmpty_59 (by decide) ?_
            refine lv_istore_n (lv' := [(3, .int 1), (0, .ref a0), (1, .int l1), (2, .int l2), (4, .int l4)]) hx hb d_Model_isEmpty_63 rfl hl (by decide) rfl (fun ls hl => ?_)
            refine lv_iinc (v := (l4 + 1)) (lv' := [(4, .int (l4 + 1)), (3, .int 1), (0, .ref a0), (1, .int l1), (2, .int l2)]) hx hb d_Model_isEmpty_64 hl (k := 4) rfl (by rfl) (by decide) rfl (fun ls hl => ?_)
            refine lv_goto (tgt := 9) hx hb d_Model_isEmpty_67 (by decide) ?_
            exact ih l1 l2 1 (l4 + 1) hF _ _ _ hP hD hS (lv_sub hl [2, 3, 4, 1, 0] rfl)
def S_Model_isEmpty (p1 : Int32) (p2 : Int32) (f1 : (Nat → Int32)) (f2 : (Nat → Int32)) (f3 : (Nat → Int32)) : Option (Int32) := (F_Model_isEmpty f1 f2 f3 fuel_ 0 p1 p2 1 ((4 * p1) + p2))
set_option maxHeartbeats 4000000 in
set_option maxRecDepth 100000 in
theorem c_Model_isEmpty (l : Launch) (dC : Nat → ClassId) (dI : Nat → Nat → Nat) (kA : Nat → ClassId) (sz : Nat) (a0 a1 a2 a3 : Nat) (v0_0 v0_1 v0_2 v0_3 v0_4 v0_7 v0_8 v0_10 v0_11 v0_12 v0_13 v0_14 v0_15 v0_16 v0_17 v0_18 v0_19 v0_20 v0_21 v0_22 v0_23 v0_24 v0_25 v0_26 v0_27 v0_28 : Value) (p1 : Int32) (p2 : Int32) (f1 : (Nat → Int32)) (f2 : (Nat → Int32)) (f3 : (Nat → Int32)) (r : Int32) (hF : S_Model_isEmpty p1 p2 f1 f2 f3 = some r) : Met l y_Model_isEmpty w_Model_isEmpty rm_Model_isEmpty (va_Pc [.ref a0, .int p1, .int p2] (fun U => U.heap.size = sz ∧ va_P (dC, dI) classes (wd_Model_isEmpty kA a0 a1 a2 a3 v0_0 v0_1 v0_2 v0_3 v0_4 v0_7 v0_8 v0_10 v0_11 v0_12 v0_13 v0_14 v0_15 v0_16 v0_17 v0_18 v0_19 v0_20 v0_21 v0_22 v0_23 v0_24 v0_25 v0_26 v0_27 v0_28 f1 f2 f3) U.heap ∧ va_K (dC, dI) classes (tys_ kA) U ∧ va_D (fun _ => True) (wd_Model_isEmpty kA a0 a1 a2 a3 v0_0 v0_1 v0_2 v0_3 v0_4 v0_7 v0_8 v0_10 v0_11 v0_12 v0_13 v0_14 v0_15 v0_16 v0_17 v0_18 v0_19 v0_20 v0_21 v0_22 v0_23 v0_24 v0_25 v0_26 v0_27 v0_28 f1 f2 f3))) (va_Qi (fun (r1 : Int32) (_ : Unit) => r1 = r) (fun _ t => va_P (dC, dI) classes (wd_Model_isEmpty kA a0 a1 a2 a3 v0_0 v0_1 v0_2 v0_3 v0_4 v0_7 v0_8 v0_10 v0_11 v0_12 v0_13 v0_14 v0_15 v0_16 v0_17 v0_18 v0_19 v0_20 v0_21 v0_22 v0_23 v0_24 v0_25 v0_26 v0_27 v0_28 f1 f2 f3) t.heap ∧ va_K (dC, dI) classes (tys_ kA) t ∧ va_D (va_A (wd_Model_isEmpty kA a0 a1 a2 a3 v0_0 v0_1 v0_2 v0_3 v0_4 v0_7 v0_8 v0_10 v0_11 v0_12 v0_13 v0_14 v0_15 v0_16 v0_17 v0_18 v0_19 v0_20 v0_21 v0_22 v0_23 v0_24 v0_25 v0_26 v0_27 v0_28 f1 f2 f3) sz) (wd_Model_isEmpty kA a0 a1 a2 a3 v0_0 v0_1 v0_2 v0_3 v0_4 v0_7 v0_8 v0_10 v0_11 v0_12 v0_13 v0_14 v0_15 v0_16 v0_17 v0_18 v0_19 v0_20 v0_21 v0_22 v0_23 v0_24 v0_25 v0_26 v0_27 v0_28 f1 f2 f3)) (va_A (wd_Model_isEmpty kA a0 a1 a2 a3 v0_0 v0_1 v0_2 v0_3 v0_4 v0_7 v0_8 v0_10 v0_11 v0_12 v0_13 v0_14 v0_15 v0_16 v0_17 v0_18 v0_19 v0_20 v0_21 v0_22 v0_23 v0_24 v0_25 v0_26 v0_27 v0_28 f1 f2 f3) sz)) 0 0 (va_A (wd_Model_isEmpty kA a0 a1 a2 a3 v0_0 v0_1 v0_2 v0_3 v0_4 v0_7 v0_8 v0_10 v0_11 v0_12 v0_13 v0_14 v0_15 v0_16 v0_17 v0_18 v0_19 v0_20 v0_21 v0_22 v0_23 v0_24 v0_25 v0_26 v0_27 v0_28 f1 f2 f3) sz) := by
  refine Met.ofW (cc := b_Model_isEmpty) (maxL := 5) (ret := some .boolean) (by decide) rfl ?_
  intro p e s m args below meth c s₁ B hml hv
  obtain ⟨rfl, hsz, hP, hK, hD0⟩ := hv
  have hx := B.exec
  have hb := B.bytes
  have hr := B.returns
  have hts := atoms_spec (ws := w_Model_isEmpty) B.pre
  have hown : s.vm.findClass R_Model = some m.cls := findClass_of_methodNamed B.named
  have hg := fun (w : Cond) (h : w ∈ gw) => hts w (List.mem_cons_of_mem _ h)
  have hlocks := B.notSynchronized
  subst hsz
  have hD := hD0.self (sz := s.heap.size)
  generalize hAe : va_A (wd_Model_isEmpty kA a0 a1 a2 a3 v0_0 v0_1 v0_2 v0_3 v0_4 v0_7 v0_8 v0_10 v0_11 v0_12 v0_13 v0_14 v0_15 v0_16 v0_17 v0_18 v0_19 v0_20 v0_21 v0_22 v0_23 v0_24 v0_25 v0_26 v0_27 v0_28 f1 f2 f3) s.heap.size = A at hD ⊢
  have hA : ∀ q : Nat, s.heap.size ≤ q → A q := fun q h => by rw [← hAe]; exact Or.inr h
  have hS : va_S A s.heap s.heap [] := va_S.rf
  have hl := lv_entry ([.ref a0, .int p1, .int p2]) (n := 5) (Nat.le_of_ble_eq_true rfl)
  rw [lg_entry_eq]
  generalize (lg_sl ([.ref a0, .int p1, .int p2]) ++ List.replicate (5 - (lg_sl ([.ref a0, .int p1, .int p2])).length) Slot.unset).toArray = ls at hl ⊢
  have hl : lv_has ls 5 [(0, .ref a0), (1, .int p1), (2, .int p2)] := hl
  unfold S_Model_isEmpty at hF
  have ih := L_Model_isEmpty (l := l) (e := e) (below := below) hx hb hr hlocks hml hown hts hA hK a0 a1 a2 a3 v0_0 v0_1 v0_2 v0_3 v0_4 v0_7 v0_8 v0_10 v0_11 v0_12 v0_13 v0_14 v0_15 v0_16 v0_17 v0_18 v0_19 v0_20 v0_21 v0_22 v0_23 v0_24 v0_25 v0_26 v0_27 v0_28 f1 f2 f3 r fuel_
  refine lv_iconst (v := 1) hx hb d_Model_isEmpty_0 (by decide) ?_
  refine lv_istore_n (lv' := [(3, .int 1), (0, .ref a0), (1, .int p1), (2, .int p2)]) hx hb d_Model_isEmpty_1 rfl hl (by decide) rfl (fun ls hl => ?_)
  refine lv_iconst (v := 4) hx hb d_Model_isEmpty_2 (by decide) ?_
  refine lv_iload_n hx hb d_Model_isEmpty_3 rfl (lv_at hl 2 rfl) ?_
  refine lv_imul hx hb d_Model_isEmpty_4 ?_
  refine lv_iload_n hx hb d_Model_isEmpty_5 rfl (lv_at hl 3 rfl) ?_
  refine lv_iadd hx hb d_Model_isEmpty_6 ?_
  refine lv_istore (lv' := [(4, .int ((4 * p1) + p2)), (3, .int 1), (0, .ref a0), (1, .int p1), (2, .int p2)]) hx hb d_Model_isEmpty_7 hl (by decide) rfl (fun ls hl => ?_)
  exact ih p1 p2 1 ((4 * p1) + p2) hF _ _ _ hP hD hS (lv_sub hl [2, 3, 4, 1, 0] rfl)
-- ===== RepairDeskModel.prepare()V
abbrev wd_Model_prepare (kA : Nat → ClassId) (a0 a1 a2 a3 a4 a5 a6 a7 : Nat) (v0_0 v0_1 v0_2 v0_11 v0_12 v0_13 v0_14 v0_15 v0_16 v0_17 v0_18 v0_19 v0_20 v0_21 v0_22 v0_23 v0_24 v0_25 v0_26 v0_27 v0_28 : Value) (x0_3 : Int32) (f1 : (Nat → Int32)) (f2 : (Nat → Int32)) (f3 : (Nat → Int32)) (f4 : (Nat → Int32)) (f5 : (Nat → Int32)) (f6 : (Nat → Int32)) (f7 : (Nat → Int32)) : va_W := [(a0, .inr (9, [v0_0, v0_1, v0_2, .int x0_3, .ref a4, .ref a5, .ref a6, .ref a7, .ref a1, .ref a2, .ref a3, v0_11, v0_12, v0_13, v0_14, v0_15, v0_16, v0_17, v0_18, v0_19, v0_20, v0_21, v0_22, v0_23, v0_24, v0_25, v0_26, v0_27, v0_28])), (a1, .inl (kA 1, 6, .inl f1)), (a2, .inl (kA 1, 6, .inl f2)), (a3, .inl (kA 0, 6, .inl f3)), (a4, .inl (kA 0, 11, .inl f4)), (a5, .inl (kA 0, 11, .inl f5)), (a6, .inl (kA 0, 44, .inl f6)), (a7, .inl (kA 1, 11, .inl f7))]
abbrev rm_Model_prepare : Room := { frames := 1, cells := 0, slots := 0, locals := 26 }
def B_Model_prepare_0 (K : Nat → Int32 → Int32 → Int32 → Int32 → Int32 → Int32 → (Nat → Int32) → (Nat → Int32) → (Nat → Int32) → (Nat → Int32) → Option ((Nat → Int32) × (Nat → Int32) × (Nat → Int32) × (Nat → Int32))) (x0_3 : Int32) (f4 : (Nat → Int32)) (f5 : (Nat → Int32)) (f6 : (Nat → Int32)) (l1 : Int32) (l2 : Int32) (l3 : Int32) (l4 : Int32) (l5 : Int32) (s0 : Int32) (f1 : (Nat → Int32)) (f2 : (Nat → Int32)) (f3 : (Nat → Int32)) (f7 : (Nat → Int32)) : Option ((Nat → Int32) × (Nat → Int32) × (Nat → Int32) × (Nat → Int32)) := (if 6 ≤ l1 then (K 1 1 0 0 0 0 0 f1 f2 f3 f7) else (if (l1 : Int32) < 0 ∨ 6 ≤ (Int32.toNatClampNeg l1) then none else (if (l1 : Int32) < 0 ∨ 6 ≤ (Int32.toNatClampNeg l1) then none else (if (l1 : Int32) < 0 ∨ 6 ≤ (Int32.toNatClampNeg l1) then none else (K 0 (l1 + 1) 0 0 0 0 0 (upd f1 (Int32.toNatClampNeg l1) (vp_nar .boolean 0)) (upd f2 (Int32.toNatClampNeg l1) (vp_nar .boolean 0)) (upd f3 (Int32.toNatClampNeg l1) 0) f7)))))
def B_Model_prepare_1 (K : Nat → Int32 → Int32 → Int32 → Int32 → Int32 → Int32 → (Nat → Int32) → (Nat → Int32) → (Nat → Int32) → (Nat → Int32) → Option ((Nat → Int32) × (Nat → Int32) × (Nat → Int32) × (Nat → Int32))) (x0_3 : Int32) (f4 : (Nat → Int32)) (f5 : (Nat → Int32)) (f6 : (Nat → Int32)) (l1 : Int32) (l2 : Int32) (l3 : Int32) (l4 : Int32) (l5 : Int32) (s0 : Int32) (f1 : (Nat → Int32)) (f2 : (Nat → Int32)) (f3 : (Nat → Int32)) (f7 : (Nat → Int32)) : Option ((Nat → Int32) × (Nat → Int32) × (Nat → Int32) × (Nat → Int32)) := (if l1 = 0 then (K 4 1 0 0 0 0 0 f1 f2 f3 f7) else (K 2 0 0 0 0 0 0 f1 f2 f3 f7))
def B_Model_prepare_2 (K : Nat → Int32 → Int32 → Int32 → Int32 → Int32 → Int32 → (Nat → Int32) → (Nat → Int32) → (Nat → Int32) → (Nat → Int32) → Option ((Nat → Int32) × (Nat → Int32) × (Nat → Int32) × (Nat → Int32))) (x0_3 : Int32) (f4 : (Nat → Int32)) (f5 : (Nat → Int32)) (f6 : (Nat → Int32)) (l1 : Int32) (l2 : Int32) (l3 : Int32) (l4 : Int32) (l5 : Int32) (s0 : Int32) (f1 : (Nat → Int32)) (f2 : (Nat → Int32)) (f3 : (Nat → Int32)) (f7 : (Nat → Int32)) : Option ((Nat → Int32) × (Nat → Int32) × (Nat → Int32) × (Nat → Int32)) := (if x0_3 ≤ l2 then (K 1 l1 0 0 0 0 0 f1 f2 f3 f7) else (if (l2 : Int32) < 0 ∨ 11 ≤ (Int32.toNatClampNeg l2) then none else (K 3 l1 l2 (4 * l2) 0 0 0 f1 f2 f3 (upd f7 (Int32.toNatClampNeg l2) (vp_nar .boolean 1)))))
def B_Model_prepare_3 (K : Nat → Int32 → Int32 → Int32 → Int32 → Int32 → Int32 → (Nat → Int32) → (Nat → Int32) → (Nat → Int32) → (Nat → Int32) → Option ((Nat → Int32) × (Nat → Int32) × (Nat → Int32) × (Nat → Int32))) (x0_3 : Int32) (f4 : (Nat → Int32)) (f5 : (Nat → Int32)) (f6 : (Nat → Int32)) (l1 : Int32) (l2 : Int32) (l3 : Int32) (l4 : Int32) (l5 : Int32) (s0 : Int32) (f1 : (Nat → Int32)) (f2 : (Nat → Int32)) (f3 : (Nat → Int32)) (f7 : (Nat → Int32)) : Option ((Nat → Int32) × (Nat → Int32) × (Nat → Int32) × (Nat → Int32)) := (if (l2 : Int32) < 0 ∨ 11 ≤ (Int32.toNatClampNeg l2) then none else (if ((4 * l2) + (f5 (Int32.toNatClampNeg l2))) ≤ l3 then (if ¬ l1 = 0 then (if (l2 : Int32) < 0 ∨ 11 ≤ (Int32.toNatClampNeg l2) then none else (if (l2 : Int32) < 0 ∨ 11 ≤ (Int32.toNatClampNeg l2) then none else (if ((f4 (Int32.toNatClampNeg l2)) : Int32) < 0 ∨ 6 ≤ (Int32.toNatClampNeg (f4 (Int32.toNatClampNeg l2))) then none else (if ¬ (f1 (Int32.toNatClampNeg (f4 (Int32.toNatClampNeg l2)))) = 0 then (if ((f4 (Int32.toNatClampNeg l2)) : Int32) < 0 ∨ 6 ≤ (Int32.toNatClampNeg (f4 (Int32.toNatClampNeg l2))) then none else (K 2 1 (l2 + 1) 0 0 0 0 (upd f1 (Int32.toNatClampNeg (f4 (Int32.toNatClampNeg l2))) (vp_nar .boolean 1)) f2 f3 f7)) else (if (l2 : Int32) < 0 ∨ 11 ≤ (Int32.toNatClampNeg l2) then none else (if (f7 (Int32.toNatClampNeg l2)) = 0 then (if ((f4 (Int32.toNatClampNeg l2)) : Int32) < 0 ∨ 6 ≤ (Int32.toNatClampNeg (f4 (Int32.toNatClampNeg l2))) then none else (K 2 1 (l2 + 1) 0 0 0 0 (upd f1 (Int32.toNatClampNeg (f4 (Int32.toNatClampNeg l2))) (vp_nar .boolean 0)) f2 f3 f7)) else (if ((f4 (Int32.toNatClampNeg l2)) : Int32) < 0 ∨ 6 ≤ (Int32.toNatClampNeg (f4 (Int32.toNatClampNeg l2))) then none else (K 2 1 (l2 + 1) 0 0 0 0 (upd f1 (Int32.toNatClampNeg (f4 (Int32.toNatClampNeg l2))) (vp_nar .boolean 1)) f2 f3 f7)))))))) else (if (l2 : Int32) < 0 ∨ 11 ≤ (Int32.toNatClampNeg l2) then none else (if (f7 (Int32.toNatClampNeg l2)) = 0 then (if (l2 : Int32) < 0 ∨ 11 ≤ (Int32.toNatClampNeg l2) then none else (if (l2 : Int32) < 0 ∨ 11 ≤ (Int32.toNatClampNeg l2) then none else (if ((f4 (Int32.toNatClampNeg l2)) : Int32) < 0 ∨ 6 ≤ (Int32.toNatClampNeg (f4 (Int32.toNatClampNeg l2))) then none else (if ¬ (f1 (Int32.toNatClampNeg (f4 (Int32.toNatClampNeg l2)))) = 0 then (if ((f4 (Int32.toNatClampNeg l2)) : Int32) < 0 ∨ 6 ≤ (Int32.toNatClampNeg (f4 (Int32.toNatClampNeg l2))) then none else (K 2 0 (l2 + 1) 0 0 0 0 (upd f1 (Int32.toNatClampNeg (f4 (Int32.toNatClampNeg l2))) (vp_nar .boolean 1)) f2 f3 f7)) else (if (l2 : Int32) < 0 ∨ 11 ≤ (Int32.toNatClampNeg l2) then none else (if (f7 (Int32.toNatClampNeg l2)) = 0 then (if ((f4 (Int32.toNatClampNeg l2)) : Int32) < 0 ∨ 6 ≤ (Int32.toNatClampNeg (f4 (Int32.toNatClampNeg l2))) then none else (K 2 0 (l2 + 1) 0 0 0 0 (upd f1 (Int32.toNatClampNeg (f4 (Int32.toNatClampNeg l2))) (vp_nar .boolean 0)) f2 f3 f7)) else (if ((f4 (Int32.toNatClampNeg l2)) : Int32) < 0 ∨ 6 ≤ (Int32.toNatClampNeg (f4 (Int32.toNatClampNeg l2))) then none else (K 2 0 (l2 + 1) 0 0 0 0 (upd f1 (Int32.toNatClampNeg (f4 (Int32.toNatClampNeg l2))) (vp_nar .boolean 1)) f2 f3 f7)))))))) else (if (l2 : Int32) < 0 ∨ 11 ≤ (Int32.toNatClampNeg l2) then none else (if ((f4 (Int32.toNatClampNeg l2)) : Int32) < 0 ∨ 6 ≤ (Int32.toNatClampNeg (f4 (Int32.toNatClampNeg l2))) then none else (if ¬ (f1 (Int32.toNatClampNeg (f4 (Int32.toNatClampNeg l2)))) = 0 then (if (l2 : Int32) < 0 ∨ 11 ≤ (Int32.toNatClampNeg l2) then none else (if (l2 : Int32) < 0 ∨ 11 ≤ (Int32.toNatClampNeg l2) then none else (if ((f4 (Int32.toNatClampNeg l2)) : Int32) < 0 ∨ 6 ≤ (Int32.toNatClampNeg (f4 (Int32.toNatClampNeg l2))) then none else (if ¬ (f1 (Int32.toNatClampNeg (f4 (Int32.toNatClampNeg l2)))) = 0 then (if ((f4 (Int32.toNatClampNeg l2)) : Int32) < 0 ∨ 6 ≤ (Int32.toNatClampNeg (f4 (Int32.toNatClampNeg l2))) then none else (K 2 0 (l2 + 1) 0 0 0 0 (upd f1 (Int32.toNatClampNeg (f4 (Int32.toNatClampNeg l2))) (vp_nar .boolean 1)) f2 f3 f7)) else (if (l2 : Int32) < 0 ∨ 11 ≤ (Int32.toNatClampNeg l2) then none else (if (f7 (Int32.toNatClampNeg l2)) = 0 then (if ((f4 (Int32.toNatClampNeg l2)) : Int32) < 0 ∨ 6 ≤ (Int32.toNatClampNeg (f4 (Int32.toNatClampNeg l2))) then none else (K 2 0 (l2 + 1) 0 0 0 0 (upd f1 (Int32.toNatClampNeg (f4 (Int32.toNatClampNeg l2))) (vp_nar .boolean 0)) f2 f3 f7)) else (if ((f4 (Int32.toNatClampNeg l2)) : Int32) < 0 ∨ 6 ≤ (Int32.toNatClampNeg (f4 (Int32.toNatClampNeg l2))) then none else (K 2 0 (l2 + 1) 0 0 0 0 (upd f1 (Int32.toNatClampNeg (f4 (Int32.toNatClampNeg l2))) (vp_nar .boolean 1)) f2 f3 f7)))))))) else (if (l2 : Int32) < 0 ∨ 11 ≤ (Int32.toNatClampNeg l2) then none else (if (l2 : Int32) < 0 ∨ 11 ≤ (Int32.toNatClampNeg l2) then none else (if ((f4 (Int32.toNatClampNeg l2)) : Int32) < 0 ∨ 6 ≤ (Int32.toNatClampNeg (f4 (Int32.toNatClampNeg l2))) then none else (if ¬ (f1 (Int32.toNatClampNeg (f4 (Int32.toNatClampNeg l2)))) = 0 then (if ((f4 (Int32.toNatClampNeg l2)) : Int32) < 0 ∨ 6 ≤ (Int32.toNatClampNeg (f4 (Int32.toNatClampNeg l2))) then none else (K 2 1 (l2 + 1) 0 0 0 0 (upd f1 (Int32.toNatClampNeg (f4 (Int32.toNatClampNeg l2))) (vp_nar .boolean 1)) f2 f3 f7)) else (if (l2 : Int32) < 0 ∨ 11 ≤ (Int32.toNatClampNeg l2) then none else (if (f7 (Int32.toNatClampNeg l2)) = 0 then (if ((f4 (Int32.toNatClampNeg l2)) : Int32) < 0 ∨ 6 ≤ (Int32.toNatClampNeg (f4 (Int32.toNatClampNeg l2))) then none else (K 2 1 (l2 + 1) 0 0 0 0 (upd f1 (Int32.toNatClampNeg (f4 (Int32.toNatClampNeg l2))) (vp_nar .boolean 0)) f2 f3 f7)) else (if ((f4 (Int32.toNatClampNeg l2)) : Int32) < 0 ∨ 6 ≤ (Int32.toNatClampNeg (f4 (Int32.toNatClampNeg l2))) then none else (K 2 1 (l2 + 1) 0 0 0 0 (upd f1 (Int32.toNatClampNeg (f4 (Int32.toNatClampNeg l2))) (vp_nar .boolean 1)) f2 f3 f7)))))))))))))) else (if (l2 : Int32) < 0 ∨ 11 ≤ (Int32.toNatClampNeg l2) then none else (if (f7 (Int32.toNatClampNeg l2)) = 0 then (if (l2 : Int32) < 0 ∨ 11 ≤ (Int32.toNatClampNeg l2) then none else (K 3 l1 l2 (l3 + 1) 0 0 0 f1 f2 f3 (upd f7 (Int32.toNatClampNeg l2) (vp_nar .boolean 0)))) else (if (l3 : Int32) < 0 ∨ 44 ≤ (Int32.toNatClampNeg l3) then none else (if (f6 (Int32.toNatClampNeg l3)) < 6 then (if (l2 : Int32) < 0 ∨ 11 ≤ (Int32.toNatClampNeg l2) then none else (K 3 l1 l2 (l3 + 1) 0 0 0 f1 f2 f3 (upd f7 (Int32.toNatClampNeg l2) (vp_nar .boolean 1)))) else (if (l3 : Int32) < 0 ∨ 44 ≤ (Int32.toNatClampNeg l3) then none else (if (((f6 (Int32.toNatClampNeg l3)) - 6) : Int32) < 0 ∨ 6 ≤ (Int32.toNatClampNeg ((f6 (Int32.toNatClampNeg l3)) - 6)) then none else (if (f1 (Int32.toNatClampNeg ((f6 (Int32.toNatClampNeg l3)) - 6))) = 0 then (if (l2 : Int32) < 0 ∨ 11 ≤ (Int32.toNatClampNeg l2) then none else (K 3 l1 l2 (l3 + 1) 0 0 0 f1 f2 f3 (upd f7 (Int32.toNatClampNeg l2) (vp_nar .boolean 0)))) else (if (l2 : Int32) < 0 ∨ 11 ≤ (Int32.toNatClampNeg l2) then none else (K 3 l1 l2 (l3 + 1) 0 0 0 f1 f2 f3 (upd f7 (Int32.toNatClampNeg l2) (vp_nar .boolean 1)))))))))))))
def B_Model_prepare_4 (K : Nat → Int32 → Int32 → Int32 → Int32 → Int32 → Int32 → (Nat → Int32) → (Nat → Int32) → (Nat → Int32) → (Nat → Int32) → Option ((Nat → Int32) × (Nat → Int32) × (Nat → Int32) × (Nat → Int32))) (x0_3 : Int32) (f4 : (Nat → Int32)) (f5 : (Nat → Int32)) (f6 : (Nat → Int32)) (l1 : Int32) (l2 : Int32) (l3 : Int32) (l4 : Int32) (l5 : Int32) (s0 : Int32) (f1 : (Nat → Int32)) (f2 : (Nat → Int32)) (f3 : (Nat → Int32)) (f7 : (Nat → Int32)) : Option ((Nat → Int32) × (Nat → Int32) × (Nat → Int32) × (Nat → Int32)) := (if l1 = 0 then (some (f1, f2, f3, f7)) else (K 5 0 0 0 0 0 0 f1 f2 f3 f7))
def B_Model_prepare_5 (K : Nat → Int32 → Int32 → Int32 → Int32 → Int32 → Int32 → (Nat → Int32) → (Nat → Int32) → (Nat → Int32) → (Nat → Int32) → Option ((Nat → Int32) × (Nat → Int32) × (Nat → Int32) × (Nat → Int32))) (x0_3 : Int32) (f4 : (Nat → Int32)) (f5 : (Nat → Int32)) (f6 : (Nat → Int32)) (l1 : Int32) (l2 : Int32) (l3 : Int32) (l4 : Int32) (l5 : Int32) (s0 : Int32) (f1 : (Nat → Int32)) (f2 : (Nat → Int32)) (f3 : (Nat → Int32)) (f7 : (Nat → Int32)) : Option ((Nat → Int32) × (Nat → Int32) × (Nat → Int32) × (Nat → Int32)) := (if x0_3 ≤ l2 then (K 4 l1 0 0 0 0 0 f1 f2 f3 f7) else (if (l2 : Int32) < 0 ∨ 11 ≤ (Int32.toNatClampNeg l2) then none else (if (f7 (Int32.toNatClampNeg l2)) = 0 then (K 6 l1 l2 0 0 0 0 f1 f2 f3 f7) else ((S_Model_begins l2 0 0 f2 f3 f5 f6).bind fun u_67 => (K 6 l1 l2 0 0 0 u_67 f1 f2 f3 f7)))))
def B_Model_prepare_6 (K : Nat → Int32 → Int32 → Int32 → Int32 → Int32 → Int32 → (Nat → Int32) → (Nat → Int32) → (Nat → Int32) → (Nat → Int32) → Option ((Nat → Int32) × (Nat → Int32) × (Nat → Int32) × (Nat → Int32))) (x0_3 : Int32) (f4 : (Nat → Int32)) (f5 : (Nat → Int32)) (f6 : (Nat → Int32)) (l1 : Int32) (l2 : Int32) (l3 : Int32) (l4 : Int32) (l5 : Int32) (s0 : Int32) (f1 : (Nat → Int32)) (f2 : (Nat → Int32)) (f3 : (Nat → Int32)) (f7 : (Nat → Int32)) : Option ((Nat → Int32) × (Nat → Int32) × (Nat → Int32) × (Nat → Int32)) := (if (l2 : Int32) < 0 ∨ 11 ≤ (Int32.toNatClampNeg l2) then none else (if (f7 (Int32.toNatClampNeg l2)) = 0 then (K 7 l1 l2 s0 0 0 0 f1 f2 f3 f7) else ((S_Model_isEmpty l2 0 f2 f5 f6).bind fun u_70 => (if u_70 = 0 then (K 7 l1 l2 s0 0 0 0 f1 f2 f3 f7) else (K 8 l1 l2 s0 0 0 1 f1 f2 f3 f7)))))
def B_Model_prepare_7 (K : Nat → Int32 → Int32 → Int32 → Int32 → Int32 → Int32 → (Nat → Int32) → (Nat → Int32) → (Nat → Int32) → (Nat → Int32) → Option ((Nat → Int32) × (Nat → Int32) × (Nat → Int32) × (Nat → Int32))) (x0_3 : Int32) (f4 : (Nat → Int32)) (f5 : (Nat → Int32)) (f6 : (Nat → Int32)) (l1 : Int32) (l2 : Int32) (l3 : Int32) (l4 : Int32) (l5 : Int32) (s0 : Int32) (f1 : (Nat → Int32)) (f2 : (Nat → Int32)) (f3 : (Nat → Int32)) (f7 : (Nat → Int32)) : Option ((Nat → Int32) × (Nat → Int32) × (Nat → Int32) × (Nat → Int32)) := (K 8 l1 l2 l3 0 0 0 f1 f2 f3 f7)
def B_Model_prepare_8 (K : Nat → Int32 → Int32 → Int32 → Int32 → Int32 → Int32 → (Nat → Int32) → (Nat → Int32) → (Nat → Int32) → (Nat → Int32) → Option ((Nat → Int32) × (Nat → Int32) × (Nat → Int32) × (Nat → Int32))) (x0_3 : Int32) (f4 : (Nat → Int32)) (f5 : (Nat → Int32)) (f6 : (Nat → Int32)) (l1 : Int32) (l2 : Int32) (l3 : Int32) (l4 : Int32) (l5 : Int32) (s0 : Int32) (f1 : (Nat → Int32)) (f2 : (Nat → Int32)) (f3 : (Nat → Int32)) (f7 : (Nat → Int32)) : Option ((Nat → Int32) × (Nat → Int32) × (Nat → Int32) × (Nat → Int32)) := (if (l2 : Int32) < 0 ∨ 11 ≤ (Int32.toNatClampNeg l2) then none else (if ¬ l1 = 0 then (K 9 l1 l2 l3 s0 (f4 (Int32.toNatClampNeg l2)) 0 f1 f2 f3 f7) else (if ((f4 (Int32.toNatClampNeg l2)) : Int32) < 0 ∨ 6 ≤ (Int32.toNatClampNeg (f4 (Int32.toNatClampNeg l2))) then none else (if ((f4 (Int32.toNatClampNeg l2)) : Int32) < 0 ∨ 6 ≤ (Int32.toNatClampNeg (f4 (Int32.toNatClampNeg l2))) then none else (if ¬ (l3 ||| (f3 (Int32.toNatClampNeg (f4 (Int32.toNatClampNeg l2))))) = (f3 (Int32.toNatClampNeg (f4 (Int32.toNatClampNeg l2)))) then (K 9 l1 l2 l3 s0 (f4 (Int32.toNatClampNeg l2)) 0 f1 f2 f3 f7) else (if s0 = 0 then (if ((f4 (Int32.toNatClampNeg l2)) : Int32) < 0 ∨ 6 ≤ (Int32.toNatClampNeg (f4 (Int32.toNatClampNeg l2))) then none else (if ((f4 (Int32.toNatClampNeg l2)) : Int32) < 0 ∨ 6 ≤ (Int32.toNatClampNeg (f4 (Int32.toNatClampNeg l2))) then none else (if ((f4 (Int32.toNatClampNeg l2)) : Int32) < 0 ∨ 6 ≤ (Int32.toNatClampNeg (f4 (Int32.toNatClampNeg l2))) then none else (if ¬ (f2 (Int32.toNatClampNeg (f4 (Int32.toNatClampNeg l2)))) = 0 then (if ((f4 (Int32.toNatClampNeg l2)) : Int32) < 0 ∨ 6 ≤ (Int32.toNatClampNeg (f4 (Int32.toNatClampNeg l2))) then none else (K 5 0 (l2 + 1) 0 0 0 0 f1 (upd f2 (Int32.toNatClampNeg (f4 (Int32.toNatClampNeg l2))) (vp_nar .boolean 1)) (upd f3 (Int32.toNatClampNeg (f4 (Int32.toNatClampNeg l2))) ((f3 (Int32.toNatClampNeg (f4 (Int32.toNatClampNeg l2)))) ||| l3)) f7)) else (if s0 = 0 then (if ((f4 (Int32.toNatClampNeg l2)) : Int32) < 0 ∨ 6 ≤ (Int32.toNatClampNeg (f4 (Int32.toNatClampNeg l2))) then none else (K 5 0 (l2 + 1) 0 0 0 0 f1 (upd f2 (Int32.toNatClampNeg (f4 (Int32.toNatClampNeg l2))) (vp_nar .boolean 0)) (upd f3 (Int32.toNatClampNeg (f4 (Int32.toNatClampNeg l2))) ((f3 (Int32.toNatClampNeg (f4 (Int32.toNatClampNeg l2)))) ||| l3)) f7)) else (if ((f4 (Int32.toNatClampNeg l2)) : Int32) < 0 ∨ 6 ≤ (Int32.toNatClampNeg (f4 (Int32.toNatClampNeg l2))) then none else (K 5 0 (l2 + 1) 0 0 0 0 f1 (upd f2 (Int32.toNatClampNeg (f4 (Int32.toNatClampNeg l2))) (vp_nar .boolean 1)) (upd f3 (Int32.toNatClampNeg (f4 (Int32.toNatClampNeg l2))) ((f3 (Int32.toNatClampNeg (f4 (Int32.toNatClampNeg l2)))) ||| l3)) f7))))))) else (if ((f4 (Int32.toNatClampNeg l2)) : Int32) < 0 ∨ 6 ≤ (Int32.toNatClampNeg (f4 (Int32.toNatClampNeg l2))) then none else (if ¬ (f2 (Int32.toNatClampNeg (f4 (Int32.toNatClampNeg l2)))) = 0 then (if ((f4 (Int32.toNatClampNeg l2)) : Int32) < 0 ∨ 6 ≤ (Int32.toNatClampNeg (f4 (Int32.toNatClampNeg l2))) then none else (if ((f4 (Int32.toNatClampNeg l2)) : Int32) < 0 ∨ 6 ≤ (Int32.toNatClampNeg (f4 (Int32.toNatClampNeg l2))) then none else (if ((f4 (Int32.toNatClampNeg l2)) : Int32) < 0 ∨ 6 ≤ (Int32.toNatClampNeg (f4 (Int32.toNatClampNeg l2))) then none else (if ¬ (f2 (Int32.toNatClampNeg (f4 (Int32.toNatClampNeg l2)))) = 0 then (if ((f4 (Int32.toNatClampNeg l2)) : Int32) < 0 ∨ 6 ≤ (Int32.toNatClampNeg (f4 (Int32.toNatClampNeg l2))) then none else (K 5 0 (l2 + 1) 0 0 0 0 f1 (upd f2 (Int32.toNatClampNeg (f4 (Int32.toNatClampNeg l2))) (vp_nar .boolean 1)) (upd f3 (Int32.toNatClampNeg (f4 (Int32.toNatClampNeg l2))) ((f3 (Int32.toNatClampNeg (f4 (Int32.toNatClampNeg l2)))) ||| l3)) f7)) else (if s0 = 0 then (if ((f4 (Int32.toNatClampNeg l2)) : Int32) < 0 ∨ 6 ≤ (Int32.toNatClampNeg (f4 (Int32.toNatClampNeg l2))) then none else (K 5 0 (l2 + 1) 0 0 0 0 f1 (upd f2 (Int32.toNatClampNeg (f4 (Int32.toNatClampNeg l2))) (vp_nar .boolean 0)) (upd f3 (Int32.toNatClampNeg (f4 (Int32.toNatClampNeg l2))) ((f3 (Int32.toNatClampNeg (f4 (Int32.toNatClampNeg l2)))) ||| l3)) f7)) else (if ((f4 (Int32.toNatClampNeg l2)) : Int32) < 0 ∨ 6 ≤ (Int32.toNatClampNeg (f4 (Int32.toNatClampNeg l2))) then none else (K 5 0 (l2 + 1) 0 0 0 0 f1 (upd f2 (Int32.toNatClampNeg (f4 (Int32.toNatClampNeg l2))) (vp_nar .boolean 1)) (upd f3 (Int32.toNatClampNeg (f4 (Int32.toNatClampNeg l2))) ((f3 (Int32.toNatClampNeg (f4 (Int32.toNatClampNeg l2)))) ||| l3)) f7))))))) else (K 9 l1 l2 l3 s0 (f4 (Int32.toNatClampNeg l2)) 0 f1 f2 f3 f7)))))))))
def B_Model_prepare_9 (K : Nat → Int32 → Int32 → Int32 → Int32 → Int32 → Int32 → (Nat → Int32) → (Nat → Int32) → (Nat → Int32) → (Nat → Int32) → Option ((Nat → Int32) × (Nat → Int32) × (Nat → Int32) × (Nat → Int32))) (x0_3 : Int32) (f4 : (Nat → Int32)) (f5 : (Nat → Int32)) (f6 : (Nat → Int32)) (l1 : Int32) (l2 : Int32) (l3 : Int32) (l4 : Int32) (l5 : Int32) (s0 : Int32) (f1 : (Nat → Int32)) (f2 : (Nat → Int32)) (f3 : (Nat → Int32)) (f7 : (Nat → Int32)) : Option ((Nat → Int32) × (Nat → Int32) × (Nat → Int32) × (Nat → Int32)) := (if (l5 : Int32) < 0 ∨ 6 ≤ (Int32.toNatClampNeg l5) then none else (if (l5 : Int32) < 0 ∨ 6 ≤ (Int32.toNatClampNeg l5) then none else (if (l5 : Int32) < 0 ∨ 6 ≤ (Int32.toNatClampNeg l5) then none else (if ¬ (f2 (Int32.toNatClampNeg l5)) = 0 then (if (l5 : Int32) < 0 ∨ 6 ≤ (Int32.toNatClampNeg l5) then none else (K 5 1 (l2 + 1) 0 0 0 0 f1 (upd f2 (Int32.toNatClampNeg l5) (vp_nar .boolean 1)) (upd f3 (Int32.toNatClampNeg l5) ((f3 (Int32.toNatClampNeg l5)) ||| l3)) f7)) else (if l4 = 0 then (if (l5 : Int32) < 0 ∨ 6 ≤ (Int32.toNatClampNeg l5) then none else (K 5 1 (l2 + 1) 0 0 0 0 f1 (upd f2 (Int32.toNatClampNeg l5) (vp_nar .boolean 0)) (upd f3 (Int32.toNatClampNeg l5) ((f3 (Int32.toNatClampNeg l5)) ||| l3)) f7)) else (if (l5 : Int32) < 0 ∨ 6 ≤ (Int32.toNatClampNeg l5) then none else (K 5 1 (l2 + 1) 0 0 0 0 f1 (upd f2 (Int32.toNatClampNeg l5) (vp_nar .boolean 1)) (upd f3 (Int32.toNatClampNeg l5) ((f3 (Int32.toNatClampNeg l5)) ||| l3)) f7)))))))
def F_Model_prepare (x0_3 : Int32) (f4 : (Nat → Int32)) (f5 : (Nat → Int32)) (f6 : (Nat → Int32)) : Nat → Nat → Int32 → Int32 → Int32 → Int32 → Int32 → Int32 → (Nat → Int32) → (Nat → Int32) → (Nat → Int32) → (Nat → Int32) → Option ((Nat → Int32) × (Nat → Int32) × (Nat → Int32) × (Nat → Int32))
  | 0 => fun _ _ _ _ _ _ _ _ _ _ _ => none
  | n + 1 => fun hd l1 l2 l3 l4 l5 s0 f1 f2 f3 f7 => match hd with
    | 0 => B_Model_prepare_0 (F_Model_prepare x0_3 f4 f5 f6 n) x0_3 f4 f5 f6 l1 l2 l3 l4 l5 s0 f1 f2 f3 f7
    | 1 => B_Model_prepare_1 (F_Model_prepare x0_3 f4 f5 f6 n) x0_3 f4 f5 f6 l1 l2 l3 l4 l5 s0 f1 f2 f3 f7
    | 2 => B_Model_prepare_2 (F_Model_prepare x0_3 f4 f5 f6 n) x0_3 f4 f5 f6 l1 l2 l3 l4 l5 s0 f1 f2 f3 f7
    | 3 => B_Model_prepare_3 (F_Model_prepare x0_3 f4 f5 f6 n) x0_3 f4 f5 f6 l1 l2 l3 l4 l5 s0 f1 f2 f3 f7
    | 4 => B_Model_prepare_4 (F_Model_prepare x0_3 f4 f5 f6 n) x0_3 f4 f5 f6 l1 l2 l3 l4 l5 s0 f1 f2 f3 f7
    | 5 => B_Model_prepare_5 (F_Model_prepare x0_3 f4 f5 f6 n) x0_3 f4 f5 f6 l1 l2 l3 l4 l5 s0 f1 f2 f3 f7
    | 6 => B_Model_prepare_6 (F_Model_prepare x0_3 f4 f5 f6 n) x0_3 f4 f5 f6 l1 l2 l3 l4 l5 s0 f1 f2 f3 f7
    | 7 => B_Model_prepare_7 (F_Model_prepare x0_3 f4 f5 f6 n) x0_3 f4 f5 f6 l1 l2 l3 l4 l5 s0 f1 f2 f3 f7
    | 8 => B_Model_prepare_8 (F_Model_prepare x0_3 f4 f5 f6 n) x0_3 f4 f5 f6 l1 l2 l3 l4 l5 s0 f1 f2 f3 f7
    | 9 => B_Model_prepare_9 (F_Model_prepare x0_3 f4 f5 f6 n) x0_3 f4 f5 f6 l1 l2 l3 l4 l5 s0 f1 f2 f3 f7
    | _ => none
set_option maxHeartbeats 4000000 in
set_option maxRecDepth 100000 in
theorem L_Model_prepare {p : Program} {l : Launch} {e : Env} {s : State} {m : MethodId} {args : Array Value} {below : List Frame} {meth : Method} {c : Code} {A : Nat → Prop} {dC : Nat → ClassId} {dI : Nat → Nat → Nat} {kA : Nat → ClassId} (hx : p.tables.exec = Jvm.exec) (hb : c.code = b_Model_prepare) (hr : meth.sig.returnType = none) (hlocks : meth.locks = false) (hml : c.maxLocals = 6) (hown : s.vm.findClass R_Model = some m.cls) (hts : ∀ w ∈ w_Model_prepare, w.before args s = true) (hA : ∀ q : Nat, s.heap.size ≤ q → A q) (hK : va_K (dC, dI) classes (tys_ kA) s) (a0 a1 a2 a3 a4 a5 a6 a7 : Nat) (v0_0 v0_1 v0_2 v0_11 v0_12 v0_13 v0_14 v0_15 v0_16 v0_17 v0_18 v0_19 v0_20 v0_21 v0_22 v0_23 v0_24 v0_25 v0_26 v0_27 v0_28 : Value) (x0_3 : Int32) (f4 : (Nat → Int32)) (f5 : (Nat → Int32)) (f6 : (Nat → Int32)) (of1 : (Nat → Int32)) (of2 : (Nat → Int32)) (of3 : (Nat → Int32)) (of7 : (Nat → Int32)) : ∀ n : Nat, (∀ (l1 l2 l3 l4 l5 s0 : Int32) (f1 : (Nat → Int32)) (f2 : (Nat → Int32)) (f3 : (Nat → Int32)) (f7 : (Nat → Int32)), F_Model_prepare x0_3 f4 f5 f6 n 0 l1 l2 l3 l4 l5 s0 f1 f2 f3 f7 = some (of1, of2, of3, of7) → ∀ (H : Heap) (locs : List Loc) (ls : Array Slot), va_P (dC, dI) classes (wd_Model_prepare kA a0 a1 a2 a3 a4 a5 a6 a7 v0_0 v0_1 v0_2 v0_11 v0_12 v0_13 v0_14 v0_15 v0_16 v0_17 v0_18 v0_19 v0_20 v0_21 v0_22 v0_23 v0_24 v0_25 v0_26 v0_27 v0_28 x0_3 f1 f2 f3 f4 f5 f6 f7) H → va_D A (wd_Model_prepare kA a0 a1 a2 a3 a4 a5 a6 a7 v0_0 v0_1 v0_2 v0_11 v0_12 v0_13 v0_14 v0_15 v0_16 v0_17 v0_18 v0_19 v0_20 v0_21 v0_22 v0_23 v0_24 v0_25 v0_26 v0_27 v0_28 x0_3 f1 f2 f3 f4 f5 f6 f7) → va_S A s.heap H locs → lv_has ls 6 [(0, .ref a0), (1, .int l1)] → W p l e (headSpec w_Model_prepare rm_Model_prepare).room s m args below meth c H locs 0 0 (MQ below (va_Qv (fun (_ : Unit) => True) (fun _ t => va_P (dC, dI) classes (wd_Model_prepare kA a0 a1 a2 a3 a4 a5 a6 a7 v0_0 v0_1 v0_2 v0_11 v0_12 v0_13 v0_14 v0_15 v0_16 v0_17 v0_18 v0_19 v0_20 v0_21 v0_22 v0_23 v0_24 v0_25 v0_26 v0_27 v0_28 x0_3 of1 of2 of3 f4 f5 f6 of7) t.heap ∧ va_K (dC, dI) classes (tys_ kA) t ∧ va_D A (wd_Model_prepare kA a0 a1 a2 a3 a4 a5 a6 a7 v0_0 v0_1 v0_2 v0_11 v0_12 v0_13 v0_14 v0_15 v0_16 v0_17 v0_18 v0_19 v0_20 v0_21 v0_22 v0_23 v0_24 v0_25 v0_26 v0_27 v0_28 x0_3 of1 of2 of3 f4 f5 f6 of7)) A) args s 0 0 A) (F0 m 2 ls [])) ∧ (∀ (l1 l2 l3 l4 l5 s0 : Int32) (f1 : (Nat → Int32)) (f2 : (Nat → Int32)) (f3 : (Nat → Int32)) (f7 : (Nat → Int32)), F_Model_prepare x0_3 f4 f5 f6 n 1 l1 l2 l3 l4 l5 s0 f1 f2 f3 f7 = some (of1, of2, of3, of7) → ∀ (H : Heap) (locs : List Loc) (ls : Array Slot), va_P (dC, dI) classes (wd_Model_prepare kA a0 a1 a2 a3 a4 a5 a6 a7 v0_0 v0_1 v0_2 v0_11 v0_12 v0_13 v0_14 v0_15 v0_16 v0_17 v0_18 v0_19 v0_20 v0_21 v0_22 v0_23 v0_24 v0_25 v0_26 v0_27 v0_28 x0_3 f1 f2 f3 f4 f5 f6 f7) H → va_D A (wd_Model_prepare kA a0 a1 a2 a3 a4 a5 a6 a7 v0_0 v0_1 v0_2 v0_11 v0_12 v0_13 v0_14 v0_15 v0_16 v0_17 v0_18 v0_19 v0_20 v0_21 v0_22 v0_23 v0_24 v0_25 v0_26 v0_27 v0_28 x0_3 f1 f2 f3 f4 f5 f6 f7) → va_S A s.heap H locs → lv_has ls 6 [(0, .ref a0), (1, .int l1)] → W p l e (headSpec w_Model_prepare rm_Model_prepare).room s m args below meth c H locs 0 0 (MQ below (va_Qv (fun (_ : Unit) => True) (fun _ t => va_P (dC, dI) classes (wd_Model_prepare kA a0 a1 a2 a3 a4 a5 a6 a7 v0_0 v0_1 v0_2 v0_11 v0_12 v0_13 v0_14 v0_15 v0_16 v0_17 v0_18 v0_19 v0_20 v0_21 v0_22 v0_23 v0_24 v0_25 v0_26 v0_27 v0_28 x0_3 of1 of2 of3 f4 f5 f6 of7) t.heap ∧ va_K (dC, dI) classes (tys_ kA) t ∧ va_D A (wd_Model_prepare kA a0 a1 a2 a3 a4 a5 a6 a7 v0_0 v0_1 v0_2 v0_11 v0_12 v0_13 v0_14 v0_15 v0_16 v0_17 v0_18 v0_19 v0_20 v0_21 v0_22 v0_23 v0_24 v0_25 v0_26 v0_27 v0_28 x0_3 of1 of2 of3 f4 f5 f6 of7)) A) args s 0 0 A) (F0 m 37 ls [])) ∧ (∀ (l1 l2 l3 l4 l5 s0 : Int32) (f1 : (Nat → Int32)) (f2 : (Nat → Int32)) (f3 : (Nat → Int32)) (f7 : (Nat → Int32)), F_Model_prepare x0_3 f4 f5 f6 n 2 l1 l2 l3 l4 l5 s0 f1 f2 f3 f7 = some (of1, of2, of3, of7) → ∀ (H : Heap) (locs : List Loc) (ls : Array Slot), va_P (dC, dI) classes (wd_Model_prepare kA a0 a1 a2 a3 a4 a5 a6 a7 v0_0 v0_1 v0_2 v0_11 v0_12 v0_13 v0_14 v0_15 v0_16 v0_17 v0_18 v0_19 v0_20 v0_21 v0_22 v0_23 v0_24 v0_25 v0_26 v0_27 v0_28 x0_3 f1 f2 f3 f4 f5 f6 f7) H → va_D A (wd_Model_prepare kA a0 a1 a2 a3 a4 a5 a6 a7 v0_0 v0_1 v0_2 v0_11 v0_12 v0_13 v0_14 v0_15 v0_16 v0_17 v0_18 v0_19 v0_20 v0_21 v0_22 v0_23 v0_24 v0_25 v0_26 v0_27 v0_28 x0_3 f1 f2 f3 f4 f5 f6 f7) → va_S A s.heap H locs → lv_has ls 6 [(0, .ref a0), (1, .int l1), (2, .int l2)] → W p l e (headSpec w_Model_prepare rm_Model_prepare).room s m args below meth c H locs 0 0 (MQ below (va_Qv (fun (_ : Unit) => True) (fun _ t => va_P (dC, dI) classes (wd_Model_prepare kA a0 a1 a2 a3 a4 a5 a6 a7 v0_0 v0_1 v0_2 v0_11 v0_12 v0_13 v0_14 v0_15 v0_16 v0_17 v0_18 v0_19 v0_20 v0_21 v0_22 v0_23 v0_24 v0_25 v0_26 v0_27 v0_28 x0_3 of1 of2 of3 f4 f5 f6 of7) t.heap ∧ va_K (dC, dI) classes (tys_ kA) t ∧ va_D A (wd_Model_prepare kA a0 a1 a2 a3 a4 a5 a6 a7 v0_0 v0_1 v0_2 v0_11 v0_12 v0_13 v0_14 v0_15 v0_16 v0_17 v0_18 v0_19 v0_20 v0_21 v0_22 v0_23 v0_24 v0_25 v0_26 v0_27 v0_28 x0_3 of1 of2 of3 f4 f5 f6 of7)) A) args s 0 0 A) (F0 m 45 ls [])) ∧ (∀ (l1 l2 l3 l4 l5 s0 : Int32) (f1 : (Nat → Int32)) (f2 : (Nat → Int32)) (f3 : (Nat → Int32)) (f7 : (Nat → Int32)), F_Model_prepare x0_3 f4 f5 f6 n 3 l1 l2 l3 l4 l5 s0 f1 f2 f3 f7 = some (of1, of2, of3, of7) → ∀ (H : Heap) (locs : List Loc) (ls : Array Slot), va_P (dC, dI) classes (wd_Model_prepare kA a0 a1 a2 a3 a4 a5 a6 a7 v0_0 v0_1 v0_2 v0_11 v0_12 v0_13 v0_14 v0_15 v0_16 v0_17 v0_18 v0_19 v0_20 v0_21 v0_22 v0_23 v0_24 v0_25 v0_26 v0_27 v0_28 x0_3 f1 f2 f3 f4 f5 f6 f7) H → va_D A (wd_Model_prepare kA a0 a1 a2 a3 a4 a5 a6 a7 v0_0 v0_1 v0_2 v0_11 v0_12 v0_13 v0_14 v0_15 v0_16 v0_17 v0_18 v0_19 v0_20 v0_21 v0_22 v0_23 v0_24 v0_25 v0_26 v0_27 v0_28 x0_3 f1 f2 f3 f4 f5 f6 f7) → va_S A s.heap H locs → lv_has ls 6 [(0, .ref a0), (1, .int l1), (2, .int l2), (3, .int l3)] → W p l e (headSpec w_Model_prepare rm_Model_prepare).room s m args below meth c H locs 0 0 (MQ below (va_Qv (fun (_ : Unit) => True) (fun _ t => va_P (dC, dI) classes (wd_Model_prepare kA a0 a1 a2 a3 a4 a5 a6 a7 v0_0 v0_1 v0_2 v0_11 v0_12 v0_13 v0_14 v0_15 v0_16 v0_17 v0_18 v0_19 v0_20 v0_21 v0_22 v0_23 v0_24 v0_25 v0_26 v0_27 v0_28 x0_3 of1 of2 of3 f4 f5 f6 of7) t.heap ∧ va_K (dC, dI) classes (tys_ kA) t ∧ va_D A (wd_Model_prepare kA a0 a1 a2 a3 a4 a5 a6 a7 v0_0 v0_1 v0_2 v0_11 v0_12 v0_13 v0_14 v0_15 v0_16 v0_17 v0_18 v0_19 v0_20 v0_21 v0_22 v0_23 v0_24 v0_25 v0_26 v0_27 v0_28 x0_3 of1 of2 of3 f4 f5 f6 of7)) A) args s 0 0 A) (F0 m 64 ls [])) ∧ (∀ (l1 l2 l3 l4 l5 s0 : Int32) (f1 : (Nat → Int32)) (f2 : (Nat → Int32)) (f3 : (Nat → Int32)) (f7 : (Nat → Int32)), F_Model_prepare x0_3 f4 f5 f6 n 4 l1 l2 l3 l4 l5 s0 f1 f2 f3 f7 = some (of1, of2, of3, of7) → ∀ (H : Heap) (locs : List Loc) (ls : Array Slot), va_P (dC, dI) classes (wd_Model_prepare kA a0 a1 a2 a3 a4 a5 a6 a7 v0_0 v0_1 v0_2 v0_11 v0_12 v0_13 v0_14 v0_15 v0_16 v0_17 v0_18 v0_19 v0_20 v0_21 v0_22 v0_23 v0_24 v0_25 v0_26 v0_27 v0_28 x0_3 f1 f2 f3 f4 f5 f6 f7) H → va_D A (wd_Model_prepare kA a0 a1 a2 a3 a4 a5 a6 a7 v0_0 v0_1 v0_2 v0_11 v0_12 v0_13 v0_14 v0_15 v0_16 v0_17 v0_18 v0_19 v0_20 v0_21 v0_22 v0_23 v0_24 v0_25 v0_26 v0_27 v0_28 x0_3 f1 f2 f3 f4 f5 f6 f7) → va_S A s.heap H locs → lv_has ls 6 [(0, .ref a0), (1, .int l1)] → W p l e (headSpec w_Model_prepare rm_Model_prepare).room s m args below meth c H locs 0 0 (MQ below (va_Qv (fun (_ : Unit) => True) (fun _ t => va_P (dC, dI) classes (wd_Model_prepare kA a0 a1 a2 a3 a4 a5 a6 a7 v0_0 v0_1 v0_2 v0_11 v0_12 v0_13 v0_14 v0_15 v0_16 v0_17 v0_18 v0_19 v0_20 v0_21 v0_22 v0_23 v0_24 v0_25 v0_26 v0_27 v0_28 x0_3 of1 of2 of3 f4 f5 f6 of7) t.heap ∧ va_K (dC, dI) classes (tys_ kA) t ∧ va_D A (wd_Model_prepare kA a0 a1 a2 a3 a4 a5 a6 a7 v0_0 v0_1 v0_2 v0_11 v0_12 v0_13 v0_14 v0_15 v0_16 v0_17 v0_18 v0_19 v0_20 v0_21 v0_22 v0_23 v0_24 v0_25 v0_26 v0_27 v0_28 x0_3 of1 of2 of3 f4 f5 f6 of7)) A) args s 0 0 A) (F0 m 215 ls [])) ∧ (∀ (l1 l2 l3 l4 l5 s0 : Int32) (f1 : (Nat → Int32)) (f2 : (Nat → Int32)) (f3 : (Nat → Int32)) (f7 : (Nat → Int32)), F_Model_prepare x0_3 f4 f5 f6 n 5 l1 l2 l3 l4 l5 s0 f1 f2 f3 f7 = some (of1, of2, of3, of7) → ∀ (H : Heap) (locs : List Loc) (ls : Array Slot), va_P (dC, dI) classes (wd_Model_prepare kA a0 a1 a2 a3 a4 a5 a6 a7 v0_0 v0_1 v0_2 v0_11 v0_12 v0_13 v0_14 v0_15 v0_16 v0_17 v0_18 v0_19 v0_20 v0_21 v0_22 v0_23 v0_24 v0_25 v0_26 v0_27 v0_28 x0_3 f1 f2 f3 f4 f5 f6 f7) H → va_D A (wd_Model_prepare kA a0 a1 a2 a3 a4 a5 a6 a7 v0_0 v0_1 v0_2 v0_11 v0_12 v0_13 v0_14 v0_15 v0_16 v0_17 v0_18 v0_19 v0_20 v0_21 v0_22 v0_23 v0_24 v0_25 v0_26 v0_27 v0_28 x0_3 f1 f2 f3 f4 f5 f6 f7) → va_S A s.heap H locs → lv_has ls 6 [(0, .ref a0), (1, .int l1), (2, .int l2)] → W p l e (headSpec w_Model_prepare rm_Model_prepare).room s m args below meth c H locs 0 0 (MQ below (va_Qv (fun (_ : Unit) => True) (fun _ t => va_P (dC, dI) classes (wd_Model_prepare kA a0 a1 a2 a3 a4 a5 a6 a7 v0_0 v0_1 v0_2 v0_11 v0_12 v0_13 v0_14 v0_15 v0_16 v0_17 v0_18 v0_19 v0_20 v0_21 v0_22 v0_23 v0_24 v0_25 v0_26 v0_27 v0_28 x0_3 of1 of2 of3 f4 f5 f6 of7) t.heap ∧ va_K (dC, dI) classes (tys_ kA) t ∧ va_D A (wd_Model_prepare kA a0 a1 a2 a3 a4 a5 a6 a7 v0_0 v0_1 v0_2 v0_11 v0_12 v0_13 v0_14 v0_15 v0_16 v0_17 v0_18 v0_19 v0_20 v0_21 v0_22 v0_23 v0_24 v0_25 v0_26 v0_27 v0_28 x0_3 of1 of2 of3 f4 f5 f6 of7)) A) args s 0 0 A) (F0 m 223 ls [])) ∧ (∀ (l1 l2 l3 l4 l5 s0 : Int32) (f1 : (Nat → Int32)) (f2 : (Nat → Int32)) (f3 : (Nat → Int32)) (f7 : (Nat → Int32)), F_Model_prepare x0_3 f4 f5 f6 n 6 l1 l2 l3 l4 l5 s0 f1 f2 f3 f7 = some (of1, of2, of3, of7) → ∀ (H : Heap) (locs : List Loc) (ls : Array Slot), va_P (dC, dI) classes (wd_Model_prepare kA a0 a1 a2 a3 a4 a5 a6 a7 v0_0 v0_1 v0_2 v0_11 v0_12 v0_13 v0_14 v0_15 v0_16 v0_17 v0_18 v0_19 v0_20 v0_21 v0_22 v0_23 v0_24 v0_25 v0_26 v0_27 v0_28 x0_3 f1 f2 f3 f4 f5 f6 f7) H → va_D A (wd_Model_prepare kA a0 a1 a2 a3 a4 a5 a6 a7 v0_0 v0_1 v0_2 v0_11 v0_12 v0_13 v0_14 v0_15 v0_16 v0_17 v0_18 v0_19 v0_20 v0_21 v0_22 v0_23 v0_24 v0_25 v0_26 v0_27 v0_28 x0_3 f1 f2 f3 f4 f5 f6 f7) → va_S A s.heap H locs → lv_has ls 6 [(0, .ref a0), (1, .int l1), (2, .int l2)] → W p l e (headSpec w_Model_prepare rm_Model_prepare).room s m args below meth c H locs 0 0 (MQ below (va_Qv (fun (_ : Unit) => True) (fun _ t => va_P (dC, dI) classes (wd_Model_prepare kA a0 a1 a2 a3 a4 a5 a6 a7 v0_0 v0_1 v0_2 v0_11 v0_12 v0_13 v0_14 v0_15 v0_16 v0_17 v0_18 v0_19 v0_20 v0_21 v0_22 v0_23 v0_24 v0_25 v0_26 v0_27 v0_28 x0_3 of1 of2 of3 f4 f5 f6 of7) t.heap ∧ va_K (dC, dI) classes (tys_ kA) t ∧ va_D A (wd_Model_prepare kA a0 a1 a2 a3 a4 a5 a6 a7 v0_0 v0_1 v0_2 v0_11 v0_12 v0_13 v0_14 v0_15 v0_16 v0_17 v0_18 v0_19 v0_20 v0_21 v0_22 v0_23 v0_24 v0_25 v0_26 v0_27 v0_28 x0_3 of1 of2 of3 f4 f5 f6 of7)) A) args s 0 0 A) (F0 m 251 ls [.int s0])) ∧ (∀ (l1 l2 l3 l4 l5 s0 : Int32) (f1 : (Nat → Int32)) (f2 : (Nat → Int32)) (f3 : (Nat → Int32)) (f7 : (Nat → Int32)), F_Model_prepare x0_3 f4 f5 f6 n 7 l1 l2 l3 l4 l5 s0 f1 f2 f3 f7 = some (of1, of2, of3, of7) → ∀ (H : Heap) (locs : List Loc) (ls : Array Slot), va_P (dC, dI) classes (wd_Model_prepare kA a0 a1 a2 a3 a4 a5 a6 a7 v0_0 v0_1 v0_2 v0_11 v0_12 v0_13 v0_14 v0_15 v0_16 v0_17 v0_18 v0_19 v0_20 v0_21 v0_22 v0_23 v0_24 v0_25 v0_26 v0_27 v0_28 x0_3 f1 f2 f3 f4 f5 f6 f7) H → va_D A (wd_Model_prepare kA a0 a1 a2 a3 a4 a5 a6 a7 v0_0 v0_1 v0_2 v0_11 v0_12 v0_13 v0_14 v0_15 v0_16 v0_17 v0_18 v0_19 v0_20 v0_21 v0_22 v0_23 v0_24 v0_25 v0_26 v0_27 v0_28 x0_3 f1 f2 f3 f4 f5 f6 f7) → va_S A s.heap H locs → lv_has ls 6 [(0, .ref a0), (1, .int l1), (2, .int l2), (3, .int l3)] → W p l e (headSpec w_Model_prepare rm_Model_prepare).room s m args below meth c H locs 0 0 (MQ below (va_Qv (fun (_ : Unit) => True) (fun _ t => va_P (dC, dI) classes (wd_Model_prepare kA a0 a1 a2 a3 a4 a5 a6 a7 v0_0 v0_1 v0_2 v0_11 v0_12 v0_13 v0_14 v0_15 v0_16 v0_17 v0_18 v0_19 v0_20 v0_21 v0_22 v0_23 v0_24 v0_25 v0_26 v0_27 v0_28 x0_3 of1 of2 of3 f4 f5 f6 of7) t.heap ∧ va_K (dC, dI) classes (tys_ kA) t ∧ va_D A (wd_Model_prepare kA a0 a1 a2 a3 a4 a5 a6 a7 v0_0 v0_1 v0_2 v0_11 v0_12 v0_13 v0_14 v0_15 v0_16 v0_17 v0_18 v0_19 v0_20 v0_21 v0_22 v0_23 v0_24 v0_25 v0_26 v0_27 v0_28 x0_3 of1 of2 of3 f4 f5 f6 of7)) A) args s 0 0 A) (F0 m 274 ls [])) ∧ (∀ (l1 l2 l3 l4 l5 s0 : Int32) (f1 : (Nat → Int32)) (f2 : (Nat → Int32)) (f3 : (Nat → Int32)) (f7 : (Nat → Int32)), F_Model_prepare x0_3 f4 f5 f6 n 8 l1 l2 l3 l4 l5 s0 f1 f2 f3 f7 = some (of1, of2, of3, of7) → ∀ (H : Heap) (locs : List Loc) (ls : Array Slot), va_P (dC, dI) classes (wd_Model_prepare kA a0 a1 a2 a3 a4 a5 a6 a7 v0_0 v0_1 v0_2 v0_11 v0_12 v0_13 v0_14 v0_15 v0_16 v0_17 v0_18 v0_19 v0_20 v0_21 v0_22 v0_23 v0_24 v0_25 v0_26 v0_27 v0_28 x0_3 f1 f2 f3 f4 f5 f6 f7) H → va_D A (wd_Model_prepare kA a0 a1 a2 a3 a4 a5 a6 a7 v0_0 v0_1 v0_2 v0_11 v0_12 v0_13 v0_14 v0_15 v0_16 v0_17 v0_18 v0_19 v0_20 v0_21 v0_22 v0_23 v0_24 v0_25 v0_26 v0_27 v0_28 x0_3 f1 f2 f3 f4 f5 f6 f7) → va_S A s.heap H locs → lv_has ls 6 [(0, .ref a0), (1, .int l1), (2, .int l2), (3, .int l3)] → W p l e (headSpec w_Model_prepare rm_Model_prepare).room s m args below meth c H locs 0 0 (MQ below (va_Qv (fun (_ : Unit) => True) (fun _ t => va_P (dC, dI) classes (wd_Model_prepare kA a0 a1 a2 a3 a4 a5 a6 a7 v0_0 v0_1 v0_2 v0_11 v0_12 v0_13 v0_14 v0_15 v0_16 v0_17 v0_18 v0_19 v0_20 v0_21 v0_22 v0_23 v0_24 v0_25 v0_26 v0_27 v0_28 x0_3 of1 of2 of3 f4 f5 f6 of7) t.heap ∧ va_K (dC, dI) classes (tys_ kA) t ∧ va_D A (wd_Model_prepare kA a0 a1 a2 a3 a4 a5 a6 a7 v0_0 v0_1 v0_2 v0_11 v0_12 v0_13 v0_14 v0_15 v0_16 v0_17 v0_18 v0_19 v0_20 v0_21 v0_22 v0_23 v0_24 v0_25 v0_26 v0_27 v0_28 x0_3 of1 of2 of3 f4 f5 f6 of7)) A) args s 0 0 A) (F0 m 275 ls [.int s0])) ∧ (∀ (l1 l2 l3 l4 l5 s0 : Int32) (f1 : (Nat → Int32)) (f2 : (Nat → Int32)) (f3 : (Nat → Int32)) (f7 : (Nat → Int32)), F_Model_prepare x0_3 f4 f5 f6 n 9 l1 l2 l3 l4 l5 s0 f1 f2 f3 f7 = some (of1, of2, of3, of7) → ∀ (H : Heap) (locs : List Loc) (ls : Array Slot), va_P (dC, dI) classes (wd_Model_prepare kA a0 a1 a2 a3 a4 a5 a6 a7 v0_0 v0_1 v0_2 v0_11 v0_12 v0_13 v0_14 v0_15 v0_16 v0_17 v0_18 v0_19 v0_20 v0_21 v0_22 v0_23 v0_24 v0_25 v0_26 v0_27 v0_28 x0_3 f1 f2 f3 f4 f5 f6 f7) H → va_D A (wd_Model_prepare kA a0 a1 a2 a3 a4 a5 a6 a7 v0_0 v0_1 v0_2 v0_11 v0_12 v0_13 v0_14 v0_15 v0_16 v0_17 v0_18 v0_19 v0_20 v0_21 v0_22 v0_23 v0_24 v0_25 v0_26 v0_27 v0_28 x0_3 f1 f2 f3 f4 f5 f6 f7) → va_S A s.heap H locs → lv_has ls 6 [(0, .ref a0), (1, .int l1), (2, .int l2), (3, .int l3), (4, .int l4), (5, .int l5)] → W p l e (headSpec w_Model_prepare rm_Model_prepare).room s m args below meth c H locs 0 0 (MQ below (va_Qv (fun (_ : Unit) => True) (fun _ t => va_P (dC, dI) classes (wd_Model_prepare kA a0 a1 a2 a3 a4 a5 a6 a7 v0_0 v0_1 v0_2 v0_11 v0_12 v0_13 v0_14 v0_15 v0_16 v0_17 v0_18 v0_19 v0_20 v0_21 v0_22 v0_23 v0_24 v0_25 v0_26 v0_27 v0_28 x0_3 of1 of2 of3 f4 f5 f6 of7) t.heap ∧ va_K (dC, dI) classes (tys_ kA) t ∧ va_D A (wd_Model_prepare kA a0 a1 a2 a3 a4 a5 a6 a7 v0_0 v0_1 v0_2 v0_11 v0_12 v0_13 v0_14 v0_15 v0_16 v0_17 v0_18 v0_19 v0_20 v0_21 v0_22 v0_23 v0_24 v0_25 v0_26 v0_27 v0_28 x0_3 of1 of2 of3 f4 f5 f6 of7)) A) args s 0 0 A) (F0 m 323 ls [])) := by
  have hg := fun (w : Cond) (h : w ∈ gw) => hts w (List.mem_cons_of_mem _ h)
  intro n
  induction n with
  | zero =>
    exact ⟨fun _ _ _ _ _ _ _ _ _ _ hF => absurd (show (none : Option _) = some _ from hF) (fun z => by cases z), fun _ _ _ _ _ _ _ _ _ _ hF => absurd (show (none : Option _) = some _ from hF) (fun z => by cases z), fun _ _ _ _ _ _ _ _ _ _ hF => absurd (show (none : Option _) = some _ from hF) (fun z => by cases z), fun _ _ _ _ _ _ _ _ _ _ hF => absurd (show (none : Option _) = some _ from hF) (fun z => by cases z), fun _ _ _ _ _ _ _ _ _ _ hF => absurd (show (none : Option _) = some _ from hF) (fun z => by cases z), fun _ _ _ _ _ _ _ _ _ _ hF => absurd (show (none : Option _) = some _ from hF) (fun z => by cases z), fun _ _ _ _ _ _ _ _ _ _ hF => absurd (show (none : Option _) = some _ from hF) (fun z => by cases z), fun _ _ _ _ _ _ _ _ _ _ hF => absurd (show (none : Option _) = some _ from hF) (fun z => by cases z), fun _ _ _ _ _ _ _ _ _ _ hF => absurd (show (none : Option _) = some _ from hF) (fun z => by cases z), fun _ _ _ _ _ _ _ _ _ _ hF => absurd (show (none : Option _) = some _ from hF) (fun z => by cases z)⟩
  | succ n ih =>
    refine ⟨?_, ?_, ?_, ?_, ?_, ?_, ?_, ?_, ?_, ?_⟩
    · intro l1 l2 l3 l4 l5 s0 f1 f2 f3 f7 hF H locs ls hP hD hS hl
      have hF : B_Model_prepare_0 (F_Model_prepare x0_3 f4 f5 f6 n) x0_3 f4 f5 f6 l1 l2 l3 l4 l5 s0 f1 f2 f3 f7 = some (of1, of2, of3, of7) := hF
      unfold B_Model_prepare_0 at hF
      refine lv_iload_n hx hb d_Model_prepare_2 rfl (lv_at hl 1 rfl) ?_
      refine lv_bipush (v := 6) hx hb d_Model_prepare_3 (by decide) ?_
      refine lv_icmp_ge (tgt := 35) hx hb d_Model_prepare_5 (by decide) (fun c_1 => ?_) (fun c_1 => ?_)
      · rw [if_pos c_1] at hF
        refine lv_iconst (v := 1) hx hb d_Model_prepare_35 (by decide) ?_
        refine lv_istore_n (lv' := [(1, .int 1), (0, .ref a0)]) hx hb d_Model_prepare_36 rfl hl (by decide) rfl (fun ls hl => ?_)
        exact ih.2.1 1 0 0 0 0 0 f1 f2 f3 f7 hF _ _ _ hP hD hS (lv_sub hl [1, 0] rfl)
      · rw [if_neg c_1] at hF
        refine lv_aload_n hx hb d_Model_prepare_8 rfl (lv_at hl 0 rfl) ?_
        refine va_get (D := (dC, dI)) (ci := 9) (v := .ref a1) (C := R_Model) (T := F_Model) (N := 29) hx hb hg iw_Model hown hK hP 0 rfl rfl 8 (by decide) (hg _ gw_287) (fun _ h9 => h9) rfl d_Model_prepare_9 ?_
        refine lv_iload_n hx hb d_Model_prepare_12 rfl (lv_at hl 1 rfl) ?_
        refine lv_iconst (v := 0) hx hb d_Model_prepare_13 (by decide) ?_
        obtain ⟨h_2, hF⟩ := rd_chk hF
        refine va_zast hx hb hK hP hD hS 1 1 rfl rfl h_2 d_Model_prepare_14 (fun H locs hP hD hS => ?_)
        have hP : va_P (dC, dI) classes (wd_Model_prepare kA a0 a1 a2 a3 a4 a5 a6 a7 v0_0 v0_1 v0_2 v0_11 v0_12 v0_13 v0_14 v0_15 v0_16 v0_17 v0_18 v0_19 v0_20 v0_21 v0_22 v0_23 v0_24 v0_25 v0_26 v0_27 v0_28 x0_3 (upd f1 (Int32.toNatClampNeg l1) (vp_nar .boolean 0)) f2 f3 f4 f5 f6 f7) H := hP
        have hD : va_D A (wd_Model_prepare kA a0 a1 a2 a3 a4 a5 a6 a7 v0_0 v0_1 v0_2 v0_11 v0_12 v0_13 v0_14 v0_15 v0_16 v0_17 v0_18 v0_19 v0_20 v0_21 v0_22 v0_23 v0_24 v0_25 v0_26 v0_27 v0_28 x0_3 (upd f1 (Int32.toNatClampNeg l1) (vp_nar .boolean 0)) f2 f3 f4 f5 f6 f7) := hD
        refine lv_aload_n hx hb d_Model_prepare_15 rfl (lv_at hl 0 rfl) ?_
        refine va_get (D := (dC, dI)) (ci := 9) (v := .ref a2) (C := R_Model) (T := F_Model) (N := 29) hx hb hg iw_Model hown hK hP 0 rfl rfl 9 (by decide) (hg _ gw_286) (fun _ h9 => h9) rfl d_Model_prepare_16 ?_
        refine lv_iload_n hx hb d_Model_prepare_19 rfl (lv_at hl 1 rfl) ?_
        refine lv_iconst (v := 0) hx hb d_Model_prepare_20 (by decide) ?_
        obtain ⟨h_3, hF⟩ := rd_chk hF
        refine va_zast hx hb hK hP hD hS 2 1 rfl rfl h_3 d_Model_prepare_21 (fun H locs hP hD hS => ?_)
        have hP : va_P (dC, dI) classes (wd_Model_prepare kA a0 a1 a2 a3 a4 a5 a6 a7 v0_0 v0_1 v0_2 v0_11 v0_12 v0_13 v0_14 v0_15 v0_16 v0_17 v0_18 v0_19 v0_20 v0_21 v0_22 v0_23 v0_24 v0_25 v0_26 v0_27 v0_28 x0_3 (upd f1 (Int32.toNatClampNeg l1) (vp_nar .boolean 0)) (upd f2 (Int32.toNatClampNeg l1) (vp_nar .boolean 0)) f3 f4 f5 f6 f7) H := hP
        have hD : va_D A (wd_Model_prepare kA a0 a1 a2 a3 a4 a5 a6 a7 v0_0 v0_1 v0_2 v0_11 v0_12 v0_13 v0_14 v0_15 v0_16 v0_17 v0_18 v0_19 v0_20 v0_21 v0_22 v0_23 v0_24 v0_25 v0_26 v0_27 v0_28 x0_3 (upd f1 (Int32.toNatClampNeg l1) (vp_nar .boolean 0)) (upd f2 (Int32.toNatClampNeg l1) (vp_nar .boolean 0)) f3 f4 f5 f6 f7) := hD
        refine lv_aload_n hx hb d_Model_prepare_22 rfl (lv_at hl 0 rfl) ?_
        refine va_get (D := (dC, dI)) (ci := 9) (v := .ref a3) (C := R_Model) (T := F_Model) (N := 29) hx hb hg iw_Model hown hK hP 0 rfl rfl 10 (by decide) (hg _ gw_285) (fun _ h9 => h9) rfl d_Model_prepare_23 ?_
        refine lv_iload_n hx hb d_Model_prepare_26 rfl (lv_at hl 1 rfl) ?_
        refine lv_iconst (v := 0) hx hb d_Model_prepare_27 (by decide) ?_
        obtain ⟨h_4, hF⟩ := rd_chk hF
        refine va_iast hx hb hK hP hD hS 3 0 rfl rfl h_4 d_Model_prepare_28 (fun H locs hP hD hS => ?_)
        have hP : va_P (dC, dI) classes (wd_Model_prepare kA a0 a1 a2 a3 a4 a5 a6 a7 v0_0 v0_1 v0_2 v0_11 v0_12 v0_13 v0_14 v0_15 v0_16 v0_17 v0_18 v0_19 v0_20 v0_21 v0_22 v0_23 v0_24 v0_25 v0_26 v0_27 v0_28 x0_3 (upd f1 (Int32.toNatClampNeg l1) (vp_nar .boolean 0)) (upd f2 (Int32.toNatClampNeg l1) (vp_nar .boolean 0)) (upd f3 (Int32.toNatClampNeg l1) 0) f4 f5 f6 f7) H := hP
        have hD : va_D A (wd_Model_prepare kA a0 a1 a2 a3 a4 a5 a6 a7 v0_0 v0_1 v0_2 v0_11 v0_12 v0_13 v0_14 v0_15 v0_16 v0_17 v0_18 v0_19 v0_20 v0_21 v0_22 v0_23 v0_24 v0_25 v0_26 v0_27 v0_28 x0_3 (upd f1 (Int32.toNatClampNeg l1) (vp_nar .boolean 0)) (upd f2 (Int32.toNatClampNeg l1) (vp_nar .boolean 0)) (upd f3 (Int32.toNatClampNeg l1) 0) f4 f5 f6 f7) := hD
        refine lv_iinc (v := (l1 + 1)) (lv' := [(1, .int (l1 + 1)), (0, .ref a0)]) hx hb d_Model_prepare_29 hl (k := 1) rfl (by rfl) (by decide) rfl (fun ls hl => ?_)
        refine lv_goto (tgt := 2) hx hb d_Model_prepare_32 (by decide) ?_
        exact ih.1 (l1 + 1) 0 0 0 0 0 (upd f1 (Int32.toNatClampNeg l1) (vp_nar .boolean 0)) (upd f2 (Int32.toNatClampNeg l1) (vp_nar .boolean 0)) (upd f3 (Int32.toNatClampNeg l1) 0) f7 hF _ _ _ hP hD hS (lv_sub hl [1, 0] rfl)
    · intro l1 l2 l3 l4 l5 s0 f1 f2 f3 f7 hF H locs ls hP hD hS hl
      have hF : B_Model_prepare_1 (F_Model_prepare x0_3 f4 f5 f6 n) x0_3 f4 f5 f6 l1 l2 l3 l4 l5 s0 f1 f2 f3 f7 = some (of1, of2, of3, of7) := hF
      unfold B_Model_prepare_1 at hF
      refine lv_iload_n hx hb d_Model_prepare_37 rfl (lv_at hl 1 rfl) ?_
      refine lv_if_eq (tgt := 213) hx hb d_Model_prepare_38 (by decide) (fun c_5 => ?_) (fun c_5 => ?_)
      · rw [if_pos c_5] at hF
        refine lv_iconst (v := 1) hx hb d_Model_prepare_213 (by decide) ?_
        refine lv_istore_n (lv' := [(1, .int 1), (0, .ref a0)]) hx hb d_Model_prepare_214 rfl hl (by decide) rfl (fun ls hl => ?_)
        exact ih.2.2.2.2.1 1 0 0 0 0 0 f1 f2 f3 f7 hF _ _ _ hP hD hS (lv_sub hl [1, 0] rfl)
      · rw [if_neg c_5] at hF
        refine lv_iconst (v := 0) hx hb d_Model_prepare_41 (by decide) ?_
        refine lv_istore_n (lv' := [(1, .int 0), (0, .ref a0)]) hx hb d_Model_prepare_42 rfl hl (by decide) rfl (fun ls hl => ?_)
        refine lv_iconst (v := 0) hx hb d_Model_prepare_43 (by decide) ?_
        refine lv_istore_n (lv' := [(2, .int 0), (1, .int 0), (0, .ref a0)]) hx hb d_Model_prepare_44 rfl hl (by decide) rfl (fun ls hl => ?_)
        exact ih.2.2.1 0 0 0 0 0 0 f1 f2 f3 f7 hF _ _ _ hP hD hS (lv_sub hl [2, 1, 0] rfl)
    · intro l1 l2 l3 l4 l5 s0 f1 f2 f3 f7 hF H locs ls hP hD hS hl
      have hF : B_Model_prepare_2 (F_Model_prepare x0_3 f4 f5 f6 n) x0_3 f4 f5 f6 l1 l2 l3 l4 l5 s0 f1 f2 f3 f7 = some (of1, of2, of3, of7) := hF
      unfold B_Model_prepare_2 at hF
      refine lv_iload_n hx hb d_Model_prepare_45 rfl (lv_at hl 2 rfl) ?_
      refine lv_aload_n hx hb d_Model_prepare_46 rfl (lv_at hl 0 rfl) ?_
      refine va_get (D := (dC, dI)) (ci := 9) (v := .int x0_3) (C := R_Model) (T := F_Model) (N := 29) hx hb hg iw_Model hown hK hP 0 rfl rfl 3 (by decide) (hg _ gw_276) (fun _ h9 => h9) rfl d_Model_prepare_47 ?_
      refine lv_icmp_ge (tgt := 210) hx hb d_Model_prepare_50 (by decide) (fun c_6 => ?_) (fun c_6 => ?_)
      · rw [if_pos c_6] at hF
        refine lv_goto (tgt := 37) hx hb d_Model_prepare_210 (by decide) ?_
        exact ih.2.1 l1 0 0 0 0 0 f1 f2 f3 f7 hF _ _ _ hP hD hS (lv_sub hl [0, 1] rfl)
      · rw [if_neg c_6] at hF
        refine lv_aload_n hx hb d_Model_prepare_53 rfl (lv_at hl 0 rfl) ?_
        refine va_get (D := (dC, dI)) (ci := 9) (v := .ref a7) (C := R_Model) (T := F_Model) (N := 29) hx hb hg iw_Model hown hK hP 0 rfl rfl 7 (by decide) (hg _ gw_288) (fun _ h9 => h9) rfl d_Model_prepare_54 ?_
        refine lv_iload_n hx hb d_Model_prepare_57 rfl (lv_at hl 2 rfl) ?_
        refine lv_iconst (v := 1) hx hb d_Model_prepare_58 (by decide) ?_
        obtain ⟨h_7, hF⟩ := rd_chk hF
        refine va_zast hx hb hK hP hD hS 7 1 rfl rfl h_7 d_Model_prepare_59 (fun H locs hP hD hS => ?_)
        have hP : va_P (dC, dI) classes (wd_Model_prepare kA a0 a1 a2 a3 a4 a5 a6 a7 v0_0 v0_1 v0_2 v0_11 v0_12 v0_13 v0_14 v0_15 v0_16 v0_17 v0_18 v0_19 v0_20 v0_21 v0_22 v0_23 v0_24 v0_25 v0_26 v0_27 v0_28 x0_3 f1 f2 f3 f4 f5 f6 (upd f7 (Int32.toNatClampNeg l2) (vp_nar .boolean 1))) H := hP
        have hD : va_D A (wd_Model_prepare kA a0 a1 a2 a3 a4 a5 a6 a7 v0_0 v0_1 v0_2 v0_11 v0_12 v0_13 v0_14 v0_15 v0_16 v0_17 v0_18 v0_19 v0_20 v0_21 v0_22 v0_23 v0_24 v0_25 v0_26 v0_27 v0_28 x0_3 f1 f2 f3 f4 f5 f6 (upd f7 (Int32.toNatClampNeg l2) (vp_nar .boolean 1))) := hD
        refine lv_iconst (v := 4) hx hb d_Model_prepare_60 (by decide) ?_
        refine lv_iload_n hx hb d_Model_prepare_61 rfl (lv_at hl 2 rfl) ?_
        refine lv_imul hx hb d_Model_prepare_62 ?_
        refine lv_istore_n (lv' := [(3, .int (4 * l2)), (0, .ref a0), (1, .int l1), (2, .int l2)]) hx hb d_Model_prepare_63 rfl hl (by decide) rfl (fun ls hl => ?_)
        exact ih.2.2.2.1 l1 l2 (4 * l2) 0 0 0 f1 f2 f3 (upd f7 (Int32.toNatClampNeg l2) (vp_nar .boolean 1)) hF _ _ _ hP hD hS (lv_sub hl [1, 2, 3, 0] rfl)
    · intro l1 l2 l3 l4 l5 s0 f1 f2 f3 f7 hF H locs ls hP hD hS hl
      have hF : B_Model_prepare_3 (F_Model_prepare x0_3 f4 f5 f6 n) x0_3 f4 f5 f6 l1 l2 l3 l4 l5 s0 f1 f2 f3 f7 = some (of1, of2, of3, of7) := hF
      unfold B_Model_prepare_3 at hF
      refine lv_iload_n hx hb d_Model_prepare_64 rfl (lv_at hl 3 rfl) ?_
      refine lv_iconst (v := 4) hx hb d_Model_prepare_65 (by decide) ?_
      refine lv_iload_n hx hb d_Model_prepare_66 rfl (lv_at hl 2 rfl) ?_
      refine lv_imul hx hb d_Model_prepare_67 ?_
      refine lv_aload_n hx hb d_Model_prepare_68 rfl (lv_at hl 0 rfl) ?_
      refine va_get (D := (dC, dI)) (ci := 9) (v := .ref a5) (C := R_Model) (T := F_Model) (N := 29) hx hb hg iw_Model hown hK hP 0 rfl rfl 5 (by decide) (hg _ gw_278) (fun _ h9 => h9) rfl d_Model_prepare_69 ?_
      refine lv_iload_n hx hb d_Model_prepare_72 rfl (lv_at hl 2 rfl) ?_
      obtain ⟨h_8, hF⟩ := rd_chk hF
      refine va_iald hx hb hK hP 5 0 rfl rfl h_8 d_Model_prepare_73 ?_
      refine lv_iadd hx hb d_Model_prepare_74 ?_
      refine lv_icmp_ge (tgt := 132) hx hb d_Model_prepare_75 (by decide) (fun c_9 => ?_) (fun c_9 => ?_)
      · rw [if_pos c_9] at hF
        refine lv_iload_n hx hb d_Model_prepare_132 rfl (lv_at hl 1 rfl) ?_
        refine lv_if_ne (tgt := 159) hx hb d_Model_prepare_133 (by decide) (fun c_10 => ?_) (fun c_10 => ?_)
        · rw [if_pos c_10] at hF
          refine lv_iconst (v := 1) hx hb d_Model_prepare_159 (by decide) ?_
          refine lv_goto (tgt := 164) hx hb d_Model_prepare_160 (by decide) ?_
          refine lv_istore_n (lv' := [(1, .int 1), (0, .ref a0), (2, .int l2), (3, .int l3)]) hx hb d_Model_prepare_164 rfl hl (by decide) rfl (fun ls hl => ?_)
          refine lv_aload_n hx hb d_Model_prepare_165 rfl (lv_at hl 1 rfl) ?_
          refine va_get (D := (dC, dI)) (ci := 9) (v := .ref a1) (C := R_Model) (T := F_Model) (N := 29) hx hb hg iw_Model hown hK hP 0 rfl rfl 8 (by decide) (hg _ gw_287) (fun _ h9 => h9) rfl d_Model_prepare_166 ?_
          refine lv_aload_n hx hb d_Model_prepare_169 rfl (lv_at hl 1 rfl) ?_
          refine va_get (D := (dC, dI)) (ci := 9) (v := .ref a4) (C := R_Model) (T := F_Model) (N := 29) hx hb hg iw_Model hown hK hP 0 rfl rfl 4 (by decide) (hg _ gw_277) (fun _ h9 => h9) rfl d_Model_prepare_170 ?_
          refine lv_iload_n hx hb d_Model_prepare_173 rfl (lv_at hl 2 rfl) ?_
          obtain ⟨h_11, hF⟩ := rd_chk hF
          refine va_iald hx hb hK hP 4 0 rfl rfl h_11 d_Model_prepare_174 ?_
          refine lv_aload_n hx hb d_Model_prepare_175 rfl (lv_at hl 1 rfl) ?_
          refine va_get (D := (dC, dI)) (ci := 9) (v := .ref a1) (C := R_Model) (T := F_Model) (N := 29) hx hb hg iw_Model hown hK hP 0 rfl rfl 8 (by decide) (hg _ gw_287) (fun _ h9 => h9) rfl d_Model_prepare_176 ?_
          refine lv_aload_n hx hb d_Model_prepare_179 rfl (lv_at hl 1 rfl) ?_
          refine va_get (D := (dC, dI)) (ci := 9) (v := .ref a4) (C := R_Model) (T := F_Model) (N := 29) hx hb hg iw_Model hown hK hP 0 rfl rfl 4 (by decide) (hg _ gw_277) (fun _ h9 => h9) rfl d_Model_prepare_180 ?_
          refine lv_iload_n hx hb d_Model_prepare_183 rfl (lv_at hl 2 rfl) ?_
          obtain ⟨h_12, hF⟩ := rd_chk hF
          refine va_iald hx hb hK hP 4 0 rfl rfl h_12 d_Model_prepare_184 ?_
          obtain ⟨h_13, hF⟩ := rd_chk hF
          refine va_zald hx hb hK hP 1 1 rfl rfl h_13 d_Model_prepare_185 ?_
          refine lv_if_ne (tgt := 198) hx hb d_Model_prepare_186 (by decide) (fun c_14 => ?_) (fun c_14 => ?_)
          · rw [if_pos c_14] at hF
            refine lv_iconst (v := 1) hx hb d_Model_prepare_198 (by decide) ?_
            refine lv_goto (tgt := 203) hx hb d_Model_prepare_199 (by decide) ?_
            obtain ⟨h_15, hF⟩ := rd_chk hF
            refine va_zast hx hb hK hP hD hS 1 1 rfl rfl h_15 d_Model_prepare_203 (fun H locs hP hD hS => ?_)
            have hP : va_P (dC, dI) classes (wd_Model_prepare kA a0 a1 a2 a3 a4 a5 a6 a7 v0_0 v0_1 v0_2 v0_11 v0_12 v0_13 v0_14 v0_15 v0_16 v0_17 v0_18 v0_19 v0_20 v0_21 v0_22 v0_23 v0_24 v0_25 v0_26 v0_27 v0_28 x0_3 (upd f1 (Int32.toNatClampNeg (f4 (Int32.toNatClampNeg l2))) (vp_nar .boolean 1)) f2 f3 f4 f5 f6 f7) H := hP
            have hD : va_D A (wd_Model_prepare kA a0 a1 a2 a3 a4 a5 a6 a7 v0_0 v0_1 v0_2 v0_11 v0_12 v0_13 v0_14 v0_15 v0_16 v0_17 v0_18 v0_19 v0_20 v0_21 v0_22 v0_23 v0_24 v0_25 v0_26 v0_27 v0_28 x0_3 (upd f1 (Int32.toNatClampNeg (f4 (Int32.toNatClampNeg l2))) (vp_nar .boolean 1)) f2 f3 f4 f5 f6 f7) := hD
            refine lv_iinc (v := (l2 + 1)) (lv' := [(2, .int (l2 + 1)), (1, .int 1), (0, .ref a0), (3, .int l3)]) hx hb d_Model_prepare_204 hl (k := 2) rfl (by rfl) (by decide) rfl (fun ls hl => ?_)
            refine lv_goto (tgt := 45) hx hb d_Model_prepare_207 (by decide) ?_
            exact ih.2.2.1 1 (l2 + 1) 0 0 0 0 (upd f1 (Int32.toNatClampNeg (f4 (Int32.toNatClampNeg l2))) (vp_nar .boolean 1)) f2 f3 f7 hF _ _ _ hP hD hS (lv_sub hl [2, 1, 0] rfl)
          · rw [if_neg (fun z => z c_14)] at hF
            refine lv_aload_n hx hb d_Model_prepare_189 rfl (lv_at hl 1 rfl) ?_
            refine va_get (D := (dC, dI)) (ci := 9) (v := .ref a7) (C := R_Model) (T := F_Model) (N := 29) hx hb hg iw_Model hown hK hP 0 rfl rfl 7 (by decide) (hg _ gw_288) (fun _ h9 => h9) rfl d_Model_prepare_190 ?_
            refine lv_iload_n hx hb d_Model_prepare_193 rfl (lv_at hl 2 rfl) ?_
            obtain ⟨h_16, hF⟩ := rd_chk hF
            refine va_zald hx hb hK hP 7 1 rfl rfl h_16 d_Model_prepare_194 ?_
            refine lv_if_eq (tgt := 202) hx hb d_Model_prepare_195 (by decide) (fun c_17 => ?_) (fun c_17 => ?_)
            · rw [if_pos c_17] at hF
              refine lv_iconst (v := 0) hx hb d_Model_prepare_202 (by decide) ?_
              obtain ⟨h_18, hF⟩ := rd_chk hF
              refine va_zast hx hb hK hP hD hS 1 1 rfl rfl h_18 d_Model_prepare_203 (fun H locs hP hD hS => ?_)
              have hP : va_P (dC, dI) classes (wd_Model_prepare kA a0 a1 a2 a3 a4 a5 a6 a7 v0_0 v0_1 v0_2 v0_11 v0_12 v0_13 v0_14 v0_15 v0_16 v0_17 v0_18 v0_19 v0_20 v0_21 v0_22 v0_23 v0_24 v0_25 v0_26 v0_27 v0_28 x0_3 (upd f1 (Int32.toNatClampNeg (f4 (Int32.toNatClampNeg l2))) (vp_nar .boolean 0)) f2 f3 f4 f5 f6 f7) H := hP
              have hD : va_D A (wd_Model_prepare kA a0 a1 a2 a3 a4 a5 a6 a7 v0_0 v0_1 v0_2 v0_11 v0_12 v0_13 v0_14 v0_15 v0_16 v0_17 v0_18 v0_19 v0_20 v0_21 v0_22 v0_23 v0_24 v0_25 v0_26 v0_27 v0_28 x0_3 (upd f1 (Int32.toNatClampNeg (f4 (Int32.toNatClampNeg l2))) (vp_nar .boolean 0)) f2 f3 f4 f5 f6 f7) := hD
              refine lv_iinc (v := (l2 + 1)) (lv' := [(2, .int (l2 + 1)), (1, .int 1), (0, .ref a0), (3, .int l3)]) hx hb d_Model_prepare_204 hl (k := 2) rfl (by rfl) (by decide) rfl (fun ls hl => ?_)
              refine lv_goto (tgt := 45) hx hb d_Model_prepare_207 (by decide) ?_
              exact ih.2.2.1 1 (l2 + 1) 0 0 0 0 (upd f1 (Int32.toNatClampNeg (f4 (Int32.toNatClampNeg l2))) (vp_nar .boolean 0)) f2 f3 f7 hF _ _ _ hP hD hS (lv_sub hl [2, 1, 0] rfl)
            · rw [if_neg c_17] at hF
              refine lv_iconst (v := 1) hx hb d_Model_prepare_198 (by decide) ?_
              refine lv_goto (tgt := 203) hx hb d_Model_prepare_199 (by decide) ?_
              obtain ⟨h_19, hF⟩ := rd_chk hF
              refine va_zast hx hb hK hP hD hS 1 1 rfl rfl h_19 d_Model_prepare_203 (fun H locs hP hD hS => ?_)
              have hP : va_P (dC, dI) classes (wd_Model_prepare kA a0 a1 a2 a3 a4 a5 a6 a7 v0_0 v0_1 v0_2 v0_11 v0_12 v0_13 v0_14 v0_15 v0_16 v0_17 v0_18 v0_19 v0_20 v0_21 v0_22 v0_23 v0_24 v0_25 v0_26 v0_27 v0_28 x0_3 (upd f1 (Int32.toNatClampNeg (f4 (Int32.toNatClampNeg l2))) (vp_nar .boolean 1)) f2 f3 f4 f5 f6 f7) H := hP
              have hD : va_D A (wd_Model_prepare kA a0 a1 a2 a3 a4 a5 a6 a7 v0_0 v0_1 v0_2 v0_11 v0_12 v0_13 v0_14 v0_15 v0_16 v0_17 v0_18 v0_19 v0_20 v0_21 v0_22 v0_23 v0_24 v0_25 v0_26 v0_27 v0_28 x0_3 (upd f1 (Int32.toNatClampNeg (f4 (Int32.toNatClampNeg l2))) (vp_nar .boolean 1)) f2 f3 f4 f5 f6 f7) := hD
              refine lv_iinc (v := (l2 + 1)) (lv' := [(2, .int (l2 + 1)), (1, .int 1), (0, .ref a0), (3, .int l3)]) hx hb d_Model_prepare_204 hl (k := 2) rfl (by rfl) (by decide) rfl (fun ls hl => ?_)
              refine lv_goto (tgt := 45) hx hb d_Model_prepare_207 (by decide) ?_
              exact ih.2.2.1 1 (l2 + 1) 0 0 0 0 (upd f1 (Int32.toNatClampNeg (f4 (Int32.toNatClampNeg l2))) (vp_nar .boolean 1)) f2 f3 f7 hF _ _ _ hP hD hS (lv_sub hl [2, 1, 0] rfl)
        · rw [if_neg (fun z => z c_10)] at hF
          refine lv_aload_n hx hb d_Model_prepare_136 rfl (lv_at hl 0 rfl) ?_
          refine va_get (D := (dC, dI)) (ci := 9) (v := .ref a7) (C := R_Model) (T := F_Model) (N := 29) hx hb hg iw_Model hown hK hP 0 rfl rfl 7 (by decide) (hg _ gw_288) (fun _ h9 => h9) rfl d_Model_prepare_137 ?_
          refine lv_iload_n hx hb d_Model_prepare_140 rfl (lv_at hl 2 rfl) ?_
          obtain ⟨h_20, hF⟩ := rd_chk hF
          refine va_zald hx hb hK hP 7 1 rfl rfl h_20 d_Model_prepare_141 ?_
          refine lv_if_eq (tgt := 163) hx hb d_Model_prepare_142 (by decide) (fun c_21 => ?_) (fun c_21 => ?_)
          · rw [if_pos c_21] at hF
            refine lv_iconst (v := 0) hx hb d_Model_prepare_163 (by decide) ?_
            refine lv_istore_n (lv' := [(1, .int 0), (0, .ref a0), (2, .int l2), (3, .int l3)]) hx hb d_Model_prepare_164 rfl hl (by decide) rfl (fun ls hl => ?_)
            refine lv_aload_n hx hb d_Model_prepare_165 rfl (lv_at hl 1 rfl) ?_
            refine va_get (D := (dC, dI)) (ci := 9) (v := .ref a1) (C := R_Model) (T := F_Model) (N := 29) hx hb hg iw_Model hown hK hP 0 rfl rfl 8 (by decide) (hg _ gw_287) (fun _ h9 => h9) rfl d_Model_prepare_166 ?_
            refine lv_aload_n hx hb d_Model_prepare_169 rfl (lv_at hl 1 rfl) ?_
            refine va_get (D := (dC, dI)) (ci := 9) (v := .ref a4) (C := R_Model) (T := F_Model) (N := 29) hx hb hg iw_Model hown hK hP 0 rfl rfl 4 (by decide) (hg _ gw_277) (fun _ h9 => h9) rfl d_Model_prepare_170 ?_
            refine lv_iload_n hx hb d_Model_prepare_173 rfl (lv_at hl 2 rfl) ?_
            obtain ⟨h_22, hF⟩ := rd_chk hF
            refine va_iald hx hb hK hP 4 0 rfl rfl h_22 d_Model_prepare_174 ?_
            refine lv_aload_n hx hb d_Model_prepare_175 rfl (lv_at hl 1 rfl) ?_
            refine va_get (D := (dC, dI)) (ci := 9) (v := .ref a1) (C := R_Model) (T := F_Model) (N := 29) hx hb hg iw_Model hown hK hP 0 rfl rfl 8 (by decide) (hg _ gw_287) (fun _ h9 => h9) rfl d_Model_prepare_176 ?_
            refine lv_aload_n hx hb d_Model_prepare_179 rfl (lv_at hl 1 rfl) ?_
            refine va_get (D := (dC, dI)) (ci := 9) (v := .ref a4) (C := R_Model) (T := F_Model) (N := 29) hx hb hg iw_Model hown hK hP 0 rfl rfl 4 (by decide) (hg _ gw_277) (fun _ h9 => h9) rfl d_Model_prepare_180 ?_
            refine lv_iload_n hx hb d_Model_prepare_183 rfl (lv_at hl 2 rfl) ?_
            obtain ⟨h_23, hF⟩ := rd_chk hF
            refine va_iald hx hb hK hP 4 0 rfl rfl h_23 d_Model_prepare_184 ?_
            obtain ⟨h_24, hF⟩ := rd_chk hF
            refine va_zald hx hb hK hP 1 1 rfl rfl h_24 d_Model_prepare_185 ?_
            refine lv_if_ne (tgt := 198) hx hb d_Model_prepare_186 (by decide) (fun c_25 => ?_) (fun c_25 => ?_)
            · rw [if_pos c_25] at hF
              refine lv_iconst (v := 1) hx hb d_Model_prepare_198 (by decide) ?_
              refine lv_goto (tgt := 203) hx hb d_Model_prepare_199 (by decide) ?_
              obtain ⟨h_26, hF⟩ := rd_chk hF
              refine va_zast hx hb hK hP hD hS 1 1 rfl rfl h_26 d_Model_prepare_203 (fun H locs hP hD hS => ?_)
              have hP : va_P (dC, dI) classes (wd_Model_prepare kA a0 a1 a2 a3 a4 a5 a6 a7 v0_0 v0_1 v0_2 v0_11 v0_12 v0_13 v0_14 v0_15 v0_16 v0_17 v0_18 v0_19 v0_20 v0_21 v0_22 v0_23 v0_24 v0_25 v0_26 v0_27 v0_28 x0_3 (upd f1 (Int32.toNatClampNeg (f4 (Int32.toNatClampNeg l2))) (vp_nar .boolean 1)) f2 f3 f4 f5 f6 f7) H := hP
              have hD : va_D A (wd_Model_prepare kA a0 a1 a2 a3 a4 a5 a6 a7 v0_0 v0_1 v0_2 v0_11 v0_12 v0_13 v0_14 v0_15 v0_16 v0_17 v0_18 v0_19 v0_20 v0_21 v0_22 v0_23 v0_24 v0_25 v0_26 v0_27 v0_28 x0_3 (upd f1 (Int32.toNatClampNeg (f4 (Int32.toNatClampNeg l2))) (vp_nar .boolean 1)) f2 f3 f4 f5 f6 f7) := hD
              refine lv_iinc (v := (l2 + 1)) (lv' := [(2, .int (l2 + 1)), (1, .int 0), (0, .ref a0), (3, .int l3)]) hx hb d_Model_prepare_204 hl (k := 2) rfl (by rfl) (by decide) rfl (fun ls hl => ?_)
              refine lv_goto (tgt := 45) hx hb d_Model_prepare_207 (by decide) ?_
              exact ih.2.2.1 0 (l2 + 1) 0 0 0 0 (upd f1 (Int32.toNatClampNeg (f4 (Int32.toNatClampNeg l2))) (vp_nar .boolean 1)) f2 f3 f7 hF _ _ _ hP hD hS (lv_sub hl [2, 1, 0] rfl)
            · rw [if_neg (fun z => z c_25)] at hF
              refine lv_aload_n hx hb d_Model_prepare_189 rfl (lv_at hl 1 rfl) ?_
              refine va_get (D := (dC, dI)) (ci := 9) (v := .ref a7) (C := R_Model) (T := F_Model) (N := 29) hx hb hg iw_Model hown hK hP 0 rfl rfl 7 (by decide) (hg _ gw_288) (fun _ h9 => h9) rfl d_Model_prepare_190 ?_
              refine lv_iload_n hx hb d_Model_prepare_193 rfl (lv_at hl 2 rfl) ?_
              obtain ⟨h_27, hF⟩ := rd_chk hF
              refine va_zald hx hb hK hP 7 1 rfl rfl h_27 d_Model_prepare_194 ?_
              refine lv_if_eq (tgt := 202) hx hb d_Model_prepare_195 (by decide) (fun c_28 => ?_) (fun c_28 => ?_)
              · rw [if_pos c_28] at hF
                refine lv_iconst (v := 0) hx hb d_Model_prepare_202 (by decide) ?_
                obtain ⟨h_29, hF⟩ := rd_chk hF
                refine va_zast hx hb hK hP hD hS 1 1 rfl rfl h_29 d_Model_prepare_203 (fun H locs hP hD hS => ?_)
                have hP : va_P (dC, dI) classes (wd_Model_prepare kA a0 a1 a2 a3 a4 a5 a6 a7 v0_0 v0_1 v0_2 v0_11 v0_12 v0_13 v0_14 v0_15 v0_16 v0_17 v0_18 v0_19 v0_20 v0_21 v0_22 v0_23 v0_24 v0_25 v0_26 v0_27 v0_28 x0_3 (upd f1 (Int32.toNatClampNeg (f4 (Int32.toNatClampNeg l2))) (vp_nar .boolean 0)) f2 f3 f4 f5 f6 f7) H := hP
                have hD : va_D A (wd_Model_prepare kA a0 a1 a2 a3 a4 a5 a6 a7 v0_0 v0_1 v0_2 v0_11 v0_12 v0_13 v0_14 v0_15 v0_16 v0_17 v0_18 v0_19 v0_20 v0_21 v0_22 v0_23 v0_24 v0_25 v0_26 v0_27 v0_28 x0_3 (upd f1 (Int32.toNatClampNeg (f4 (Int32.toNatClampNeg l2))) (vp_nar .boolean 0)) f2 f3 f4 f5 f6 f7) := hD
                refine lv_iinc (v := (l2 + 1)) (lv' := [(2, .int (l2 + 1)), (1, .int 0), (0, .ref a0), (3, .int l3)]) hx hb d_Model_prepare_204 hl (k := 2) rfl (by rfl) (by decide) rfl (fun ls hl => ?_)
                refine lv_goto (tgt := 45) hx hb d_Model_prepare_207 (by decide) ?_
                exact ih.2.2.1 0 (l2 + 1) 0 0 0 0 (upd f1 (Int32.toNatClampNeg (f4 (Int32.toNatClampNeg l2))) (vp_nar .boolean 0)) f2 f3 f7 hF _ _ _ hP hD hS (lv_sub hl [2, 1, 0] rfl)
              · rw [if_neg c_28] at hF
                refine lv_iconst (v := 1) hx hb d_Model_prepare_198 (by decide) ?_
                refine lv_goto (tgt := 203) hx hb d_Model_prepare_199 (by decide) ?_
                obtain ⟨h_30, hF⟩ := rd_chk hF
                refine va_zast hx hb hK hP hD hS 1 1 rfl rfl h_30 d_Model_prepare_203 (fun H locs hP hD hS => ?_)
                have hP : va_P (dC, dI) classes (wd_Model_prepare kA a0 a1 a2 a3 a4 a5 a6 a7 v0_0 v0_1 v0_2 v0_11 v0_12 v0_13 v0_14 v0_15 v0_16 v0_17 v0_18 v0_19 v0_20 v0_21 v0_22 v0_23 v0_24 v0_25 v0_26 v0_27 v0_28 x0_3 (upd f1 (Int32.toNatClampNeg (f4 (Int32.toNatClampNeg l2))) (vp_nar .boolean 1)) f2 f3 f4 f5 f6 f7) H := hP
                have hD : va_D A (wd_Model_prepare kA a0 a1 a2 a3 a4 a5 a6 a7 v0_0 v0_1 v0_2 v0_11 v0_12 v0_13 v0_14 v0_15 v0_16 v0_17 v0_18 v0_19 v0_20 v0_21 v0_22 v0_23 v0_24 v0_25 v0_26 v0_27 v0_28 x0_3 (upd f1 (Int32.toNatClampNeg (f4 (Int32.toNatClampNeg l2))) (vp_nar .boolean 1)) f2 f3 f4 f5 f6 f7) := hD
                refine lv_iinc (v := (l2 + 1)) (lv' := [(2, .int (l2 + 1)), (1, .int 0), (0, .ref a0), (3, .int l3)]) hx hb d_Model_prepare_204 hl (k := 2) rfl (by rfl) (by decide) rfl (fun ls hl => ?_)
                refine lv_goto (tgt := 45) hx hb d_Model_prepare_207 (by decide) ?_
                exact ih.2.2.1 0 (l2 + 1) 0 0 0 0 (upd f1 (Int32.toNatClampNeg (f4 (Int32.toNatClampNeg l2))) (vp_nar .boolean 1)) f2 f3 f7 hF _ _ _ hP hD hS (lv_sub hl [2, 1, 0] rfl)
          · rw [if_neg c_21] at hF
            refine lv_aload_n hx hb d_Model_prepare_145 rfl (lv_at hl 0 rfl) ?_
            refine va_get (D := (dC, dI)) (ci := 9) (v := .ref a1) (C := R_Model) (T := F_Model) (N := 29) hx hb hg iw_Model hown hK hP 0 rfl rfl 8 (by decide) (hg _ gw_287) (fun _ h9 => h9) rfl d_Model_prepare_146 ?_
            refine lv_aload_n hx hb d_Model_prepare_149 rfl (lv_at hl 0 rfl) ?_
            refine va_get (D := (dC, dI)) (ci := 9) (v := .ref a4) (C := R_Model) (T := F_Model) (N := 29) hx hb hg iw_Model hown hK hP 0 rfl rfl 4 (by decide) (hg _ gw_277) (fun _ h9 => h9) rfl d_Model_prepare_150 ?_
            refine lv_iload_n hx hb d_Model_prepare_153 rfl (lv_at hl 2 rfl) ?_
            obtain ⟨h_31, hF⟩ := rd_chk hF
            refine va_iald hx hb hK hP 4 0 rfl rfl h_31 d_Model_prepare_154 ?_
            obtain ⟨h_32, hF⟩ := rd_chk hF
            refine va_zald hx hb hK hP 1 1 rfl rfl h_32 d_Model_prepare_155 ?_
            refine lv_if_ne (tgt := 163) hx hb d_Model_prepare_156 (by decide) (fun c_33 => ?_) (fun c_33 => ?_)
            · rw [if_pos c_33] at hF
              refine lv_iconst (v := 0) hx hb d_Model_prepare_163 (by decide) ?_
              refine lv_istore_n (lv' := [(1, .int 0), (0, .ref a0), (2, .int l2), (3, .int l3)]) hx hb d_Model_prepare_164 rfl hl (by decide) rfl (fun ls hl => ?_)
              refine lv_aload_n hx hb d_Model_prepare_165 rfl (lv_at hl 1 rfl) ?_
              refine va_get (D := (dC, dI)) (ci := 9) (v := .ref a1) (C := R_Model) (T := F_Model) (N := 29) hx hb hg iw_Model hown hK hP 0 rfl rfl 8 (by decide) (hg _ gw_287) (fun _ h9 => h9) rfl d_Model_prepare_166 ?_
              refine lv_aload_n hx hb d_Model_prepare_169 rfl (lv_at hl 1 rfl) ?_
              refine va_get (D := (dC, dI)) (ci := 9) (v := .ref a4) (C := R_Model) (T := F_Model) (N := 29) hx hb hg iw_Model hown hK hP 0 rfl rfl 4 (by decide) (hg _ gw_277) (fun _ h9 => h9) rfl d_Model_prepare_170 ?_
              refine lv_iload_n hx hb d_Model_prepare_173 rfl (lv_at hl 2 rfl) ?_
              obtain ⟨h_34, hF⟩ := rd_chk hF
              refine va_iald hx hb hK hP 4 0 rfl rfl h_34 d_Model_prepare_174 ?_
              refine lv_aload_n hx hb d_Model_prepare_175 rfl (lv_at hl 1 rfl) ?_
              refine va_get (D := (dC, dI)) (ci := 9) (v := .ref a1) (C := R_Model) (T := F_Model) (N := 29) hx hb hg iw_Model hown hK hP 0 rfl rfl 8 (by decide) (hg _ gw_287) (fun _ h9 => h9) rfl d_Model_prepare_176 ?_
              refine lv_aload_n hx hb d_Model_prepare_179 rfl (lv_at hl 1 rfl) ?_
              refine va_get (D := (dC, dI)) (ci := 9) (v := .ref a4) (C := R_Model) (T := F_Model) (N := 29) hx hb hg iw_Model hown hK hP 0 rfl rfl 4 (by decide) (hg _ gw_277) (fun _ h9 => h9) rfl d_Model_prepare_180 ?_
              refine lv_iload_n hx hb d_Model_prepare_183 rfl (lv_at hl 2 rfl) ?_
              obtain ⟨h_35, hF⟩ := rd_chk hF
              refine va_iald hx hb hK hP 4 0 rfl rfl h_35 d_Model_prepare_184 ?_
              obtain ⟨h_36, hF⟩ := rd_chk hF
              refine va_zald hx hb hK hP 1 1 rfl rfl h_36 d_Model_prepare_185 ?_
              refine lv_if_ne (tgt := 198) hx hb d_Model_prepare_186 (by decide) (fun c_37 => ?_) (fun c_37 => ?_)
              · rw [if_pos c_37] at hF
                refine lv_iconst (v := 1) hx hb d_Model_prepare_198 (by decide) ?_
                refine lv_goto (tgt := 203) hx hb d_Model_prepare_199 (by decide) ?_
                obtain ⟨h_38, hF⟩ := rd_chk hF
                refine va_zast hx hb hK hP hD hS 1 1 rfl rfl h_38 d_Model_prepare_203 (fun H locs hP hD hS => ?_)
                have hP : va_P (dC, dI) classes (wd_Model_prepare kA a0 a1 a2 a3 a4 a5 a6 a7 v0_0 v0_1 v0_2 v0_11 v0_12 v0_13 v0_14 v0_15 v0_16 v0_17 v0_18 v0_19 v0_20 v0_21 v0_22 v0_23 v0_24 v0_25 v0_26 v0_27 v0_28 x0_3 (upd f1 (Int32.toNatClampNeg (f4 (Int32.toNatClampNeg l2))) (vp_nar .boolean 1)) f2 f3 f4 f5 f6 f7) H := hP
                have hD : va_D A (wd_Model_prepare kA a0 a1 a2 a3 a4 a5 a6 a7 v0_0 v0_1 v0_2 v0_11 v0_12 v0_13 v0_14 v0_15 v0_16 v0_17 v0_18 v0_19 v0_20 v0_21 v0_22 v0_23 v0_24 v0_25 v0_26 v0_27 v0_28 x0_3 (upd f1 (Int32.toNatClampNeg (f4 (Int32.toNatClampNeg l2))) (vp_nar .boolean 1)) f2 f3 f4 f5 f6 f7) := hD
                refine lv_iinc (v := (l2 + 1)) (lv' := [(2, .int (l2 + 1)), (1, .int 0), (0, .ref a0), (3, .int l3)]) hx hb d_Model_prepare_204 hl (k := 2) rfl (by rfl) (by decide) rfl (fun ls hl => ?_)
                refine lv_goto (tgt := 45) hx hb d_Model_prepare_207 (by decide) ?_
                exact ih.2.2.1 0 (l2 + 1) 0 0 0 0 (upd f1 (Int32.toNatClampNeg (f4 (Int32.toNatClampNeg l2))) (vp_nar .boolean 1)) f2 f3 f7 hF _ _ _ hP hD hS (lv_sub hl [2, 1, 0] rfl)
              · rw [if_neg (fun z => z c_37)] at hF
                refine lv_aload_n hx hb d_Model_prepare_189 rfl (lv_at hl 1 rfl) ?_
                refine va_get (D := (dC, dI)) (ci := 9) (v := .ref a7) (C := R_Model) (T := F_Model) (N := 29) hx hb hg iw_Model hown hK hP 0 rfl rfl 7 (by decide) (hg _ gw_288) (fun _ h9 => h9) rfl d_Model_prepare_190 ?_
                refine lv_iload_n hx hb d_Model_prepare_193 rfl (lv_at hl 2 rfl) ?_
                obtain ⟨h_39, hF⟩ := rd_chk hF
                refine va_zald hx hb hK hP 7 1 rfl rfl h_39 d_Model_prepare_194 ?_
                refine lv_if_eq (tgt := 202) hx hb d_Model_prepare_195 (by decide) (fun c_40 => ?_) (fun c_40 => ?_)
                · rw [if_pos c_40] at hF
                  refine lv_iconst (v := 0) hx hb d_Model_prepare_202 (by decide) ?_
                  obtain ⟨h_41, hF⟩ := rd_chk hF
                  refine va_zast hx hb hK hP hD hS 1 1 rfl rfl h_41 d_Model_prepare_203 (fun H locs hP hD hS => ?_)
                  have hP : va_P (dC, dI) classes (wd_Model_prepare kA a0 a1 a2 a3 a4 a5 a6 a7 v0_0 v0_1 v0_2 v0_11 v0_12 v0_13 v0_14 v0_15 v0_16 v0_17 v0_18 v0_19 v0_20 v0_21 v0_22 v0_23 v0_24 v0_25 v0_26 v0_27 v0_28 x0_3 (upd f1 (Int32.toNatClampNeg (f4 (Int32.toNatClampNeg l2))) (vp_nar .boolean 0)) f2 f3 f4 f5 f6 f7) H := hP
                  have hD : va_D A (wd_Model_prepare kA a0 a1 a2 a3 a4 a5 a6 a7 v0_0 v0_1 v0_2 v0_11 v0_12 v0_13 v0_14 v0_15 v0_16 v0_17 v0_18 v0_19 v0_20 v0_21 v0_22 v0_23 v0_24 v0_25 v0_26 v0_27 v0_28 x0_3 (upd f1 (Int32.toNatClampNeg (f4 (Int32.toNatClampNeg l2))) (vp_nar .boolean 0)) f2 f3 f4 f5 f6 f7) := hD
                  refine lv_iinc (v := (l2 + 1)) (lv' := [(2, .int (l2 + 1)), (1, .int 0), (0, .ref a0), (3, .int l3)]) hx hb d_Model_prepare_204 hl (k := 2) rfl (by rfl) (by decide) rfl (fun ls hl => ?_)
                  refine lv_goto (tgt := 45) hx hb d_Model_prepare_207 (by decide) ?_
                  exact ih.2.2.1 0 (l2 + 1) 0 0 0 0 (upd f1 (Int32.toNatClampNeg (f4 (Int32.toNatClampNeg l2))) (vp_nar .boolean 0)) f2 f3 f7 hF _ _ _ hP hD hS (lv_sub hl [2, 1, 0] rfl)
                · rw [if_neg c_40] at hF
                  refine lv_iconst (v := 1) hx hb d_Model_prepare_198 (by decide) ?_
                  refine lv_goto (tgt := 203) hx hb d_Model_prepare_199 (by decide) ?_
                  obtain ⟨h_42, hF⟩ := rd_chk hF
                  refine va_zast hx hb hK hP hD hS 1 1 rfl rfl h_42 d_Model_prepare_203 (fun H locs hP hD hS => ?_)
                  have hP : va_P (dC, dI) classes (wd_Model_prepare kA a0 a1 a2 a3 a4 a5 a6 a7 v0_0 v0_1 v0_2 v0_11 v0_12 v0_13 v0_14 v0_15 v0_16 v0_17 v0_18 v0_19 v0_20 v0_21 v0_22 v0_23 v0_24 v0_25 v0_26 v0_27 v0_28 x0_3 (upd f1 (Int32.toNatClampNeg (f4 (Int32.toNatClampNeg l2))) (vp_nar .boolean 1)) f2 f3 f4 f5 f6 f7) H := hP
                  have hD : va_D A (wd_Model_prepare kA a0 a1 a2 a3 a4 a5 a6 a7 v0_0 v0_1 v0_2 v0_11 v0_12 v0_13 v0_14 v0_15 v0_16 v0_17 v0_18 v0_19 v0_20 v0_21 v0_22 v0_23 v0_24 v0_25 v0_26 v0_27 v0_28 x0_3 (upd f1 (Int32.toNatClampNeg (f4 (Int32.toNatClampNeg l2))) (vp_nar .boolean 1)) f2 f3 f4 f5 f6 f7) := hD
                  refine lv_iinc (v := (l2 + 1)) (lv' := [(2, .int (l2 + 1)), (1, .int 0), (0, .ref a0), (3, .int l3)]) hx hb d_Model_prepare_204 hl (k := 2) rfl (by rfl) (by decide) rfl (fun ls hl => ?_)
                  refine lv_goto (tgt := 45) hx hb d_Model_prepare_207 (by decide) ?_
                  exact ih.2.2.1 0 (l2 + 1) 0 0 0 0 (upd f1 (Int32.toNatClampNeg (f4 (Int32.toNatClampNeg l2))) (vp_nar .boolean 1)) f2 f3 f7 hF _ _ _ hP hD hS (lv_sub hl [2, 1, 0] rfl)
            · rw [if_neg (fun z => z c_33)] at hF
              refine lv_iconst (v := 1) hx hb d_Model_prepare_159 (by decide) ?_
              refine lv_goto (tgt := 164) hx hb d_Model_prepare_160 (by decide) ?_
              refine lv_istore_n (lv' := [(1, .int 1), (0, .ref a0), (2, .int l2), (3, .int l3)]) hx hb d_Model_prepare_164 rfl hl (by decide) rfl (fun ls hl => ?_)
              refine lv_aload_n hx hb d_Model_prepare_165 rfl (lv_at hl 1 rfl) ?_
              refine va_get (D := (dC, dI)) (ci := 9) (v := .ref a1) (C := R_Model) (T := F_Model) (N := 29) hx hb hg iw_Model hown hK hP 0 rfl rfl 8 (by decide) (hg _ gw_287) (fun _ h9 => h9) rfl d_Model_prepare_166 ?_
              refine lv_aload_n hx hb d_Model_prepare_169 rfl (lv_at hl 1 rfl) ?_
              refine va_get (D := (dC, dI)) (ci := 9) (v := .ref a4) (C := R_Model) (T := F_Model) (N := 29) hx hb hg iw_Model hown hK hP 0 rfl rfl 4 (by decide) (hg _ gw_277) (fun _ h9 => h9) rfl d_Model_prepare_170 ?_
              refine lv_iload_n hx hb d_Model_prepare_173 rfl (lv_at hl 2 rfl) ?_
              obtain ⟨h_43, hF⟩ := rd_chk hF
              refine va_iald hx hb hK hP 4 0 rfl rfl h_43 d_Model_prepare_174 ?_
              refine lv_aload_n hx hb d_Model_prepare_175 rfl (lv_at hl 1 rfl) ?_
              refine va_get (D := (dC, dI)) (ci := 9) (v := .ref a1) (C := R_Model) (T := F_Model) (N := 29) hx hb hg iw_Model hown hK hP 0 rfl rfl 8 (by decide) (hg _ gw_287) (fun _ h9 => h9) rfl d_Model_prepare_176 ?_
              refine lv_aload_n hx hb d_Model_prepare_179 rfl (lv_at hl 1 rfl) ?_
              refine va_get (D := (dC, dI)) (ci := 9) (v := .ref a4) (C := R_Model) (T := F_Model) (N := 29) hx hb hg iw_Model hown hK hP 0 rfl rfl 4 (by decide) (hg _ gw_277) (fun _ h9 => h9) rfl d_Model_prepare_180 ?_
              refine lv_iload_n hx hb d_Model_prepare_183 rfl (lv_at hl 2 rfl) ?_
              obtain ⟨h_44, hF⟩ := rd_chk hF
              refine va_iald hx hb hK hP 4 0 rfl rfl h_44 d_Model_prepare_184 ?_
              obtain ⟨h_45, hF⟩ := rd_chk hF
              refine va_zald hx hb hK hP 1 1 rfl rfl h_45 d_Model_prepare_185 ?_
              refine lv_if_ne (tgt := 198) hx hb d_Model_prepare_186 (by decide) (fun c_46 => ?_) (fun c_46 => ?_)
              · rw [if_pos c_46] at hF
                refine lv_iconst (v := 1) hx hb d_Model_prepare_198 (by decide) ?_
                refine lv_goto (tgt := 203) hx hb d_Model_prepare_199 (by decide) ?_
                obtain ⟨h_47, hF⟩ := rd_chk hF
                refine va_zast hx hb hK hP hD hS 1 1 rfl rfl h_47 d_Model_prepare_203 (fun H locs hP hD hS => ?_)
                have hP : va_P (dC, dI) classes (wd_Model_prepare kA a0 a1 a2 a3 a4 a5 a6 a7 v0_0 v0_1 v0_2 v0_11 v0_12 v0_13 v0_14 v0_15 v0_16 v0_17 v0_18 v0_19 v0_20 v0_21 v0_22 v0_23 v0_24 v0_25 v0_26 v0_27 v0_28 x0_3 (upd f1 (Int32.toNatClampNeg (f4 (Int32.toNatClampNeg l2))) (vp_nar .boolean 1)) f2 f3 f4 f5 f6 f7) H := hP
                have hD : va_D A (wd_Model_prepare kA a0 a1 a2 a3 a4 a5 a6 a7 v0_0 v0_1 v0_2 v0_11 v0_12 v0_13 v0_14 v0_15 v0_16 v0_17 v0_18 v0_19 v0_20 v0_21 v0_22 v0_23 v0_24 v0_25 v0_26 v0_27 v0_28 x0_3 (upd f1 (Int32.toNatClampNeg (f4 (Int32.toNatClampNeg l2))) (vp_nar .boolean 1)) f2 f3 f4 f5 f6 f7) := hD
                refine lv_iinc (v := (l2 + 1)) (lv' := [(2, .int (l2 + 1)), (1, .int 1), (0, .ref a0), (3, .int l3)]) hx hb d_Model_prepare_204 hl (k := 2) rfl (by rfl) (by decide) rfl (fun ls hl => ?_)
                refine lv_goto (tgt := 45) hx hb d_Model_prepare_207 (by decide) ?_
                exact ih.2.2.1 1 (l2 + 1) 0 0 0 0 (upd f1 (Int32.toNatClampNeg (f4 (Int32.toNatClampNeg l2))) (vp_nar .boolean 1)) f2 f3 f7 hF _ _ _ hP hD hS (lv_sub hl [2, 1, 0] rfl)
              · rw [if_neg (fun z => z c_46)] at hF
                refine lv_aload_n hx hb d_Model_prepare_189 rfl (lv_at hl 1 rfl) ?_
                refine va_get (D := (dC, dI)) (ci := 9) (v := .ref a7) (C := R_Model) (T := F_Model) (N := 29) hx hb hg iw_Model hown hK hP 0 rfl rfl 7 (by decide) (hg _ gw_288) (fun _ h9 => h9) rfl d_Model_prepare_190 ?_
                refine lv_iload_n hx hb d_Model_prepare_193 rfl (lv_at hl 2 rfl) ?_
                obtain ⟨h_48, hF⟩ := rd_chk hF
                refine va_zald hx hb hK hP 7 1 rfl rfl h_48 d_Model_prepare_194 ?_
                refine lv_if_eq (tgt := 202) hx hb d_Model_prepare_195 (by decide) (fun c_49 => ?_) (fun c_49 => ?_)
                · rw [if_pos c_49] at hF
                  refine lv_iconst (v := 0) hx hb d_Model_prepare_202 (by decide) ?_
                  obtain ⟨h_50, hF⟩ := rd_chk hF
                  refine va_zast hx hb hK hP hD hS 1 1 rfl rfl h_50 d_Model_prepare_203 (fun H locs hP hD hS => ?_)
                  have hP : va_P (dC, dI) classes (wd_Model_prepare kA a0 a1 a2 a3 a4 a5 a6 a7 v0_0 v0_1 v0_2 v0_11 v0_12 v0_13 v0_14 v0_15 v0_16 v0_17 v0_18 v0_19 v0_20 v0_21 v0_22 v0_23 v0_24 v0_25 v0_26 v0_27 v0_28 x0_3 (upd f1 (Int32.toNatClampNeg (f4 (Int32.toNatClampNeg l2))) (vp_nar .boolean 0)) f2 f3 f4 f5 f6 f7) H := hP
                  have hD : va_D A (wd_Model_prepare kA a0 a1 a2 a3 a4 a5 a6 a7 v0_0 v0_1 v0_2 v0_11 v0_12 v0_13 v0_14 v0_15 v0_16 v0_17 v0_18 v0_19 v0_20 v0_21 v0_22 v0_23 v0_24 v0_25 v0_26 v0_27 v0_28 x0_3 (upd f1 (Int32.toNatClampNeg (f4 (Int32.toNatClampNeg l2))) (vp_nar .boolean 0)) f2 f3 f4 f5 f6 f7) := hD
                  refine lv_iinc (v := (l2 + 1)) (lv' := [(2, .int (l2 + 1)), (1, .int 1), (0, .ref a0), (3, .int l3)]) hx hb d_Model_prepare_204 hl (k := 2) rfl (by rfl) (by decide) rfl (fun ls hl => ?_)
                  refine lv_goto (tgt := 45) hx hb d_Model_prepare_207 (by decide) ?_
                  exact ih.2.2.1 1 (l2 + 1) 0 0 0 0 (upd f1 (Int32.toNatClampNeg (f4 (Int32.toNatClampNeg l2))) (vp_nar .boolean 0)) f2 f3 f7 hF _ _ _ hP hD hS (lv_sub hl [2, 1, 0] rfl)
                · rw [if_neg c_49] at hF
                  refine lv_iconst (v := 1) hx hb d_Model_prepare_198 (by decide) ?_
                  refine lv_goto (tgt := 203) hx hb d_Model_prepare_199 (by decide) ?_
                  obtain ⟨h_51, hF⟩ := rd_chk hF
                  refine va_zast hx hb hK hP hD hS 1 1 rfl rfl h_51 d_Model_prepare_203 (fun H locs hP hD hS => ?_)
                  have hP : va_P (dC, dI) classes (wd_Model_prepare kA a0 a1 a2 a3 a4 a5 a6 a7 v0_0 v0_1 v0_2 v0_11 v0_12 v0_13 v0_14 v0_15 v0_16 v0_17 v0_18 v0_19 v0_20 v0_21 v0_22 v0_23 v0_24 v0_25 v0_26 v0_27 v0_28 x0_3 (upd f1 (Int32.toNatClampNeg (f4 (Int32.toNatClampNeg l2))) (vp_nar .boolean 1)) f2 f3 f4 f5 f6 f7) H := hP
                  have hD : va_D A (wd_Model_prepare kA a0 a1 a2 a3 a4 a5 a6 a7 v0_0 v0_1 v0_2 v0_11 v0_12 v0_13 v0_14 v0_15 v0_16 v0_17 v0_18 v0_19 v0_20 v0_21 v0_22 v0_23 v0_24 v0_25 v0_26 v0_27 v0_28 x0_3 (upd f1 (Int32.toNatClampNeg (f4 (Int32.toNatClampNeg l2))) (vp_nar .boolean 1)) f2 f3 f4 f5 f6 f7) := hD
                  refine lv_iinc (v := (l2 + 1)) (lv' := [(2, .int (l2 + 1)), (1, .int 1), (0, .ref a0), (3, .int l3)]) hx hb d_Model_prepare_204 hl (k := 2) rfl (by rfl) (by decide) rfl (fun ls hl => ?_)
                  refine lv_goto (tgt := 45) hx hb d_Model_prepare_207 (by decide) ?_
                  exact ih.2.2.1 1 (l2 + 1) 0 0 0 0 (upd f1 (Int32.toNatClampNeg (f4 (Int32.toNatClampNeg l2))) (vp_nar .boolean 1)) f2 f3 f7 hF _ _ _ hP hD hS (lv_sub hl [2, 1, 0] rfl)
      · rw [if_neg c_9] at hF
        refine lv_aload_n hx hb d_Model_prepare_78 rfl (lv_at hl 0 rfl) ?_
        refine va_get (D := (dC, dI)) (ci := 9) (v := .ref a7) (C := R_Model) (T := F_Model) (N := 29) hx hb hg iw_Model hown hK hP 0 rfl rfl 7 (by decide) (hg _ gw_288) (fun _ h9 => h9) rfl d_Model_prepare_79 ?_
        refine lv_iload_n hx hb d_Model_prepare_82 rfl (lv_at hl 2 rfl) ?_
        refine lv_aload_n hx hb d_Model_prepare_83 rfl (lv_at hl 0 rfl) ?_
        refine va_get (D := (dC, dI)) (ci := 9) (v := .ref a7) (C := R_Model) (T := F_Model) (N := 29) hx hb hg iw_Model hown hK hP 0 rfl rfl 7 (by decide) (hg _ gw_288) (fun _ h9 => h9) rfl d_Model_prepare_84 ?_
        refine lv_iload_n hx hb d_Model_prepare_87 rfl (lv_at hl 2 rfl) ?_
        obtain ⟨h_52, hF⟩ := rd_chk hF
        refine va_zald hx hb hK hP 7 1 rfl rfl h_52 d_Model_prepare_88 ?_
        refine lv_if_eq (tgt := 124) hx hb d_Model_prepare_89 (by decide) (fun c_53 => ?_) (fun c_53 => ?_)
        · rw [if_pos c_53] at hF
          refine lv_iconst (v := 0) hx hb d_Model_prepare_124 (by decide) ?_
          obtain ⟨h_54, hF⟩ := rd_chk hF
          refine va_zast hx hb hK hP hD hS 7 1 rfl rfl h_54 d_Model_prepare_125 (fun H locs hP hD hS => ?_)
          have hP : va_P (dC, dI) classes (wd_Model_prepare kA a0 a1 a2 a3 a4 a5 a6 a7 v0_0 v0_1 v0_2 v0_11 v0_12 v0_13 v0_14 v0_15 v0_16 v0_17 v0_18 v0_19 v0_20 v0_21 v0_22 v0_23 v0_24 v0_25 v0_26 v0_27 v0_28 x0_3 f1 f2 f3 f4 f5 f6 (upd f7 (Int32.toNatClampNeg l2) (vp_nar .boolean 0))) H := hP
          have hD : va_D A (wd_Model_prepare kA a0 a1 a2 a3 a4 a5 a6 a7 v0_0 v0_1 v0_2 v0_11 v0_12 v0_13 v0_14 v0_15 v0_16 v0_17 v0_18 v0_19 v0_20 v0_21 v0_22 v0_23 v0_24 v0_25 v0_26 v0_27 v0_28 x0_3 f1 f2 f3 f4 f5 f6 (upd f7 (Int32.toNatClampNeg l2) (vp_nar .boolean 0))) := hD
          refine lv_iinc (v := (l3 + 1)) (lv' := [(3, .int (l3 + 1)), (0, .ref a0), (1, .int l1), (2, .int l2)]) hx hb d_Model_prepare_126 hl (k := 3) rfl (by rfl) (by decide) rfl (fun ls hl => ?_)
          refine lv_goto (tgt := 64) hx hb d_Model_prepare_129 (by decide) ?_
          exact ih.2.2.2.1 l1 l2 (l3 + 1) 0 0 0 f1 f2 f3 (upd f7 (Int32.toNatClampNeg l2) (vp_nar .boolean 0)) hF _ _ _ hP hD hS (lv_sub hl [1, 2, 3, 0] rfl)
        · rw [if_neg c_53] at hF
          refine lv_aload_n hx hb d_Model_prepare_92 rfl (lv_at hl 0 rfl) ?_
          refine va_get (D := (dC, dI)) (ci := 9) (v := .ref a6) (C := R_Model) (T := F_Model) (N := 29) hx hb hg iw_Model hown hK hP 0 rfl rfl 6 (by decide) (hg _ gw_279) (fun _ h9 => h9) rfl d_Model_prepare_93 ?_
          refine lv_iload_n hx hb d_Model_prepare_96 rfl (lv_at hl 3 rfl) ?_
          obtain ⟨h_55, hF⟩ := rd_chk hF
          refine va_iald hx hb hK hP 6 0 rfl rfl h_55 d_Model_prepare_97 ?_
          refine lv_bipush (v := 6) hx hb d_Model_prepare_98 (by decide) ?_
          refine lv_icmp_lt (tgt := 120) hx hb d_Model_prepare_100 (by decide) (fun c_56 => ?_) (fun c_56 => ?_)
          · rw [if_pos c_56] at hF
            refine lv_iconst (v := 1) hx hb d_Model_prepare_120 (by decide) ?_
            refine lv_goto (tgt := 125) hx hb d_Model_prepare_121 (by decide) ?_
            obtain ⟨h_57, hF⟩ := rd_chk hF
            refine va_zast hx hb hK hP hD hS 7 1 rfl rfl h_57 d_Model_prepare_125 (fun H locs hP hD hS => ?_)
            have hP : va_P (dC, dI) classes (wd_Model_prepare kA a0 a1 a2 a3 a4 a5 a6 a7 v0_0 v0_1 v0_2 v0_11 v0_12 v0_13 v0_14 v0_15 v0_16 v0_17 v0_18 v0_19 v0_20 v0_21 v0_22 v0_23 v0_24 v0_25 v0_26 v0_27 v0_28 x0_3 f1 f2 f3 f4 f5 f6 (upd f7 (Int32.toNatClampNeg l2) (vp_nar .boolean 1))) H := hP
            have hD : va_D A (wd_Model_prepare kA a0 a1 a2 a3 a4 a5 a6 a7 v0_0 v0_1 v0_2 v0_11 v0_12 v0_13 v0_14 v0_15 v0_16 v0_17 v0_18 v0_19 v0_20 v0_21 v0_22 v0_23 v0_24 v0_25 v0_26 v0_27 v0_28 x0_3 f1 f2 f3 f4 f5 f6 (upd f7 (Int32.toNatClampNeg l2) (vp_nar .boolean 1))) := hD
            refine lv_iinc (v := (l3 + 1)) (lv' := [(3, .int (l3 + 1)), (0, .ref a0), (1, .int l1), (2, .int l2)]) hx hb d_Model_prepare_126 hl (k := 3) rfl (by rfl) (by decide) rfl (fun ls hl => ?_)
            refine lv_goto (tgt := 64) hx hb d_Model_prepare_129 (by decide) ?_
            exact ih.2.2.2.1 l1 l2 (l3 + 1) 0 0 0 f1 f2 f3 (upd f7 (Int32.toNatClampNeg l2) (vp_nar .boolean 1)) hF _ _ _ hP hD hS (lv_sub hl [1, 2, 3, 0] rfl)
          · rw [if_neg c_56] at hF
            refine lv_aload_n hx hb d_Model_prepare_103 rfl (lv_at hl 0 rfl) ?_
            refine va_get (D := (dC, dI)) (ci := 9) (v := .ref a1) (C := R_Model) (T := F_Model) (N := 29) hx hb hg iw_Model hown hK hP 0 rfl rfl 8 (by decide) (hg _ gw_287) (fun _ h9 => h9) rfl d_Model_prepare_104 ?_
            refine lv_aload_n hx hb d_Model_prepare_107 rfl (lv_at hl 0 rfl) ?_
            refine va_get (D := (dC, dI)) (ci := 9) (v := .ref a6) (C := R_Model) (T := F_Model) (N := 29) hx hb hg iw_Model hown hK hP 0 rfl rfl 6 (by decide) (hg _ gw_279) (fun _ h9 => h9) rfl d_Model_prepare_108 ?_
            refine lv_iload_n hx hb d_Model_prepare_111 rfl (lv_at hl 3 rfl) ?_
            obtain ⟨h_58, hF⟩ := rd_chk hF
            refine va_iald hx hb hK hP 6 0 rfl rfl h_58 d_Model_prepare_112 ?_
            refine lv_bipush (v := 6) hx hb d_Model_prepare_113 (by decide) ?_
            refine lv_isub hx hb d_Model_prepare_115 ?_
            obtain ⟨h_59, hF⟩ := rd_chk hF
            refine va_zald hx hb hK hP 1 1 rfl rfl h_59 d_Model_prepare_116 ?_
            refine lv_if_eq (tgt := 124) hx hb d_Model_prepare_117 (by decide) (fun c_60 => ?_) (fun c_60 => ?_)
            · rw [if_pos c_60] at hF
              refine lv_iconst (v := 0) hx hb d_Model_prepare_124 (by decide) ?_
              obtain ⟨h_61, hF⟩ := rd_chk hF
              refine va_zast hx hb hK hP hD hS 7 1 rfl rfl h_61 d_Model_prepare_125 (fun H locs hP hD hS => ?_)
              have hP : va_P (dC, dI) classes (wd_Model_prepare kA a0 a1 a2 a3 a4 a5 a6 a7 v0_0 v0_1 v0_2 v0_11 v0_12 v0_13 v0_14 v0_15 v0_16 v0_17 v0_18 v0_19 v0_20 v0_21 v0_22 v0_23 v0_24 v0_25 v0_26 v0_27 v0_28 x0_3 f1 f2 f3 f4 f5 f6 (upd f7 (Int32.toNatClampNeg l2) (vp_nar .boolean 0))) H := hP
              have hD : va_D A (wd_Model_prepare kA a0 a1 a2 a3 a4 a5 a6 a7 v0_0 v0_1 v0_2 v0_11 v0_12 v0_13 v0_14 v0_15 v0_16 v0_17 v0_18 v0_19 v0_20 v0_21 v0_22 v0_23 v0_24 v0_25 v0_26 v0_27 v0_28 x0_3 f1 f2 f3 f4 f5 f6 (upd f7 (Int32.toNatClampNeg l2) (vp_nar .boolean 0))) := hD
              refine lv_iinc (v := (l3 + 1)) (lv' := [(3, .int (l3 + 1)), (0, .ref a0), (1, .int l1), (2, .int l2)]) hx hb d_Model_prepare_126 hl (k := 3) rfl (by rfl) (by decide) rfl (fun ls hl => ?_)
              refine lv_goto (tgt := 64) hx hb d_Model_prepare_129 (by decide) ?_
              exact ih.2.2.2.1 l1 l2 (l3 + 1) 0 0 0 f1 f2 f3 (upd f7 (Int32.toNatClampNeg l2) (vp_nar .boolean 0)) hF _ _ _ hP hD hS (lv_sub hl [1, 2, 3, 0] rfl)
            · rw [if_neg c_60] at hF
              refine lv_iconst (v := 1) hx hb d_Model_prepare_120 (by decide) ?_
              refine lv_goto (tgt := 125) hx hb d_Model_prepare_121 (by decide) ?_
              obtain ⟨h_62, hF⟩ := rd_chk hF
              refine va_zast hx hb hK hP hD hS 7 1 rfl rfl h_62 d_Model_prepare_125 (fun H locs hP hD hS => ?_)
              have hP : va_P (dC, dI) classes (wd_Model_prepare kA a0 a1 a2 a3 a4 a5 a6 a7 v0_0 v0_1 v0_2 v0_11 v0_12 v0_13 v0_14 v0_15 v0_16 v0_17 v0_18 v0_19 v0_20 v0_21 v0_22 v0_23 v0_24 v0_25 v0_26 v0_27 v0_28 x0_3 f1 f2 f3 f4 f5 f6 (upd f7 (Int32.toNatClampNeg l2) (vp_nar .boolean 1))) H := hP
              have hD : va_D A (wd_Model_prepare kA a0 a1 a2 a3 a4 a5 a6 a7 v0_0 v0_1 v0_2 v0_11 v0_12 v0_13 v0_14 v0_15 v0_16 v0_17 v0_18 v0_19 v0_20 v0_21 v0_22 v0_23 v0_24 v0_25 v0_26 v0_27 v0_28 x0_3 f1 f2 f3 f4 f5 f6 (upd f7 (Int32.toNatClampNeg l2) (vp_nar .boolean 1))) := hD
              refine lv_iinc (v := (l3 + 1)) (lv' := [(3, .int (l3 + 1)), (0, .ref a0), (1, .int l1), (2, .int l2)]) hx hb d_Model_prepare_126 hl (k := 3) rfl (by rfl) (by decide) rfl (fun ls hl => ?_)
              refine lv_goto (tgt := 64) hx hb d_Model_prepare_129 (by decide) ?_
              exact ih.2.2.2.1 l1 l2 (l3 + 1) 0 0 0 f1 f2 f3 (upd f7 (Int32.toNatClampNeg l2) (vp_nar .boolean 1)) hF _ _ _ hP hD hS (lv_sub hl [1, 2, 3, 0] rfl)
    · intro l1 l2 l3 l4 l5 s0 f1 f2 f3 f7 hF H locs ls hP hD hS hl
      have hF : B_Model_prepare_4 (F_Model_prepare x0_3 f4 f5 f6 n) x0_3 f4 f5 f6 l1 l2 l3 l4 l5 s0 f1 f2 f3 f7 = some (of1, of2, of3, of7) := hF
      unfold B_Model_prepare_4 at hF
      refine lv_iload_n hx hb d_Model_prepare_215 rfl (lv_at hl 1 rfl) ?_
      refine lv_if_eq (tgt := 381) hx hb d_Model_prepare_216 (by decide) (fun c_63 => ?_) (fun c_63 => ?_)
      · rw [if_pos c_63] at hF
        have e0 := Option.some.inj hF
        have q0 := Prod.mk.inj e0
        have q1 := Prod.mk.inj q0.2
        have q2 := Prod.mk.inj q1.2
        exact W.vret hx hb hr (fun t ht hW => ⟨⟨(), rfl, trivial, by rw [ht, ← q0.1, ← q1.1, ← q2.1, ← q2.2]; exact hP, va_K.moved hW.alike hK, (by rw [← q0.1, ← q1.1, ← q2.1, ← q2.2]; exact hD)⟩, hS.F ht⟩) hS.2.2 d_Model_prepare_381 hlocks
      · rw [if_neg c_63] at hF
        refine lv_iconst (v := 0) hx hb d_Model_prepare_219 (by decide) ?_
        refine lv_istore_n (lv' := [(1, .int 0), (0, .ref a0)]) hx hb d_Model_prepare_220 rfl hl (by decide) rfl (fun ls hl => ?_)
        refine lv_iconst (v := 0) hx hb d_Model_prepare_221 (by decide) ?_
        refine lv_istore_n (lv' := [(2, .int 0), (1, .int 0), (0, .ref a0)]) hx hb d_Model_prepare_222 rfl hl (by decide) rfl (fun ls hl => ?_)
        exact ih.2.2.2.2.2.1 0 0 0 0 0 0 f1 f2 f3 f7 hF _ _ _ hP hD hS (lv_sub hl [2, 1, 0] rfl)
    · intro l1 l2 l3 l4 l5 s0 f1 f2 f3 f7 hF H locs ls hP hD hS hl
      have hF : B_Model_prepare_5 (F_Model_prepare x0_3 f4 f5 f6 n) x0_3 f4 f5 f6 l1 l2 l3 l4 l5 s0 f1 f2 f3 f7 = some (of1, of2, of3, of7) := hF
      unfold B_Model_prepare_5 at hF
      refine lv_iload_n hx hb d_Model_prepare_223 rfl (lv_at hl 2 rfl) ?_
      refine lv_aload_n hx hb d_Model_prepare_224 rfl (lv_at hl 0 rfl) ?_
      refine va_get (D := (dC, dI)) (ci := 9) (v := .int x0_3) (C := R_Model) (T := F_Model) (N := 29) hx hb hg iw_Model hown hK hP 0 rfl rfl 3 (by decide) (hg _ gw_276) (fun _ h9 => h9) rfl d_Model_prepare_225 ?_
      refine lv_icmp_ge (tgt := 378) hx hb d_Model_prepare_228 (by decide) (fun c_64 => ?_) (fun c_64 => ?_)
      · rw [if_pos c_64] at hF
        refine lv_goto (tgt := 215) hx hb d_Model_prepare_378 (by decide) ?_
        exact ih.2.2.2.2.1 l1 0 0 0 0 0 f1 f2 f3 f7 hF _ _ _ hP hD hS (lv_sub hl [0, 1] rfl)
      · rw [if_neg c_64] at hF
        refine lv_aload_n hx hb d_Model_prepare_231 rfl (lv_at hl 0 rfl) ?_
        refine va_get (D := (dC, dI)) (ci := 9) (v := .ref a7) (C := R_Model) (T := F_Model) (N := 29) hx hb hg iw_Model hown hK hP 0 rfl rfl 7 (by decide) (hg _ gw_288) (fun _ h9 => h9) rfl d_Model_prepare_232 ?_
        refine lv_iload_n hx hb d_Model_prepare_235 rfl (lv_at hl 2 rfl) ?_
        obtain ⟨h_65, hF⟩ := rd_chk hF
        refine va_zald hx hb hK hP 7 1 rfl rfl h_65 d_Model_prepare_236 ?_
        refine lv_if_eq (tgt := 250) hx hb d_Model_prepare_237 (by decide) (fun c_66 => ?_) (fun c_66 => ?_)
        · rw [if_pos c_66] at hF
          refine lv_iconst (v := 0) hx hb d_Model_prepare_250 (by decide) ?_
          exact ih.2.2.2.2.2.2.1 l1 l2 0 0 0 0 f1 f2 f3 f7 hF _ _ _ hP hD hS (lv_sub hl [0, 1, 2] rfl)
        · rw [if_neg c_66] at hF
          refine lv_aload_n hx hb d_Model_prepare_240 rfl (lv_at hl 0 rfl) ?_
          refine lv_iload_n hx hb d_Model_prepare_241 rfl (lv_at hl 2 rfl) ?_
          refine lv_iconst (v := 0) hx hb d_Model_prepare_242 (by decide) ?_
          refine lv_iconst (v := 0) hx hb d_Model_prepare_243 (by decide) ?_
          obtain ⟨u_67, hS_67, hF⟩ := rd_bind hF
          have hPc := hP.sub (ws' := (wd_Model_begins kA a0 a2 a3 a5 a6 v0_0 v0_1 v0_2 (.int x0_3) (.ref a4) (.ref a7) (.ref a1) v0_11 v0_12 v0_13 v0_14 v0_15 v0_16 v0_17 v0_18 v0_19 v0_20 v0_21 v0_22 v0_23 v0_24 v0_25 v0_26 v0_27 v0_28 f2 f3 f5 f6)) [0, 2, 3, 5, 6] rfl
          have hDc := hD.sub (ws' := (wd_Model_begins kA a0 a2 a3 a5 a6 v0_0 v0_1 v0_2 (.int x0_3) (.ref a4) (.ref a7) (.ref a1) v0_11 v0_12 v0_13 v0_14 v0_15 v0_16 v0_17 v0_18 v0_19 v0_20 v0_21 v0_22 v0_23 v0_24 v0_25 v0_26 v0_27 v0_28 f2 f3 f5 f6)) [0, 2, 3, 5, 6] (by decide) rfl
          have hFc := va_free (wc := (wd_Model_begins kA a0 a2 a3 a5 a6 v0_0 v0_1 v0_2 (.int x0_3) (.ref a4) (.ref a7) (.ref a1) v0_11 v0_12 v0_13 v0_14 v0_15 v0_16 v0_17 v0_18 v0_19 v0_20 v0_21 v0_22 v0_23 v0_24 v0_25 v0_26 v0_27 v0_28 f2 f3 f5 f6)) hD hS hA [0, 2, 3, 5, 6] rfl
          refine va_calli (va_runV (As := [.int l2, .int 0, .int 0]) (rest := []) ⟨hx, hb, hml, hown, hts⟩ (c_Model_begins l dC dI kA H.size a0 a2 a3 a5 a6 v0_0 v0_1 v0_2 (.int x0_3) (.ref a4) (.ref a7) (.ref a1) v0_11 v0_12 v0_13 v0_14 v0_15 v0_16 v0_17 v0_18 v0_19 v0_20 v0_21 v0_22 v0_23 v0_24 v0_25 v0_26 v0_27 v0_28 l2 0 0 f2 f3 f5 f6 u_67 hS_67) (cwV 3 hts (gw_V gw_289 gw_290 gw_291 gw_267 gw_292) rfl rfl rfl (by decide +kernel) ⟨Nat.le_of_ble_eq_true rfl, Nat.le_of_ble_eq_true rfl⟩) ⟨fun a U g mk q => by obtain ⟨q0, q1, qP, qK, qD⟩ := q; exact ⟨q0, q1, qP, va_K.moved (u := U) (U := U.calling g mk a) (Vm.Alike.refl U.vm) qK, qD⟩, va_recv hK hP (ci := 9) (q0 := 0) rfl rfl, fun U hU hW => ⟨rfl, by rw [hU], by rw [hU]; exact hPc, va_K.moved hW.alike hK, hDc.weaken (fun _ _ _ _ => trivial)⟩⟩ rfl rfl hl.1 rfl (lv_room (Nat.le_of_ble_eq_true rfl)) d_Model_prepare_244 ⟨Nat.zero_le _, Nat.zero_le _⟩) hS (fun q _ h => hFc q h) hFc (fun r1 u t H1 locs ht hvm hw hB hz1 hk1 hS => ?_)
          rw [show r1 = _ from hw]
          obtain ⟨hP1, hK1, hD1⟩ := hB
          rw [ht] at hP1
          obtain ⟨hP, hD⟩ := va_join (wr := [(a1, .inl (kA 1, 6, .inl f1)), (a4, .inl (kA 0, 11, .inl f4)), (a7, .inl (kA 1, 11, .inl f7))]) (w1 := (wd_Model_begins kA a0 a2 a3 a5 a6 v0_0 v0_1 v0_2 (.int x0_3) (.ref a4) (.ref a7) (.ref a1) v0_11 v0_12 v0_13 v0_14 v0_15 v0_16 v0_17 v0_18 v0_19 v0_20 v0_21 v0_22 v0_23 v0_24 v0_25 v0_26 v0_27 v0_28 f2 f3 f5 f6)) hP hD [0, 2, 3, 5, 6] [1, 4, 7] rfl rfl (by decide) (by decide) hk1 hFc hP1 hD1
          have hP := hP.sub (ws' := (wd_Model_prepare kA a0 a1 a2 a3 a4 a5 a6 a7 v0_0 v0_1 v0_2 v0_11 v0_12 v0_13 v0_14 v0_15 v0_16 v0_17 v0_18 v0_19 v0_20 v0_21 v0_22 v0_23 v0_24 v0_25 v0_26 v0_27 v0_28 x0_3 f1 f2 f3 f4 f5 f6 f7)) [3, 0, 4, 5, 1, 6, 7, 2] rfl
          have hD := hD.sub (ws' := (wd_Model_prepare kA a0 a1 a2 a3 a4 a5 a6 a7 v0_0 v0_1 v0_2 v0_11 v0_12 v0_13 v0_14 v0_15 v0_16 v0_17 v0_18 v0_19 v0_20 v0_21 v0_22 v0_23 v0_24 v0_25 v0_26 v0_27 v0_28 x0_3 f1 f2 f3 f4 f5 f6 f7)) [3, 0, 4, 5, 1, 6, 7, 2] (by decide) rfl
          clear hPc hDc hFc hP1 hK1 hD1
          generalize H1 = H at hP hS ⊢
          refine lv_goto (tgt := 251) hx hb d_Model_prepare_247 (by decide) ?_
          exact ih.2.2.2.2.2.2.1 l1 l2 0 0 0 u_67 f1 f2 f3 f7 hF _ _ _ hP hD hS (lv_sub hl [0, 1, 2] rfl)
    · intro l1 l2 l3 l4 l5 s0 f1 f2 f3 f7 hF H locs ls hP hD hS hl
      have hF : B_Model_prepare_6 (F_Model_prepare x0_3 f4 f5 f6 n) x0_3 f4 f5 f6 l1 l2 l3 l4 l5 s0 f1 f2 f3 f7 = some (of1, of2, of3, of7) := hF
      unfold B_Model_prepare_6 at hF
      refine lv_istore_n (lv' := [(3, .int s0), (0, .ref a0), (1, .int l1), (2, .int l2)]) hx hb d_Model_prepare_251 rfl hl (by decide) rfl (fun ls hl => ?_)
      refine lv_aload_n hx hb d_Model_prepare_252 rfl (lv_at hl 1 rfl) ?_
      refine va_get (D := (dC, dI)) (ci := 9) (v := .ref a7) (C := R_Model) (T := F_Model) (N := 29) hx hb hg iw_Model hown hK hP 0 rfl rfl 7 (by decide) (hg _ gw_288) (fun _ h9 => h9) rfl d_Model_prepare_253 ?_
      refine lv_iload_n hx hb d_Model_prepare_256 rfl (lv_at hl 3 rfl) ?_
      obtain ⟨h_68, hF⟩ := rd_chk hF
      refine va_zald hx hb hK hP 7 1 rfl rfl h_68 d_Model_prepare_257 ?_
      refine lv_if_eq (tgt := 274) hx hb d_Model_prepare_258 (by decide) (fun c_69 => ?_) (fun c_69 => ?_)
      · rw [if_pos c_69] at hF
        exact ih.2.2.2.2.2.2.2.1 l1 l2 s0 0 0 0 f1 f2 f3 f7 hF _ _ _ hP hD hS (lv_sub hl [1, 2, 3, 0] rfl)
      · rw [if_neg c_69] at hF
        refine lv_aload_n hx hb d_Model_prepare_261 rfl (lv_at hl 1 rfl) ?_
        refine lv_iload_n hx hb d_Model_prepare_262 rfl (lv_at hl 3 rfl) ?_
        refine lv_iconst (v := 0) hx hb d_Model_prepare_263 (by decide) ?_
        obtain ⟨u_70, hS_70, hF⟩ := rd_bind hF
        have hPc := hP.sub (ws' := (wd_Model_isEmpty kA a0 a2 a5 a6 v0_0 v0_1 v0_2 (.int x0_3) (.ref a4) (.ref a7) (.ref a1) (.ref a3) v0_11 v0_12 v0_13 v0_14 v0_15 v0_16 v0_17 v0_18 v0_19 v0_20 v0_21 v0_22 v0_23 v0_24 v0_25 v0_26 v0_27 v0_28 f2 f5 f6)) [0, 2, 5, 6] rfl
        have hDc := hD.sub (ws' := (wd_Model_isEmpty kA a0 a2 a5 a6 v0_0 v0_1 v0_2 (.int x0_3) (.ref a4) (.ref a7) (.ref a1) (.ref a3) v0_11 v0_12 v0_13 v0_14 v0_15 v0_16 v0_17 v0_18 v0_19 v0_20 v0_21 v0_22 v0_23 v0_24 v0_25 v0_26 v0_27 v0_28 f2 f5 f6)) [0, 2, 5, 6] (by decide) rfl
        have hFc := va_free (wc := (wd_Model_isEmpty kA a0 a2 a5 a6 v0_0 v0_1 v0_2 (.int x0_3) (.ref a4) (.ref a7) (.ref a1) (.ref a3) v0_11 v0_12 v0_13 v0_14 v0_15 v0_16 v0_17 v0_18 v0_19 v0_20 v0_21 v0_22 v0_23 v0_24 v0_25 v0_26 v0_27 v0_28 f2 f5 f6)) hD hS hA [0, 2, 5, 6] rfl
        refine va_calli (va_runV (As := [.int l2, .int 0]) (rest := []) ⟨hx, hb, hml, hown, hts⟩ (c_Model_isEmpty l dC dI kA H.size a0 a2 a5 a6 v0_0 v0_1 v0_2 (.int x0_3) (.ref a4) (.ref a7) (.ref a1) (.ref a3) v0_11 v0_12 v0_13 v0_14 v0_15 v0_16 v0_17 v0_18 v0_19 v0_20 v0_21 v0_22 v0_23 v0_24 v0_25 v0_26 v0_27 v0_28 l2 0 f2 f5 f6 u_70 hS_70) (cwV 2 hts (gw_V gw_293 gw_294 gw_295 gw_267 gw_296) rfl rfl rfl (by decide +kernel) ⟨Nat.le_of_ble_eq_true rfl, Nat.le_of_ble_eq_true rfl⟩) ⟨fun a U g mk q => by obtain ⟨q0, q1, qP, qK, qD⟩ := q; exact ⟨q0, q1, qP, va_K.moved (u := U) (U := U.calling g mk a) (Vm.Alike.refl U.vm) qK, qD⟩, va_recv hK hP (ci := 9) (q0 := 0) rfl rfl, fun U hU hW => ⟨rfl, by rw [hU], by rw [hU]; exact hPc, va_K.moved hW.alike hK, hDc.weaken (fun _ _ _ _ => trivial)⟩⟩ rfl rfl hl.1 rfl (lv_room (Nat.le_of_ble_eq_true rfl)) d_Model_prepare_264 ⟨Nat.zero_le _, Nat.zero_le _⟩) hS (fun q _ h => hFc q h) hFc (fun r1 u t H1 locs ht hvm hw hB hz1 hk1 hS => ?_)
        rw [show r1 = _ from hw]
        obtain ⟨hP1, hK1, hD1⟩ := hB
        rw [ht] at hP1
        obtain ⟨hP, hD⟩ := va_join (wr := [(a1, .inl (kA 1, 6, .inl f1)), (a3, .inl (kA 0, 6, .inl f3)), (a4, .inl (kA 0, 11, .inl f4)), (a7, .inl (kA 1, 11, .inl f7))]) (w1 := (wd_Model_isEmpty kA a0 a2 a5 a6 v0_0 v0_1 v0_2 (.int x0_3) (.ref a4) (.ref a7) (.ref a1) (.ref a3) v0_11 v0_12 v0_13 v0_14 v0_15 v0_16 v0_17 v0_18 v0_19 v0_20 v0_21 v0_22 v0_23 v0_24 v0_25 v0_26 v0_27 v0_28 f2 f5 f6)) hP hD [0, 2, 5, 6] [1, 3, 4, 7] rfl rfl (by decide) (by decide) hk1 hFc hP1 hD1
        have hP := hP.sub (ws' := (wd_Model_prepare kA a0 a1 a2 a3 a4 a5 a6 a7 v0_0 v0_1 v0_2 v0_11 v0_12 v0_13 v0_14 v0_15 v0_16 v0_17 v0_18 v0_19 v0_20 v0_21 v0_22 v0_23 v0_24 v0_25 v0_26 v0_27 v0_28 x0_3 f1 f2 f3 f4 f5 f6 f7)) [4, 0, 5, 1, 2, 6, 7, 3] rfl
        have hD := hD.sub (ws' := (wd_Model_prepare kA a0 a1 a2 a3 a4 a5 a6 a7 v0_0 v0_1 v0_2 v0_11 v0_12 v0_13 v0_14 v0_15 v0_16 v0_17 v0_18 v0_19 v0_20 v0_21 v0_22 v0_23 v0_24 v0_25 v0_26 v0_27 v0_28 x0_3 f1 f2 f3 f4 f5 f6 f7)) [4, 0, 5, 1, 2, 6, 7, 3] (by decide) rfl
        clear hPc hDc hFc hP1 hK1 hD1
        generalize H1 = H at hP hS ⊢
        refine lv_if_eq (tgt := 274) hx hb d_Model_prepare_267 (by decide) (fun c_71 => ?_) (fun c_71 => ?_)
        · rw [if_pos c_71] at hF
          exact ih.2.2.2.2.2.2.2.1 l1 l2 s0 0 0 0 f1 f2 f3 f7 hF _ _ _ hP hD hS (lv_sub hl [1, 2, 3, 0] rfl)
        · rw [if_neg c_71] at hF
          refine lv_iconst (v := 1) hx hb d_Model_prepare_270 (by decide) ?_
          refine lv_goto (tgt := 275) hx hb d_Model_prepare_271 (by decide) ?_
          exact ih.2.2.2.2.2.2.2.2.1 l1 l2 s0 0 0 1 f1 f2 f3 f7 hF _ _ _ hP hD hS (lv_sub hl [1, 2, 3, 0] rfl)
    · intro l1 l2 l3 l4 l5 s0 f1 f2 f3 f7 hF H locs ls hP hD hS hl
      have hF : B_Model_prepare_7 (F_Model_prepare x0_3 f4 f5 f6 n) x0_3 f4 f5 f6 l1 l2 l3 l4 l5 s0 f1 f2 f3 f7 = some (of1, of2, of3, of7) := hF
      unfold B_Model_prepare_7 at hF
      refine lv_iconst (v := 0) hx hb d_Model_prepare_274 (by decide) ?_
      exact ih.2.2.2.2.2.2.2.2.1 l1 l2 l3 0 0 0 f1 f2 f3 f7 hF _ _ _ hP hD hS (lv_sub hl [0, 1, 2, 3] rfl)
    · intro l1 l2 l3 l4 l5 s0 f1 f2 f3 f7 hF H locs ls hP hD hS hl
      have hF : B_Model_prepare_8 (F_Model_prepare x0_3 f4 f5 f6 n) x0_3 f4 f5 f6 l1 l2 l3 l4 l5 s0 f1 f2 f3 f7 = some (of1, of2, of3, of7) := hF
      unfold B_Model_prepare_8 at hF
      refine lv_istore (lv' := [(4, .int s0), (0, .ref a0), (1, .int l1), (2, .int l2), (3, .int l3)]) hx hb d_Model_prepare_275 hl (by decide) rfl (fun ls hl => ?_)
      refine lv_aload_n hx hb d_Model_prepare_277 rfl (lv_at hl 1 rfl) ?_
      refine va_get (D := (dC, dI)) (ci := 9) (v := .ref a4) (C := R_Model) (T := F_Model) (N := 29) hx hb hg iw_Model hown hK hP 0 rfl rfl 4 (by decide) (hg _ gw_277) (fun _ h9 => h9) rfl d_Model_prepare_278 ?_
      refine lv_iload_n hx hb d_Model_prepare_281 rfl (lv_at hl 3 rfl) ?_
      obtain ⟨h_72, hF⟩ := rd_chk hF
      refine va_iald hx hb hK hP 4 0 rfl rfl h_72 d_Model_prepare_282 ?_
      refine lv_istore (lv' := [(5, .int (f4 (Int32.toNatClampNeg l2))), (4, .int s0), (0, .ref a0), (1, .int l1), (2, .int l2), (3, .int l3)]) hx hb d_Model_prepare_283 hl (by decide) rfl (fun ls hl => ?_)
      refine lv_iload_n hx hb d_Model_prepare_285 rfl (lv_at hl 3 rfl) ?_
      refine lv_if_ne (tgt := 323) hx hb d_Model_prepare_286 (by decide) (fun c_73 => ?_) (fun c_73 => ?_)
      · rw [if_pos c_73] at hF
        exact ih.2.2.2.2.2.2.2.2.2 l1 l2 l3 s0 (f4 (Int32.toNatClampNeg l2)) 0 f1 f2 f3 f7 hF _ _ _ hP hD hS (lv_sub hl [2, 3, 4, 5, 1, 0] rfl)
      · rw [if_neg (fun z => z c_73)] at hF
        refine lv_iload_n hx hb d_Model_prepare_289 rfl (lv_at hl 5 rfl) ?_
        refine lv_aload_n hx hb d_Model_prepare_290 rfl (lv_at hl 2 rfl) ?_
        refine va_get (D := (dC, dI)) (ci := 9) (v := .ref a3) (C := R_Model) (T := F_Model) (N := 29) hx hb hg iw_Model hown hK hP 0 rfl rfl 10 (by decide) (hg _ gw_285) (fun _ h9 => h9) rfl d_Model_prepare_291 ?_
        refine lv_iload hx hb d_Model_prepare_294 (lv_at hl 0 rfl) ?_
        obtain ⟨h_74, hF⟩ := rd_chk hF
        refine va_iald hx hb hK hP 3 0 rfl rfl h_74 d_Model_prepare_296 ?_
        refine lv_ior hx hb d_Model_prepare_297 ?_
        refine lv_aload_n hx hb d_Model_prepare_298 rfl (lv_at hl 2 rfl) ?_
        refine va_get (D := (dC, dI)) (ci := 9) (v := .ref a3) (C := R_Model) (T := F_Model) (N := 29) hx hb hg iw_Model hown hK hP 0 rfl rfl 10 (by decide) (hg _ gw_285) (fun _ h9 => h9) rfl d_Model_prepare_299 ?_
        refine lv_iload hx hb d_Model_prepare_302 (lv_at hl 0 rfl) ?_
        obtain ⟨h_75, hF⟩ := rd_chk hF
        refine va_iald hx hb hK hP 3 0 rfl rfl h_75 d_Model_prepare_304 ?_
        refine lv_icmp_ne (tgt := 323) hx hb d_Model_prepare_305 (by decide) (fun c_76 => ?_) (fun c_76 => ?_)
        · rw [if_pos c_76] at hF
          exact ih.2.2.2.2.2.2.2.2.2 l1 l2 l3 s0 (f4 (Int32.toNatClampNeg l2)) 0 f1 f2 f3 f7 hF _ _ _ hP hD hS (lv_sub hl [2, 3, 4, 5, 1, 0] rfl)
        · rw [if_neg (fun z => z c_76)] at hF
          refine lv_iload hx hb d_Model_prepare_308 (lv_at hl 1 rfl) ?_
          refine lv_if_eq (tgt := 327) hx hb d_Model_prepare_310 (by decide) (fun c_77 => ?_) (fun c_77 => ?_)
          · rw [if_pos c_77] at hF
            refine lv_iconst (v := 0) hx hb d_Model_prepare_327 (by decide) ?_
            refine lv_istore_n (lv' := [(1, .int 0), (5, .int (f4 (Int32.toNatClampNeg l2))), (4, .int s0), (0, .ref a0), (2, .int l2), (3, .int l3)]) hx hb d_Model_prepare_328 rfl hl (by decide) rfl (fun ls hl => ?_)
            refine lv_aload_n hx hb d_Model_prepare_329 rfl (lv_at hl 3 rfl) ?_
            refine va_get (D := (dC, dI)) (ci := 9) (v := .ref a3) (C := R_Model) (T := F_Model) (N := 29) hx hb hg iw_Model hown hK hP 0 rfl rfl 10 (by decide) (hg _ gw_285) (fun _ h9 => h9) rfl d_Model_prepare_330 ?_
            refine lv_iload hx hb d_Model_prepare_333 (lv_at hl 1 rfl) ?_
            refine lv_aload_n hx hb d_Model_prepare_335 rfl (lv_at hl 3 rfl) ?_
            refine va_get (D := (dC, dI)) (ci := 9) (v := .ref a3) (C := R_Model) (T := F_Model) (N := 29) hx hb hg iw_Model hown hK hP 0 rfl rfl 10 (by decide) (hg _ gw_285) (fun _ h9 => h9) rfl d_Model_prepare_336 ?_
            refine lv_iload hx hb d_Model_prepare_339 (lv_at hl 1 rfl) ?_
            obtain ⟨h_78, hF⟩ := rd_chk hF
            refine va_iald hx hb hK hP 3 0 rfl rfl h_78 d_Model_prepare_341 ?_
            refine lv_iload_n hx hb d_Model_prepare_342 rfl (lv_at hl 5 rfl) ?_
            refine lv_ior hx hb d_Model_prepare_343 ?_
            obtain ⟨h_79, hF⟩ := rd_chk hF
            refine va_iast hx hb hK hP hD hS 3 0 rfl rfl h_79 d_Model_prepare_344 (fun H locs hP hD hS => ?_)
            have hP : va_P (dC, dI) classes (wd_Model_prepare kA a0 a1 a2 a3 a4 a5 a6 a7 v0_0 v0_1 v0_2 v0_11 v0_12 v0_13 v0_14 v0_15 v0_16 v0_17 v0_18 v0_19 v0_20 v0_21 v0_22 v0_23 v0_24 v0_25 v0_26 v0_27 v0_28 x0_3 f1 f2 (upd f3 (Int32.toNatClampNeg (f4 (Int32.toNatClampNeg l2))) ((f3 (Int32.toNatClampNeg (f4 (Int32.toNatClampNeg l2)))) ||| l3)) f4 f5 f6 f7) H := hP
            have hD : va_D A (wd_Model_prepare kA a0 a1 a2 a3 a4 a5 a6 a7 v0_0 v0_1 v0_2 v0_11 v0_12 v0_13 v0_14 v0_15 v0_16 v0_17 v0_18 v0_19 v0_20 v0_21 v0_22 v0_23 v0_24 v0_25 v0_26 v0_27 v0_28 x0_3 f1 f2 (upd f3 (Int32.toNatClampNeg (f4 (Int32.toNatClampNeg l2))) ((f3 (Int32.toNatClampNeg (f4 (Int32.toNatClampNeg l2)))) ||| l3)) f4 f5 f6 f7) := hD
            refine lv_aload_n hx hb d_Model_prepare_345 rfl (lv_at hl 3 rfl) ?_
            refine va_get (D := (dC, dI)) (ci := 9) (v := .ref a2) (C := R_Model) (T := F_Model) (N := 29) hx hb hg iw_Model hown hK hP 0 rfl rfl 9 (by decide) (hg _ gw_286) (fun _ h9 => h9) rfl d_Model_prepare_346 ?_
            refine lv_iload hx hb d_Model_prepare_349 (lv_at hl 1 rfl) ?_
            refine lv_aload_n hx hb d_Model_prepare_351 rfl (lv_at hl 3 rfl) ?_
            refine va_get (D := (dC, dI)) (ci := 9) (v := .ref a2) (C := R_Model) (T := F_Model) (N := 29) hx hb hg iw_Model hown hK hP 0 rfl rfl 9 (by decide) (hg _ gw_286) (fun _ h9 => h9) rfl d_Model_prepare_352 ?_
            refine lv_iload hx hb d_Model_prepare_355 (lv_at hl 1 rfl) ?_
            obtain ⟨h_80, hF⟩ := rd_chk hF
            refine va_zald hx hb hK hP 2 1 rfl rfl h_80 d_Model_prepare_357 ?_
            refine lv_if_ne (tgt := 366) hx hb d_Model_prepare_358 (by decide) (fun c_81 => ?_) (fun c_81 => ?_)
            · rw [if_pos c_81] at hF
              refine lv_iconst (v := 1) hx hb d_Model_prepare_366 (by decide) ?_
              refine lv_goto (tgt := 371) hx hb d_Model_prepare_367 (by decide) ?_
              obtain ⟨h_82, hF⟩ := rd_chk hF
              refine va_zast hx hb hK hP hD hS 2 1 rfl rfl h_82 d_Model_prepare_371 (fun H locs hP hD hS => ?_)
              have hP : va_P (dC, dI) classes (wd_Model_prepare kA a0 a1 a2 a3 a4 a5 a6 a7 v0_0 v0_1 v0_2 v0_11 v0_12 v0_13 v0_14 v0_15 v0_16 v0_17 v0_18 v0_19 v0_20 v0_21 v0_22 v0_23 v0_24 v0_25 v0_26 v0_27 v0_28 x0_3 f1 (upd f2 (Int32.toNatClampNeg (f4 (Int32.toNatClampNeg l2))) (vp_nar .boolean 1)) (upd f3 (Int32.toNatClampNeg (f4 (Int32.toNatClampNeg l2))) ((f3 (Int32.toNatClampNeg (f4 (Int32.toNatClampNeg l2)))) ||| l3)) f4 f5 f6 f7) H := hP
              have hD : va_D A (wd_Model_prepare kA a0 a1 a2 a3 a4 a5 a6 a7 v0_0 v0_1 v0_2 v0_11 v0_12 v0_13 v0_14 v0_15 v0_16 v0_17 v0_18 v0_19 v0_20 v0_21 v0_22 v0_23 v0_24 v0_25 v0_26 v0_27 v0_28 x0_3 f1 (upd f2 (Int32.toNatClampNeg (f4 (Int32.toNatClampNeg l2))) (vp_nar .boolean 1)) (upd f3 (Int32.toNatClampNeg (f4 (Int32.toNatClampNeg l2))) ((f3 (Int32.toNatClampNeg (f4 (Int32.toNatClampNeg l2)))) ||| l3)) f4 f5 f6 f7) := hD
              refine lv_iinc (v := (l2 + 1)) (lv' := [(2, .int (l2 + 1)), (1, .int 0), (5, .int (f4 (Int32.toNatClampNeg l2))), (4, .int s0), (0, .ref a0), (3, .int l3)]) hx hb d_Model_prepare_372 hl (k := 4) rfl (by rfl) (by decide) rfl (fun ls hl => ?_)
              refine lv_goto (tgt := 223) hx hb d_Model_prepare_375 (by decide) ?_
              exact ih.2.2.2.2.2.1 0 (l2 + 1) 0 0 0 0 f1 (upd f2 (Int32.toNatClampNeg (f4 (Int32.toNatClampNeg l2))) (vp_nar .boolean 1)) (upd f3 (Int32.toNatClampNeg (f4 (Int32.toNatClampNeg l2))) ((f3 (Int32.toNatClampNeg (f4 (Int32.toNatClampNeg l2)))) ||| l3)) f7 hF _ _ _ hP hD hS (lv_sub hl [4, 1, 0] rfl)
            · rw [if_neg (fun z => z c_81)] at hF
              refine lv_iload hx hb d_Model_prepare_361 (lv_at hl 2 rfl) ?_
              refine lv_if_eq (tgt := 370) hx hb d_Model_prepare_363 (by decide) (fun c_83 => ?_) (fun c_83 => ?_)
              · rw [if_pos c_83] at hF
                refine lv_iconst (v := 0) hx hb d_Model_prepare_370 (by decide) ?_
                obtain ⟨h_84, hF⟩ := rd_chk hF
                refine va_zast hx hb hK hP hD hS 2 1 rfl rfl h_84 d_Model_prepare_371 (fun H locs hP hD hS => ?_)
                have hP : va_P (dC, dI) classes (wd_Model_prepare kA a0 a1 a2 a3 a4 a5 a6 a7 v0_0 v0_1 v0_2 v0_11 v0_12 v0_13 v0_14 v0_15 v0_16 v0_17 v0_18 v0_19 v0_20 v0_21 v0_22 v0_23 v0_24 v0_25 v0_26 v0_27 v0_28 x0_3 f1 (upd f2 (Int32.toNatClampNeg (f4 (Int32.toNatClampNeg l2))) (vp_nar .boolean 0)) (upd f3 (Int32.toNatClampNeg (f4 (Int32.toNatClampNeg l2))) ((f3 (Int32.toNatClampNeg (f4 (Int32.toNatClampNeg l2)))) ||| l3)) f4 f5 f6 f7) H := hP
                have hD : va_D A (wd_Model_prepare kA a0 a1 a2 a3 a4 a5 a6 a7 v0_0 v0_1 v0_2 v0_11 v0_12 v0_13 v0_14 v0_15 v0_16 v0_17 v0_18 v0_19 v0_20 v0_21 v0_22 v0_23 v0_24 v0_25 v0_26 v0_27 v0_28 x0_3 f1 (upd f2 (Int32.toNatClampNeg (f4 (Int32.toNatClampNeg l2))) (vp_nar .boolean 0)) (upd f3 (Int32.toNatClampNeg (f4 (Int32.toNatClampNeg l2))) ((f3 (Int32.toNatClampNeg (f4 (Int32.toNatClampNeg l2)))) ||| l3)) f4 f5 f6 f7) := hD
                refine lv_iinc (v := (l2 + 1)) (lv' := [(2, .int (l2 + 1)), (1, .int 0), (5, .int (f4 (Int32.toNatClampNeg l2))), (4, .int s0), (0, .ref a0), (3, .int l3)]) hx hb d_Model_prepare_372 hl (k := 4) rfl (by rfl) (by decide) rfl (fun ls hl => ?_)
                refine lv_goto (tgt := 223) hx hb d_Model_prepare_375 (by decide) ?_
                exact ih.2.2.2.2.2.1 0 (l2 + 1) 0 0 0 0 f1 (upd f2 (Int32.toNatClampNeg (f4 (Int32.toNatClampNeg l2))) (vp_nar .boolean 0)) (upd f3 (Int32.toNatClampNeg (f4 (Int32.toNatClampNeg l2))) ((f3 (Int32.toNatClampNeg (f4 (Int32.toNatClampNeg l2)))) ||| l3)) f7 hF _ _ _ hP hD hS (lv_sub hl [4, 1, 0] rfl)
              · rw [if_neg c_83] at hF
                refine lv_iconst (v := 1) hx hb d_Model_prepare_366 (by decide) ?_
                refine lv_goto (tgt := 371) hx hb d_Model_prepare_367 (by decide) ?_
                obtain ⟨h_85, hF⟩ := rd_chk hF
                refine va_zast hx hb hK hP hD hS 2 1 rfl rfl h_85 d_Model_prepare_371 (fun H locs hP hD hS => ?_)
                have hP : va_P (dC, dI) classes (wd_Model_prepare kA a0 a1 a2 a3 a4 a5 a6 a7 v0_0 v0_1 v0_2 v0_11 v0_12 v0_13 v0_14 v0_15 v0_16 v0_17 v0_18 v0_19 v0_20 v0_21 v0_22 v0_23 v0_24 v0_25 v0_26 v0_27 v0_28 x0_3 f1 (upd f2 (Int32.toNatClampNeg (f4 (Int32.toNatClampNeg l2))) (vp_nar .boolean 1)) (upd f3 (Int32.toNatClampNeg (f4 (Int32.toNatClampNeg l2))) ((f3 (Int32.toNatClampNeg (f4 (Int32.toNatClampNeg l2)))) ||| l3)) f4 f5 f6 f7) H := hP
                have hD : va_D A (wd_Model_prepare kA a0 a1 a2 a3 a4 a5 a6 a7 v0_0 v0_1 v0_2 v0_11 v0_12 v0_13 v0_14 v0_15 v0_16 v0_17 v0_18 v0_19 v0_20 v0_21 v0_22 v0_23 v0_24 v0_25 v0_26 v0_27 v0_28 x0_3 f1 (upd f2 (Int32.toNatClampNeg (f4 (Int32.toNatClampNeg l2))) (vp_nar .boolean 1)) (upd f3 (Int32.toNatClampNeg (f4 (Int32.toNatClampNeg l2))) ((f3 (Int32.toNatClampNeg (f4 (Int32.toNatClampNeg l2)))) ||| l3)) f4 f5 f6 f7) := hD
                refine lv_iinc (v := (l2 + 1)) (lv' := [(2, .int (l2 + 1)), (1, .int 0), (5, .int (f4 (Int32.toNatClampNeg l2))), (4, .int s0), (0, .ref a0), (3, .int l3)]) hx hb d_Model_prepare_372 hl (k := 4) rfl (by rfl) (by decide) rfl (fun ls hl => ?_)
                refine lv_goto (tgt := 223) hx hb d_Model_prepare_375 (by decide) ?_
                exact ih.2.2.2.2.2.1 0 (l2 + 1) 0 0 0 0 f1 (upd f2 (Int32.toNatClampNeg (f4 (Int32.toNatClampNeg l2))) (vp_nar .boolean 1)) (upd f3 (Int32.toNatClampNeg (f4 (Int32.toNatClampNeg l2))) ((f3 (Int32.toNatClampNeg (f4 (Int32.toNatClampNeg l2)))) ||| l3)) f7 hF _ _ _ hP hD hS (lv_sub hl [4, 1, 0] rfl)
          · rw [if_neg c_77] at hF
            refine lv_aload_n hx hb d_Model_prepare_313 rfl (lv_at hl 2 rfl) ?_
            refine va_get (D := (dC, dI)) (ci := 9) (v := .ref a2) (C := R_Model) (T := F_Model) (N := 29) hx hb hg iw_Model hown hK hP 0 rfl rfl 9 (by decide) (hg _ gw_286) (fun _ h9 => h9) rfl d_Model_prepare_314 ?_
            refine lv_iload hx hb d_Model_prepare_317 (lv_at hl 0 rfl) ?_
            obtain ⟨h_86, hF⟩ := rd_chk hF
            refine va_zald hx hb hK hP 2 1 rfl rfl h_86 d_Model_prepare_319 ?_
            refine lv_if_ne (tgt := 327) hx hb d_Model_prepare_320 (by decide) (fun c_87 => ?_) (fun c_87 => ?_)
            · rw [if_pos c_87] at hF
              refine lv_iconst (v := 0) hx hb d_Model_prepare_327 (by decide) ?_
              refine lv_istore_n (lv' := [(1, .int 0), (5, .int (f4 (Int32.toNatClampNeg l2))), (4, .int s0), (0, .ref a0), (2, .int l2), (3, .int l3)]) hx hb d_Model_prepare_328 rfl hl (by decide) rfl (fun ls hl => ?_)
              refine lv_aload_n hx hb d_Model_prepare_329 rfl (lv_at hl 3 rfl) ?_
              refine va_get (D := (dC, dI)) (ci := 9) (v := .ref a3) (C := R_Model) (T := F_Model) (N := 29) hx hb hg iw_Model hown hK hP 0 rfl rfl 10 (by decide) (hg _ gw_285) (fun _ h9 => h9) rfl d_Model_prepare_330 ?_
              refine lv_iload hx hb d_Model_prepare_333 (lv_at hl 1 rfl) ?_
              refine lv_aload_n hx hb d_Model_prepare_335 rfl (lv_at hl 3 rfl) ?_
              refine va_get (D := (dC, dI)) (ci := 9) (v := .ref a3) (C := R_Model) (T := F_Model) (N := 29) hx hb hg iw_Model hown hK hP 0 rfl rfl 10 (by decide) (hg _ gw_285) (fun _ h9 => h9) rfl d_Model_prepare_336 ?_
              refine lv_iload hx hb d_Model_prepare_339 (lv_at hl 1 rfl) ?_
              obtain ⟨h_88, hF⟩ := rd_chk hF
              refine va_iald hx hb hK hP 3 0 rfl rfl h_88 d_Model_prepare_341 ?_
              refine lv_iload_n hx hb d_Model_prepare_342 rfl (lv_at hl 5 rfl) ?_
              refine lv_ior hx hb d_Model_prepare_343 ?_
              obtain ⟨h_89, hF⟩ := rd_chk hF
              refine va_iast hx hb hK hP hD hS 3 0 rfl rfl h_89 d_Model_prepare_344 (fun H locs hP hD hS => ?_)
              have hP : va_P (dC, dI) classes (wd_Model_prepare kA a0 a1 a2 a3 a4 a5 a6 a7 v0_0 v0_1 v0_2 v0_11 v0_12 v0_13 v0_14 v0_15 v0_16 v0_17 v0_18 v0_19 v0_20 v0_21 v0_22 v0_23 v0_24 v0_25 v0_26 v0_27 v0_28 x0_3 f1 f2 (upd f3 (Int32.toNatClampNeg (f4 (Int32.toNatClampNeg l2))) ((f3 (Int32.toNatClampNeg (f4 (Int32.toNatClampNeg l2)))) ||| l3)) f4 f5 f6 f7) H := hP
              have hD : va_D A (wd_Model_prepare kA a0 a1 a2 a3 a4 a5 a6 a7 v0_0 v0_1 v0_2 v0_11 v0_12 v0_13 v0_14 v0_15 v0_16 v0_17 v0_18 v0_19 v0_20 v0_21 v0_22 v0_23 v0_24 v0_25 v0_26 v0_27 v0_28 x0_3 f1 f2 (upd f3 (Int32.toNatClampNeg (f4 (Int32.toNatClampNeg l2))) ((f3 (Int32.toNatClampNeg (f4 (Int32.toNatClampNeg l2)))) ||| l3)) f4 f5 f6 f7) := hD
              refine lv_aload_n hx hb d_Model_prepare_345 rfl (lv_at hl 3 rfl) ?_
              refine va_get (D := (dC, dI)) (ci := 9) (v := .ref a2) (C := R_Model) (T := F_Model) (N := 29) hx hb hg iw_Model hown hK hP 0 rfl rfl 9 (by decide) (hg _ gw_286) (fun _ h9 => h9) rfl d_Model_prepare_346 ?_
              refine lv_iload hx hb d_Model_prepare_349 (lv_at hl 1 rfl) ?_
              refine lv_aload_n hx hb d_Model_prepare_351 rfl (lv_at hl 3 rfl) ?_
              refine va_get (D := (dC, dI)) (ci := 9) (v := .ref a2) (C := R_Model) (T := F_Model) (N := 29) hx hb hg iw_Model hown hK hP 0 rfl rfl 9 (by decide) (hg _ gw_286) (fun _ h9 => h9) rfl d_Model_prepare_352 ?_
              refine lv_iload hx hb d_Model_prepare_355 (lv_at hl 1 rfl) ?_
              obtain ⟨h_90, hF⟩ := rd_chk hF
              refine va_zald hx hb hK hP 2 1 rfl rfl h_90 d_Model_prepare_357 ?_
              refine lv_if_ne (tgt := 366) hx hb d_Model_prepare_358 (by decide) (fun c_91 => ?_) (fun c_91 => ?_)
              · rw [if_pos c_91] at hF
                refine lv_iconst (v := 1) hx hb d_Model_prepare_366 (by decide) ?_
                refine lv_goto (tgt := 371) hx hb d_Model_prepare_367 (by decide) ?_
                obtain ⟨h_92, hF⟩ := rd_chk hF
                refine va_zast hx hb hK hP hD hS 2 1 rfl rfl h_92 d_Model_prepare_371 (fun H locs hP hD hS => ?_)
                have hP : va_P (dC, dI) classes (wd_Model_prepare kA a0 a1 a2 a3 a4 a5 a6 a7 v0_0 v0_1 v0_2 v0_11 v0_12 v0_13 v0_14 v0_15 v0_16 v0_17 v0_18 v0_19 v0_20 v0_21 v0_22 v0_23 v0_24 v0_25 v0_26 v0_27 v0_28 x0_3 f1 (upd f2 (Int32.toNatClampNeg (f4 (Int32.toNatClampNeg l2))) (vp_nar .boolean 1)) (upd f3 (Int32.toNatClampNeg (f4 (Int32.toNatClampNeg l2))) ((f3 (Int32.toNatClampNeg (f4 (Int32.toNatClampNeg l2)))) ||| l3)) f4 f5 f6 f7) H := hP
                have hD : va_D A (wd_Model_prepare kA a0 a1 a2 a3 a4 a5 a6 a7 v0_0 v0_1 v0_2 v0_11 v0_12 v0_13 v0_14 v0_15 v0_16 v0_17 v0_18 v0_19 v0_20 v0_21 v0_22 v0_23 v0_24 v0_25 v0_26 v0_27 v0_28 x0_3 f1 (upd f2 (Int32.toNatClampNeg (f4 (Int32.toNatClampNeg l2))) (vp_nar .boolean 1)) (upd f3 (Int32.toNatClampNeg (f4 (Int32.toNatClampNeg l2))) ((f3 (Int32.toNatClampNeg (f4 (Int32.toNatClampNeg l2)))) ||| l3)) f4 f5 f6 f7) := hD
                refine lv_iinc (v := (l2 + 1)) (lv' := [(2, .int (l2 + 1)), (1, .int 0), (5, .int (f4 (Int32.toNatClampNeg l2))), (4, .int s0), (0, .ref a0), (3, .int l3)]) hx hb d_Model_prepare_372 hl (k := 4) rfl (by rfl) (by decide) rfl (fun ls hl => ?_)
                refine lv_goto (tgt := 223) hx hb d_Model_prepare_375 (by decide) ?_
                exact ih.2.2.2.2.2.1 0 (l2 + 1) 0 0 0 0 f1 (upd f2 (Int32.toNatClampNeg (f4 (Int32.toNatClampNeg l2))) (vp_nar .boolean 1)) (upd f3 (Int32.toNatClampNeg (f4 (Int32.toNatClampNeg l2))) ((f3 (Int32.toNatClampNeg (f4 (Int32.toNatClampNeg l2)))) ||| l3)) f7 hF _ _ _ hP hD hS (lv_sub hl [4, 1, 0] rfl)
              · rw [if_neg (fun z => z c_91)] at hF
                refine lv_iload hx hb d_Model_prepare_361 (lv_at hl 2 rfl) ?_
                refine lv_if_eq (tgt := 370) hx hb d_Model_prepare_363 (by decide) (fun c_93 => ?_) (fun c_93 => ?_)
                · rw [if_pos c_93] at hF
                  refine lv_iconst (v := 0) hx hb d_Model_prepare_370 (by decide) ?_
                  obtain ⟨h_94, hF⟩ := rd_chk hF
                  refine va_zast hx hb hK hP hD hS 2 1 rfl rfl h_94 d_Model_prepare_371 (fun H locs hP hD hS => ?_)
                  have hP : va_P (dC, dI) classes (wd_Model_prepare kA a0 a1 a2 a3 a4 a5 a6 a7 v0_0 v0_1 v0_2 v0_11 v0_12 v0_13 v0_14 v0_15 v0_16 v0_17 v0_18 v0_19 v0_20 v0_21 v0_22 v0_23 v0_24 v0_25 v0_26 v0_27 v0_28 x0_3 f1 (upd f2 (Int32.toNatClampNeg (f4 (Int32.toNatClampNeg l2))) (vp_nar .boolean 0)) (upd f3 (Int32.toNatClampNeg (f4 (Int32.toNatClampNeg l2))) ((f3 (Int32.toNatClampNeg (f4 (Int32.toNatClampNeg l2)))) ||| l3)) f4 f5 f6 f7) H := hP
                  have hD : va_D A (wd_Model_prepare kA a0 a1 a2 a3 a4 a5 a6 a7 v0_0 v0_1 v0_2 v0_11 v0_12 v0_13 v0_14 v0_15 v0_16 v0_17 v0_18 v0_19 v0_20 v0_21 v0_22 v0_23 v0_24 v0_25 v0_26 v0_27 v0_28 x0_3 f1 (upd f2 (Int32.toNatClampNeg (f4 (Int32.toNatClampNeg l2))) (vp_nar .boolean 0)) (upd f3 (Int32.toNatClampNeg (f4 (Int32.toNatClampNeg l2))) ((f3 (Int32.toNatClampNeg (f4 (Int32.toNatClampNeg l2)))) ||| l3)) f4 f5 f6 f7) := hD
                  refine lv_iinc (v := (l2 + 1)) (lv' := [(2, .int (l2 + 1)), (1, .int 0), (5, .int (f4 (Int32.toNatClampNeg l2))), (4, .int s0), (0, .ref a0), (3, .int l3)]) hx hb d_Model_prepare_372 hl (k := 4) rfl (by rfl) (by decide) rfl (fun ls hl => ?_)
                  refine lv_goto (tgt := 223) hx hb d_Model_prepare_375 (by decide) ?_
                  exact ih.2.2.2.2.2.1 0 (l2 + 1) 0 0 0 0 f1 (upd f2 (Int32.toNatClampNeg (f4 (Int32.toNatClampNeg l2))) (vp_nar .boolean 0)) (upd f3 (Int32.toNatClampNeg (f4 (Int32.toNatClampNeg l2))) ((f3 (Int32.toNatClampNeg (f4 (Int32.toNatClampNeg l2)))) ||| l3)) f7 hF _ _ _ hP hD hS (lv_sub hl [4, 1, 0] rfl)
                · rw [if_neg c_93] at hF
                  refine lv_iconst (v := 1) hx hb d_Model_prepare_366 (by decide) ?_
                  refine lv_goto (tgt := 371) hx hb d_Model_prepare_367 (by decide) ?_
                  obtain ⟨h_95, hF⟩ := rd_chk hF
                  refine va_zast hx hb hK hP hD hS 2 1 rfl rfl h_95 d_Model_prepare_371 (fun H locs hP hD hS => ?_)
                  have hP : va_P (dC, dI) classes (wd_Model_prepare kA a0 a1 a2 a3 a4 a5 a6 a7 v0_0 v0_1 v0_2 v0_11 v0_12 v0_13 v0_14 v0_15 v0_16 v0_17 v0_18 v0_19 v0_20 v0_21 v0_22 v0_23 v0_24 v0_25 v0_26 v0_27 v0_28 x0_3 f1 (upd f2 (Int32.toNatClampNeg (f4 (Int32.toNatClampNeg l2))) (vp_nar .boolean 1)) (upd f3 (Int32.toNatClampNeg (f4 (Int32.toNatClampNeg l2))) ((f3 (Int32.toNatClampNeg (f4 (Int32.toNatClampNeg l2)))) ||| l3)) f4 f5 f6 f7) H := hP
                  have hD : va_D A (wd_Model_prepare kA a0 a1 a2 a3 a4 a5 a6 a7 v0_0 v0_1 v0_2 v0_11 v0_12 v0_13 v0_14 v0_15 v0_16 v0_17 v0_18 v0_19 v0_20 v0_21 v0_22 v0_23 v0_24 v0_25 v0_26 v0_27 v0_28 x0_3 f1 (upd f2 (Int32.toNatClampNeg (f4 (Int32.toNatClampNeg l2))) (vp_nar .boolean 1)) (upd f3 (Int32.toNatClampNeg (f4 (Int32.toNatClampNeg l2))) ((f3 (Int32.toNatClampNeg (f4 (Int32.toNatClampNeg l2)))) ||| l3)) f4 f5 f6 f7) := hD
                  refine lv_iinc (v := (l2 + 1)) (lv' := [(2, .int (l2 + 1)), (1, .int 0), (5, .int (f4 (Int32.toNatClampNeg l2))), (4, .int s0), (0, .ref a0), (3, .int l3)]) hx hb d_Model_prepare_372 hl (k := 4) rfl (by rfl) (by decide) rfl (fun ls hl => ?_)
                  refine lv_goto (tgt := 223) hx hb d_Model_prepare_375 (by decide) ?_
                  exact ih.2.2.2.2.2.1 0 (l2 + 1) 0 0 0 0 f1 (upd f2 (Int32.toNatClampNeg (f4 (Int32.toNatClampNeg l2))) (vp_nar .boolean 1)) (upd f3 (Int32.toNatClampNeg (f4 (Int32.toNatClampNeg l2))) ((f3 (Int32.toNatClampNeg (f4 (Int32.toNatClampNeg l2)))) ||| l3)) f7 hF _ _ _ hP hD hS (lv_sub hl [4, 1, 0] rfl)
            · rw [if_neg (fun z => z c_87)] at hF
              exact ih.2.2.2.2.2.2.2.2.2 l1 l2 l3 s0 (f4 (Int32.toNatClampNeg l2)) 0 f1 f2 f3 f7 hF _ _ _ hP hD hS (lv_sub hl [2, 3, 4, 5, 1, 0] rfl)
    · intro l1 l2 l3 l4 l5 s0 f1 f2 f3 f7 hF H locs ls hP hD hS hl
      have hF : B_Model_prepare_9 (F_Model_prepare x0_3 f4 f5 f6 n) x0_3 f4 f5 f6 l1 l2 l3 l4 l5 s0 f1 f2 f3 f7 = some (of1, of2, of3, of7) := hF
      unfold B_Model_prepare_9 at hF
      refine lv_iconst (v := 1) hx hb d_Model_prepare_323 (by decide) ?_
      refine lv_goto (tgt := 328) hx hb d_Model_prepare_324 (by decide) ?_
      refine lv_istore_n (lv' := [(1, .int 1), (0, .ref a0), (2, .int l2), (3, .int l3), (4, .int l4), (5, .int l5)]) hx hb d_Model_prepare_328 rfl hl (by decide) rfl (fun ls hl => ?_)
      refine lv_aload_n hx hb d_Model_prepare_329 rfl (lv_at hl 1 rfl) ?_
      refine va_get (D := (dC, dI)) (ci := 9) (v := .ref a3) (C := R_Model) (T := F_Model) (N := 29) hx hb hg iw_Model hown hK hP 0 rfl rfl 10 (by decide) (hg _ gw_285) (fun _ h9 => h9) rfl d_Model_prepare_330 ?_
      refine lv_iload hx hb d_Model_prepare_333 (lv_at hl 5 rfl) ?_
      refine lv_aload_n hx hb d_Model_prepare_335 rfl (lv_at hl 1 rfl) ?_
      refine va_get (D := (dC, dI)) (ci := 9) (v := .ref a3) (C := R_Model) (T := F_Model) (N := 29) hx hb hg iw_Model hown hK hP 0 rfl rfl 10 (by decide) (hg _ gw_285) (fun _ h9 => h9) rfl d_Model_prepare_336 ?_
      refine lv_iload hx hb d_Model_prepare_339 (lv_at hl 5 rfl) ?_
      obtain ⟨h_96, hF⟩ := rd_chk hF
      refine va_iald hx hb hK hP 3 0 rfl rfl h_96 d_Model_prepare_341 ?_
      refine lv_iload_n hx hb d_Model_prepare_342 rfl (lv_at hl 3 rfl) ?_
      refine lv_ior hx hb d_Model_prepare_343 ?_
      obtain ⟨h_97, hF⟩ := rd_chk hF
      refine va_iast hx hb hK hP hD hS 3 0 rfl rfl h_97 d_Model_prepare_344 (fun H locs hP hD hS => ?_)
      have hP : va_P (dC, dI) classes (wd_Model_prepare kA a0 a1 a2 a3 a4 a5 a6 a7 v0_0 v0_1 v0_2 v0_11 v0_12 v0_13 v0_14 v0_15 v0_16 v0_17 v0_18 v0_19 v0_20 v0_21 v0_22 v0_23 v0_24 v0_25 v0_26 v0_27 v0_28 x0_3 f1 f2 (upd f3 (Int32.toNatClampNeg l5) ((f3 (Int32.toNatClampNeg l5)) ||| l3)) f4 f5 f6 f7) H := hP
      have hD : va_D A (wd_Model_prepare kA a0 a1 a2 a3 a4 a5 a6 a7 v0_0 v0_1 v0_2 v0_11 v0_12 v0_13 v0_14 v0_15 v0_16 v0_17 v0_18 v0_19 v0_20 v0_21 v0_22 v0_23 v0_24 v0_25 v0_26 v0_27 v0_28 x0_3 f1 f2 (upd f3 (Int32.toNatClampNeg l5) ((f3 (Int32.toNatClampNeg l5)) ||| l3)) f4 f5 f6 f7) := hD
      refine lv_aload_n hx hb d_Model_prepare_345 rfl (lv_at hl 1 rfl) ?_
      refine va_get (D := (dC, dI)) (ci := 9) (v := .ref a2) (C := R_Model) (T := F_Model) (N := 29) hx hb hg iw_Model hown hK hP 0 rfl rfl 9 (by decide) (hg _ gw_286) (fun _ h9 => h9) rfl d_Model_prepare_346 ?_
      refine lv_iload hx hb d_Model_prepare_349 (lv_at hl 5 rfl) ?_
      refine lv_aload_n hx hb d_Model_prepare_351 rfl (lv_at hl 1 rfl) ?_
      refine va_get (D := (dC, dI)) (ci := 9) (v := .ref a2) (C := R_Model) (T := F_Model) (N := 29) hx hb hg iw_Model hown hK hP 0 rfl rfl 9 (by decide) (hg _ gw_286) (fun _ h9 => h9) rfl d_Model_prepare_352 ?_
      refine lv_iload hx hb d_Model_prepare_355 (lv_at hl 5 rfl) ?_
      obtain ⟨h_98, hF⟩ := rd_chk hF
      refine va_zald hx hb hK hP 2 1 rfl rfl h_98 d_Model_prepare_357 ?_
      refine lv_if_ne (tgt := 366) hx hb d_Model_prepare_358 (by decide) (fun c_99 => ?_) (fun c_99 => ?_)
      · rw [if_pos c_99] at hF
        refine lv_iconst (v := 1) hx hb d_Model_prepare_366 (by decide) ?_
        refine lv_goto (tgt := 371) hx hb d_Model_prepare_367 (by decide) ?_
        obtain ⟨h_100, hF⟩ := rd_chk hF
        refine va_zast hx hb hK hP hD hS 2 1 rfl rfl h_100 d_Model_prepare_371 (fun H locs hP hD hS => ?_)
        have hP : va_P (dC, dI) classes (wd_Model_prepare kA a0 a1 a2 a3 a4 a5 a6 a7 v0_0 v0_1 v0_2 v0_11 v0_12 v0_13 v0_14 v0_15 v0_16 v0_17 v0_18 v0_19 v0_20 v0_21 v0_22 v0_23 v0_24 v0_25 v0_26 v0_27 v0_28 x0_3 f1 (upd f2 (Int32.toNatClampNeg l5) (vp_nar .boolean 1)) (upd f3 (Int32.toNatClampNeg l5) ((f3 (Int32.toNatClampNeg l5)) ||| l3)) f4 f5 f6 f7) H := hP
        have hD : va_D A (wd_Model_prepare kA a0 a1 a2 a3 a4 a5 a6 a7 v0_0 v0_1 v0_2 v0_11 v0_12 v0_13 v0_14 v0_15 v0_16 v0_17 v0_18 v0_19 v0_20 v0_21 v0_22 v0_23 v0_24 v0_25 v0_26 v0_27 v0_28 x0_3 f1 (upd f2 (Int32.toNatClampNeg l5) (vp_nar .boolean 1)) (upd f3 (Int32.toNatClampNeg l5) ((f3 (Int32.toNatClampNeg l5)) ||| l3)) f4 f5 f6 f7) := hD
        refine lv_iinc (v := (l2 + 1)) (lv' := [(2, .int (l2 + 1)), (1, .int 1), (0, .ref a0), (3, .int l3), (4, .int l4), (5, .int l5)]) hx hb d_Model_prepare_372 hl (k := 2) rfl (by rfl) (by decide) rfl (fun ls hl => ?_)
        refine lv_goto (tgt := 223) hx hb d_Model_prepare_375 (by decide) ?_
        exact ih.2.2.2.2.2.1 1 (l2 + 1) 0 0 0 0 f1 (upd f2 (Int32.toNatClampNeg l5) (vp_nar .boolean 1)) (upd f3 (Int32.toNatClampNeg l5) ((f3 (Int32.toNatClampNeg l5)) ||| l3)) f7 hF _ _ _ hP hD hS (lv_sub hl [2, 1, 0] rfl)
      · rw [if_neg (fun z => z c_99)] at hF
        refine lv_iload hx hb d_Model_prepare_361 (lv_at hl 4 rfl) ?_
        refine lv_if_eq (tgt := 370) hx hb d_Model_prepare_363 (by decide) (fun c_101 => ?_) (fun c_101 => ?_)
        · rw [if_pos c_101] at hF
          refine lv_iconst (v := 0) hx hb d_Model_prepare_370 (by decide) ?_
          obtain ⟨h_102, hF⟩ := rd_chk hF
          refine va_zast hx hb hK hP hD hS 2 1 rfl rfl h_102 d_Model_prepare_371 (fun H locs hP hD hS => ?_)
          have hP : va_P (dC, dI) classes (wd_Model_prepare kA a0 a1 a2 a3 a4 a5 a6 a7 v0_0 v0_1 v0_2 v0_11 v0_12 v0_13 v0_14 v0_15 v0_16 v0_17 v0_18 v0_19 v0_20 v0_21 v0_22 v0_23 v0_24 v0_25 v0_26 v0_27 v0_28 x0_3 f1 (upd f2 (Int32.toNatClampNeg l5) (vp_nar .boolean 0)) (upd f3 (Int32.toNatClampNeg l5) ((f3 (Int32.toNatClampNeg l5)) ||| l3)) f4 f5 f6 f7) H := hP
          have hD : va_D A (wd_Model_prepare kA a0 a1 a2 a3 a4 a5 a6 a7 v0_0 v0_1 v0_2 v0_11 v0_12 v0_13 v0_14 v0_15 v0_16 v0_17 v0_18 v0_19 v0_20 v0_21 v0_22 v0_23 v0_24 v0_25 v0_26 v0_27 v0_28 x0_3 f1 (upd f2 (Int32.toNatClampNeg l5) (vp_nar .boolean 0)) (upd f3 (Int32.toNatClampNeg l5) ((f3 (Int32.toNatClampNeg l5)) ||| l3)) f4 f5 f6 f7) := hD
          refine lv_iinc (v := (l2 + 1)) (lv' := [(2, .int (l2 + 1)), (1, .int 1), (0, .ref a0), (3, .int l3), (4, .int l4), (5, .int l5)]) hx hb d_Model_prepare_372 hl (k := 2) rfl (by rfl) (by decide) rfl (fun ls hl => ?_)
          refine lv_goto (tgt := 223) hx hb d_Model_prepare_375 (by decide) ?_
          exact ih.2.2.2.2.2.1 1 (l2 + 1) 0 0 0 0 f1 (upd f2 (Int32.toNatClampNeg l5) (vp_nar .boolean 0)) (upd f3 (Int32.toNatClampNeg l5) ((f3 (Int32.toNatClampNeg l5)) ||| l3)) f7 hF _ _ _ hP hD hS (lv_sub hl [2, 1, 0] rfl)
        · rw [if_neg c_101] at hF
          refine lv_iconst (v := 1) hx hb d_Model_prepare_366 (by decide) ?_
          refine lv_goto (tgt := 371) hx hb d_Model_prepare_367 (by decide) ?_
          obtain ⟨h_103, hF⟩ := rd_chk hF
          refine va_zast hx hb hK hP hD hS 2 1 rfl rfl h_103 d_Model_prepare_371 (fun H locs hP hD hS => ?_)
          have hP : va_P (dC, dI) classes (wd_Model_prepare kA a0 a1 a2 a3 a4 a5 a6 a7 v0_0 v0_1 v0_2 v0_11 v0_12 v0_13 v0_14 v0_15 v0_16 v0_17 v0_18 v0_19 v0_20 v0_21 v0_22 v0_23 v0_24 v0_25 v0_26 v0_27 v0_28 x0_3 f1 (upd f2 (Int32.toNatClampNeg l5) (vp_nar .boolean 1)) (upd f3 (Int32.toNatClampNeg l5) ((f3 (Int32.toNatClampNeg l5)) ||| l3)) f4 f5 f6 f7) H := hP
          have hD : va_D A (wd_Model_prepare kA a0 a1 a2 a3 a4 a5 a6 a7 v0_0 v0_1 v0_2 v0_11 v0_12 v0_13 v0_14 v0_15 v0_16 v0_17 v0_18 v0_19 v0_20 v0_21 v0_22 v0_23 v0_24 v0_25 v0_26 v0_27 v0_28 x0_3 f1 (upd f2 (Int32.toNatClampNeg l5) (vp_nar .boolean 1)) (upd f3 (Int32.toNatClampNeg l5) ((f3 (Int32.toNatClampNeg l5)) ||| l3)) f4 f5 f6 f7) := hD
          refine lv_iinc (v := (l2 + 1)) (lv' := [(2, .int (l2 + 1)), (1, .int 1), (0, .ref a0), (3, .int l3), (4, .int l4), (5, .int l5)]) hx hb d_Model_prepare_372 hl (k := 2) rfl (by rfl) (by decide) rfl (fun ls hl => ?_)
          refine lv_goto (tgt := 223) hx hb d_Model_prepare_375 (by decide) ?_
          exact ih.2.2.2.2.2.1 1 (l2 + 1) 0 0 0 0 f1 (upd f2 (Int32.toNatClampNeg l5) (vp_nar .boolean 1)) (upd f3 (Int32.toNatClampNeg l5) ((f3 (Int32.toNatClampNeg l5)) ||| l3)) f7 hF _ _ _ hP hD hS (lv_sub hl [2, 1, 0] rfl)
def S_Model_prepare (x0_3 : Int32) (f1 : (Nat → Int32)) (f2 : (Nat → Int32)) (f3 : (Nat → Int32)) (f4 : (Nat → Int32)) (f5 : (Nat → Int32)) (f6 : (Nat → Int32)) (f7 : (Nat → Int32)) : Option ((Nat → Int32) × (Nat → Int32) × (Nat → Int32) × (Nat → Int32)) := (F_Model_prepare x0_3 f4 f5 f6 fuel_ 0 0 0 0 0 0 0 f1 f2 f3 f7)
set_option maxHeartbeats 4000000 in
set_option maxRecDepth 100000 in
theorem c_Model_prepare (l : Launch) (dC : Nat → ClassId) (dI : Nat → Nat → Nat) (kA : Nat → ClassId) (sz : Nat) (a0 a1 a2 a3 a4 a5 a6 a7 : Nat) (v0_0 v0_1 v0_2 v0_11 v0_12 v0_13 v0_14 v0_15 v0_16 v0_17 v0_18 v0_19 v0_20 v0_21 v0_22 v0_23 v0_24 v0_25 v0_26 v0_27 v0_28 : Value) (x0_3 : Int32) (f1 : (Nat → Int32)) (f2 : (Nat → Int32)) (f3 : (Nat → Int32)) (f4 : (Nat → Int32)) (f5 : (Nat → Int32)) (f6 : (Nat → Int32)) (f7 : (Nat → Int32)) (of1 : (Nat → Int32)) (of2 : (Nat → Int32)) (of3 : (Nat → Int32)) (of7 : (Nat → Int32)) (hF : S_Model_prepare x0_3 f1 f2 f3 f4 f5 f6 f7 = some (of1, of2, of3, of7)) : Met l y_Model_prepare w_Model_prepare rm_Model_prepare (va_Pc [.ref a0] (fun U => U.heap.size = sz ∧ va_P (dC, dI) classes (wd_Model_prepare kA a0 a1 a2 a3 a4 a5 a6 a7 v0_0 v0_1 v0_2 v0_11 v0_12 v0_13 v0_14 v0_15 v0_16 v0_17 v0_18 v0_19 v0_20 v0_21 v0_22 v0_23 v0_24 v0_25 v0_26 v0_27 v0_28 x0_3 f1 f2 f3 f4 f5 f6 f7) U.heap ∧ va_K (dC, dI) classes (tys_ kA) U ∧ va_D (fun _ => True) (wd_Model_prepare kA a0 a1 a2 a3 a4 a5 a6 a7 v0_0 v0_1 v0_2 v0_11 v0_12 v0_13 v0_14 v0_15 v0_16 v0_17 v0_18 v0_19 v0_20 v0_21 v0_22 v0_23 v0_24 v0_25 v0_26 v0_27 v0_28 x0_3 f1 f2 f3 f4 f5 f6 f7))) (va_Qv (fun (_ : Unit) => True) (fun _ t => va_P (dC, dI) classes (wd_Model_prepare kA a0 a1 a2 a3 a4 a5 a6 a7 v0_0 v0_1 v0_2 v0_11 v0_12 v0_13 v0_14 v0_15 v0_16 v0_17 v0_18 v0_19 v0_20 v0_21 v0_22 v0_23 v0_24 v0_25 v0_26 v0_27 v0_28 x0_3 of1 of2 of3 f4 f5 f6 of7) t.heap ∧ va_K (dC, dI) classes (tys_ kA) t ∧ va_D (va_A (wd_Model_prepare kA a0 a1 a2 a3 a4 a5 a6 a7 v0_0 v0_1 v0_2 v0_11 v0_12 v0_13 v0_14 v0_15 v0_16 v0_17 v0_18 v0_19 v0_20 v0_21 v0_22 v0_23 v0_24 v0_25 v0_26 v0_27 v0_28 x0_3 f1 f2 f3 f4 f5 f6 f7) sz) (wd_Model_prepare kA a0 a1 a2 a3 a4 a5 a6 a7 v0_0 v0_1 v0_2 v0_11 v0_12 v0_13 v0_14 v0_15 v0_16 v0_17 v0_18 v0_19 v0_20 v0_21 v0_22 v0_23 v0_24 v0_25 v0_26 v0_27 v0_28 x0_3 of1 of2 of3 f4 f5 f6 of7)) (va_A (wd_Model_prepare kA a0 a1 a2 a3 a4 a5 a6 a7 v0_0 v0_1 v0_2 v0_11 v0_12 v0_13 v0_14 v0_15 v0_16 v0_17 v0_18 v0_19 v0_20 v0_21 v0_22 v0_23 v0_24 v0_25 v0_26 v0_27 v0_28 x0_3 f1 f2 f3 f4 f5 f6 f7) sz)) 0 0 (va_A (wd_Model_prepare kA a0 a1 a2 a3 a4 a5 a6 a7 v0_0 v0_1 v0_2 v0_11 v0_12 v0_13 v0_14 v0_15 v0_16 v0_17 v0_18 v0_19 v0_20 v0_21 v0_22 v0_23 v0_24 v0_25 v0_26 v0_27 v0_28 x0_3 f1 f2 f3 f4 f5 f6 f7) sz) := by
  refine Met.ofW (cc := b_Model_prepare) (maxL := 6) (ret := none) (by decide) rfl ?_
  intro p e s m args below meth c s₁ B hml hv
  obtain ⟨rfl, hsz, hP, hK, hD0⟩ := hv
  have hx := B.exec
  have hb := B.bytes
  have hr := B.returns
  have hts := atoms_spec (ws := w_Model_prepare) B.pre
  have hown : s.vm.findClass R_Model = some m.cls := findClass_of_methodNamed B.named
  have hg := fun (w : Cond) (h : w ∈ gw) => hts w (List.mem_cons_of_mem _ h)
  have hlocks := B.notSynchronized
  subst hsz
  have hD := hD0.self (sz := s.heap.size)
  generalize hAe : va_A (wd_Model_prepare kA a0 a1 a2 a3 a4 a5 a6 a7 v0_0 v0_1 v0_2 v0_11 v0_12 v0_13 v0_14 v0_15 v0_16 v0_17 v0_18 v0_19 v0_20 v0_21 v0_22 v0_23 v0_24 v0_25 v0_26 v0_27 v0_28 x0_3 f1 f2 f3 f4 f5 f6 f7) s.heap.size = A at hD ⊢
  have hA : ∀ q : Nat, s.heap.size ≤ q → A q := fun q h => by rw [← hAe]; exact Or.inr h
  have hS : va_S A s.heap s.heap [] := va_S.rf
  have hl := lv_entry ([.ref a0]) (n := 6) (Nat.le_of_ble_eq_true rfl)
  rw [lg_entry_eq]
  generalize (lg_sl ([.ref a0]) ++ List.replicate (6 - (lg_sl ([.ref a0])).length) Slot.unset).toArray = ls at hl ⊢
  have hl : lv_has ls 6 [(0, .ref a0)] := hl
  unfold S_Model_prepare at hF
  have ih := L_Model_prepare (l := l) (e := e) (below := below) hx hb hr hlocks hml hown hts hA hK a0 a1 a2 a3 a4 a5 a6 a7 v0_0 v0_1 v0_2 v0_11 v0_12 v0_13 v0_14 v0_15 v0_16 v0_17 v0_18 v0_19 v0_20 v0_21 v0_22 v0_23 v0_24 v0_25 v0_26 v0_27 v0_28 x0_3 f4 f5 f6 of1 of2 of3 of7 fuel_
  refine lv_iconst (v := 0) hx hb d_Model_prepare_0 (by decide) ?_
  refine lv_istore_n (lv' := [(1, .int 0), (0, .ref a0)]) hx hb d_Model_prepare_1 rfl hl (by decide) rfl (fun ls hl => ?_)
  exact ih.1 0 0 0 0 0 0 f1 f2 f3 f7 hF _ _ _ hP hD hS (lv_sub hl [1, 0] rfl)
