-- ===== java/lang/Integer.bitCount(I)I
abbrev wd_Integer_bitCount (kA : Nat → ClassId) : va_W := []
abbrev rm_Integer_bitCount : Room := { frames := 0, cells := 0, slots := 0, locals := 0 }
def S_Integer_bitCount (p0 : Int32) : Option (Int32) := (some ((((((((p0 - ((Int32.toUInt32 p0 >>> (Int32.toUInt32 1 &&& Int32.toUInt32 31)).toInt32 &&& 1431655765)) &&& 858993459) + ((Int32.toUInt32 (p0 - ((Int32.toUInt32 p0 >>> (Int32.toUInt32 1 &&& Int32.toUInt32 31)).toInt32 &&& 1431655765)) >>> (Int32.toUInt32 2 &&& Int32.toUInt32 31)).toInt32 &&& 858993459)) + (Int32.toUInt32 (((p0 - ((Int32.toUInt32 p0 >>> (Int32.toUInt32 1 &&& Int32.toUInt32 31)).toInt32 &&& 1431655765)) &&& 858993459) + ((Int32.toUInt32 (p0 - ((Int32.toUInt32 p0 >>> (Int32.toUInt32 1 &&& Int32.toUInt32 31)).toInt32 &&& 1431655765)) >>> (Int32.toUInt32 2 &&& Int32.toUInt32 31)).toInt32 &&& 858993459)) >>> (Int32.toUInt32 4 &&& Int32.toUInt32 31)).toInt32) &&& 252645135) + (Int32.toUInt32 (((((p0 - ((Int32.toUInt32 p0 >>> (Int32.toUInt32 1 &&& Int32.toUInt32 31)).toInt32 &&& 1431655765)) &&& 858993459) + ((Int32.toUInt32 (p0 - ((Int32.toUInt32 p0 >>> (Int32.toUInt32 1 &&& Int32.toUInt32 31)).toInt32 &&& 1431655765)) >>> (Int32.toUInt32 2 &&& Int32.toUInt32 31)).toInt32 &&& 858993459)) + (Int32.toUInt32 (((p0 - ((Int32.toUInt32 p0 >>> (Int32.toUInt32 1 &&& Int32.toUInt32 31)).toInt32 &&& 1431655765)) &&& 858993459) + ((Int32.toUInt32 (p0 - ((Int32.toUInt32 p0 >>> (Int32.toUInt32 1 &&& Int32.toUInt32 31)).toInt32 &&& 1431655765)) >>> (Int32.toUInt32 2 &&& Int32.toUInt32 31)).toInt32 &&& 858993459)) >>> (Int32.toUInt32 4 &&& Int32.toUInt32 31)).toInt32) &&& 252645135) >>> (Int32.toUInt32 8 &&& Int32.toUInt32 31)).toInt32) + (Int32.toUInt32 ((((((p0 - ((Int32.toUInt32 p0 >>> (Int32.toUInt32 1 &&& Int32.toUInt32 31)).toInt32 &&& 1431655765)) &&& 858993459) + ((Int32.toUInt32 (p0 - ((Int32.toUInt32 p0 >>> (Int32.toUInt32 1 &&& Int32.toUInt32 31)).toInt32 &&& 1431655765)) >>> (Int32.toUInt32 2 &&& Int32.toUInt32 31)).toInt32 &&& 858993459)) + (Int32.toUInt32 (((p0 - ((Int32.toUInt32 p0 >>> (Int32.toUInt32 1 &&& Int32.toUInt32 31)).toInt32 &&& 1431655765)) &&& 858993459) + ((Int32.toUInt32 (p0 - ((Int32.toUInt32 p0 >>> (Int32.toUInt32 1 &&& Int32.toUInt32 31)).toInt32 &&& 1431655765)) >>> (Int32.toUInt32 2 &&& Int32.toUInt32 31)).toInt32 &&& 858993459)) >>> (Int32.toUInt32 4 &&& Int32.toUInt32 31)).toInt32) &&& 252645135) + (Int32.toUInt32 (((((p0 - ((Int32.toUInt32 p0 >>> (Int32.toUInt32 1 &&& Int32.toUInt32 31)).toInt32 &&& 1431655765)) &&& 858993459) + ((Int32.toUInt32 (p0 - ((Int32.toUInt32 p0 >>> (Int32.toUInt32 1 &&& Int32.toUInt32 31)).toInt32 &&& 1431655765)) >>> (Int32.toUInt32 2 &&& Int32.toUInt32 31)).toInt32 &&& 858993459)) + (Int32.toUInt32 (((p0 - ((Int32.toUInt32 p0 >>> (Int32.toUInt32 1 &&& Int32.toUInt32 31)).toInt32 &&& 1431655765)) &&& 858993459) + ((Int32.toUInt32 (p0 - ((Int32.toUInt32 p0 >>> (Int32.toUInt32 1 &&& Int32.toUInt32 31)).toInt32 &&& 1431655765)) >>> (Int32.toUInt32 2 &&& Int32.toUInt32 31)).toInt32 &&& 858993459)) >>> (Int32.toUInt32 4 &&& Int32.toUInt32 31)).toInt32) &&& 252645135) >>> (Int32.toUInt32 8 &&& Int32.toUInt32 31)).toInt32) >>> (Int32.toUInt32 16 &&& Int32.toUInt32 31)).toInt32) &&& 63))
set_option maxHeartbeats 4000000 in
set_option maxRecDepth 100000 in
theorem c_Integer_bitCount (l : Launch) (dC : Nat → ClassId) (dI : Nat → Nat → Nat) (kA : Nat → ClassId) (sz : Nat) (p0 : Int32) (r : Int32) (hF : S_Integer_bitCount p0 = some r) : Met l y_Integer_bitCount w_Integer_bitCount rm_Integer_bitCount (va_Pc [.int p0] (fun U => U.heap.size = sz ∧ va_P (dC, dI) classes (wd_Integer_bitCount kA ) U.heap ∧ va_K (dC, dI) classes (tys_ kA) U ∧ va_D (fun _ => True) (wd_Integer_bitCount kA ))) (va_Qi (fun (r1 : Int32) (_ : Unit) => r1 = r) (fun _ t => va_P (dC, dI) classes (wd_Integer_bitCount kA ) t.heap ∧ va_K (dC, dI) classes (tys_ kA) t ∧ va_D (va_A (wd_Integer_bitCount kA ) sz) (wd_Integer_bitCount kA )) (va_A (wd_Integer_bitCount kA ) sz)) 0 0 (va_A (wd_Integer_bitCount kA ) sz) := by
  refine Met.ofW (cc := b_Integer_bitCount) (maxL := 1) (ret := some .int) (by decide) rfl ?_
  intro p e s m args below meth c s₁ B hml hv
  obtain ⟨rfl, hsz, hP, hK, hD0⟩ := hv
  have hx := B.exec
  have hb := B.bytes
  have hr := B.returns
  have hts := atoms_spec (ws := w_Integer_bitCount) B.pre
  have hown : s.vm.findClass R_Integer = some m.cls := findClass_of_methodNamed B.named
  have hg := fun (w : Cond) (h : w ∈ gw) => hts w (List.mem_cons_of_mem _ h)
  have hlocks := B.notSynchronized
  subst hsz
  have hD := hD0.self (sz := s.heap.size)
  generalize hAe : va_A (wd_Integer_bitCount kA ) s.heap.size = A at hD ⊢
  have hA : ∀ q : Nat, s.heap.size ≤ q → A q := fun q h => by rw [← hAe]; exact Or.inr h
  have hS : va_S A s.heap s.heap [] := va_S.rf
  have hl := lv_entry ([.int p0]) (n := 1) (Nat.le_of_ble_eq_true rfl)
  rw [lg_entry_eq]
  generalize (lg_sl ([.int p0]) ++ List.replicate (1 - (lg_sl ([.int p0])).length) Slot.unset).toArray = ls at hl ⊢
  have hl : lv_has ls 1 [(0, .int p0)] := hl
  unfold S_Integer_bitCount at hF
  refine lv_iload_n hx hb d_Integer_bitCount_0 rfl (lv_at hl 0 rfl) ?_
  refine lv_iload_n hx hb d_Integer_bitCount_1 rfl (lv_at hl 0 rfl) ?_
  refine lv_iconst (v := 1) hx hb d_Integer_bitCount_2 (by decide) ?_
  refine lv_iushr hx hb d_Integer_bitCount_3 rfl ?_
  refine lv_ldcw (own := R_Integer) (v := 1431655765) hx hb hown (hg _ gw_0) d_Integer_bitCount_4 ?_
  refine lv_iand hx hb d_Integer_bitCount_7 ?_
  refine lv_isub hx hb d_Integer_bitCount_8 ?_
  refine lv_istore_n (lv' := [(0, .int (p0 - ((Int32.toUInt32 p0 >>> (Int32.toUInt32 1 &&& Int32.toUInt32 31)).toInt32 &&& 1431655765)))]) hx hb d_Integer_bitCount_9 rfl hl (by decide) rfl (fun ls hl => ?_)
  refine lv_iload_n hx hb d_Integer_bitCount_10 rfl (lv_at hl 0 rfl) ?_
  refine lv_ldcw (own := R_Integer) (v := 858993459) hx hb hown (hg _ gw_1) d_Integer_bitCount_11 ?_
  refine lv_iand hx hb d_Integer_bitCount_14 ?_
  refine lv_iload_n hx hb d_Integer_bitCount_15 rfl (lv_at hl 0 rfl) ?_
  refine lv_iconst (v := 2) hx hb d_Integer_bitCount_16 (by decide) ?_
  refine lv_iushr hx hb d_Integer_bitCount_17 rfl ?_
  refine lv_ldcw (own := R_Integer) (v := 858993459) hx hb hown (hg _ gw_1) d_Integer_bitCount_18 ?_
  refine lv_iand hx hb d_Integer_bitCount_21 ?_
  refine lv_iadd hx hb d_Integer_bitCount_22 ?_
  refine lv_istore_n (lv' := [(0, .int (((p0 - ((Int32.toUInt32 p0 >>> (Int32.toUInt32 1 &&& Int32.toUInt32 31)).toInt32 &&& 1431655765)) &&& 858993459) + ((Int32.toUInt32 (p0 - ((Int32.toUInt32 p0 >>> (Int32.toUInt32 1 &&& Int32.toUInt32 31)).toInt32 &&& 1431655765)) >>> (Int32.toUInt32 2 &&& Int32.toUInt32 31)).toInt32 &&& 858993459)))]) hx hb d_Integer_bitCount_23 rfl hl (by decide) rfl (fun ls hl => ?_)
  refine lv_iload_n hx hb d_Integer_bitCount_24 rfl (lv_at hl 0 rfl) ?_
  refine lv_iload_n hx hb d_Integer_bitCount_25 rfl (lv_at hl 0 rfl) ?_
  refine lv_iconst (v := 4) hx hb d_Integer_bitCount_26 (by decide) ?_
  refine lv_iushr hx hb d_Integer_bitCount_27 rfl ?_
  refine lv_iadd hx hb d_Integer_bitCount_28 ?_
  refine lv_ldcw (own := R_Integer) (v := 252645135) hx hb hown (hg _ gw_2) d_Integer_bitCount_29 ?_
  refine lv_iand hx hb d_Integer_bitCount_32 ?_
  refine lv_istore_n (lv' := [(0, .int (((((p0 - ((Int32.toUInt32 p0 >>> (Int32.toUInt32 1 &&& Int32.toUInt32 31)).toInt32 &&& 1431655765)) &&& 858993459) + ((Int32.toUInt32 (p0 - ((Int32.toUInt32 p0 >>> (Int32.toUInt32 1 &&& Int32.toUInt32 31)).toInt32 &&& 1431655765)) >>> (Int32.toUInt32 2 &&& Int32.toUInt32 31)).toInt32 &&& 858993459)) + (Int32.toUInt32 (((p0 - ((Int32.toUInt32 p0 >>> (Int32.toUInt32 1 &&& Int32.toUInt32 31)).toInt32 &&& 1431655765)) &&& 858993459) + ((Int32.toUInt32 (p0 - ((Int32.toUInt32 p0 >>> (Int32.toUInt32 1 &&& Int32.toUInt32 31)).toInt32 &&& 1431655765)) >>> (Int32.toUInt32 2 &&& Int32.toUInt32 31)).toInt32 &&& 858993459)) >>> (Int32.toUInt32 4 &&& Int32.toUInt32 31)).toInt32) &&& 252645135))]) hx hb d_Integer_bitCount_33 rfl hl (by decide) rfl (fun ls hl => ?_)
  refine lv_iload_n hx hb d_Integer_bitCount_34 rfl (lv_at hl 0 rfl) ?_
  refine lv_iload_n hx hb d_Integer_bitCount_35 rfl (lv_at hl 0 rfl) ?_
  refine lv_bipush (v := 8) hx hb d_Integer_bitCount_36 (by decide) ?_
  refine lv_iushr hx hb d_Integer_bitCount_38 rfl ?_
  refine lv_iadd hx hb d_Integer_bitCount_39 ?_
  refine lv_istore_n (lv' := [(0, .int ((((((p0 - ((Int32.toUInt32 p0 >>> (Int32.toUInt32 1 &&& Int32.toUInt32 31)).toInt32 &&& 1431655765)) &&& 858993459) + ((Int32.toUInt32 (p0 - ((Int32.toUInt32 p0 >>> (Int32.toUInt32 1 &&& Int32.toUInt32 31)).toInt32 &&& 1431655765)) >>> (Int32.toUInt32 2 &&& Int32.toUInt32 31)).toInt32 &&& 858993459)) + (Int32.toUInt32 (((p0 - ((Int32.toUInt32 p0 >>> (Int32.toUInt32 1 &&& Int32.toUInt32 31)).toInt32 &&& 1431655765)) &&& 858993459) + ((Int32.toUInt32 (p0 - ((Int32.toUInt32 p0 >>> (Int32.toUInt32 1 &&& Int32.toUInt32 31)).toInt32 &&& 1431655765)) >>> (Int32.toUInt32 2 &&& Int32.toUInt32 31)).toInt32 &&& 858993459)) >>> (Int32.toUInt32 4 &&& Int32.toUInt32 31)).toInt32) &&& 252645135) + (Int32.toUInt32 (((((p0 - ((Int32.toUInt32 p0 >>> (Int32.toUInt32 1 &&& Int32.toUInt32 31)).toInt32 &&& 1431655765)) &&& 858993459) + ((Int32.toUInt32 (p0 - ((Int32.toUInt32 p0 >>> (Int32.toUInt32 1 &&& Int32.toUInt32 31)).toInt32 &&& 1431655765)) >>> (Int32.toUInt32 2 &&& Int32.toUInt32 31)).toInt32 &&& 858993459)) + (Int32.toUInt32 (((p0 - ((Int32.toUInt32 p0 >>> (Int32.toUInt32 1 &&& Int32.toUInt32 31)).toInt32 &&& 1431655765)) &&& 858993459) + ((Int32.toUInt32 (p0 - ((Int32.toUInt32 p0 >>> (Int32.toUInt32 1 &&& Int32.toUInt32 31)).toInt32 &&& 1431655765)) >>> (Int32.toUInt32 2 &&& Int32.toUInt32 31)).toInt32 &&& 858993459)) >>> (Int32.toUInt32 4 &&& Int32.toUInt32 31)).toInt32) &&& 252645135) >>> (Int32.toUInt32 8 &&& Int32.toUInt32 31)).toInt32))]) hx hb d_Integer_bitCount_40 rfl hl (by decide) rfl (fun ls hl => ?_)
  refine lv_iload_n hx hb d_Integer_bitCount_41 rfl (lv_at hl 0 rfl) ?_
  refine lv_iload_n hx hb d_Integer_bitCount_42 rfl (lv_at hl 0 rfl) ?_
  refine lv_bipush (v := 16) hx hb d_Integer_bitCount_43 (by decide) ?_
  refine lv_iushr hx hb d_Integer_bitCount_45 rfl ?_
  refine lv_iadd hx hb d_Integer_bitCount_46 ?_
  refine lv_istore_n (lv' := [(0, .int (((((((p0 - ((Int32.toUInt32 p0 >>> (Int32.toUInt32 1 &&& Int32.toUInt32 31)).toInt32 &&& 1431655765)) &&& 858993459) + ((Int32.toUInt32 (p0 - ((Int32.toUInt32 p0 >>> (Int32.toUInt32 1 &&& Int32.toUInt32 31)).toInt32 &&& 1431655765)) >>> (Int32.toUInt32 2 &&& Int32.toUInt32 31)).toInt32 &&& 858993459)) + (Int32.toUInt32 (((p0 - ((Int32.toUInt32 p0 >>> (Int32.toUInt32 1 &&& Int32.toUInt32 31)).toInt32 &&& 1431655765)) &&& 858993459) + ((Int32.toUInt32 (p0 - ((Int32.toUInt32 p0 >>> (Int32.toUInt32 1 &&& Int32.toUInt32 31)).toInt32 &&& 1431655765)) >>> (Int32.toUInt32 2 &&& Int32.toUInt32 31)).toInt32 &&& 858993459)) >>> (Int32.toUInt32 4 &&& Int32.toUInt32 31)).toInt32) &&& 252645135) + (Int32.toUInt32 (((((p0 - ((Int32.toUInt32 p0 >>> (Int32.toUInt32 1 &&& Int32.toUInt32 31)).toInt32 &&& 1431655765)) &&& 858993459) + ((Int32.toUInt32 (p0 - ((Int32.toUInt32 p0 >>> (Int32.toUInt32 1 &&& Int32.toUInt32 31)).toInt32 &&& 1431655765)) >>> (Int32.toUInt32 2 &&& Int32.toUInt32 31)).toInt32 &&& 858993459)) + (Int32.toUInt32 (((p0 - ((Int32.toUInt32 p0 >>> (Int32.toUInt32 1 &&& Int32.toUInt32 31)).toInt32 &&& 1431655765)) &&& 858993459) + ((Int32.toUInt32 (p0 - ((Int32.toUInt32 p0 >>> (Int32.toUInt32 1 &&& Int32.toUInt32 31)).toInt32 &&& 1431655765)) >>> (Int32.toUInt32 2 &&& Int32.toUInt32 31)).toInt32 &&& 858993459)) >>> (Int32.toUInt32 4 &&& Int32.toUInt32 31)).toInt32) &&& 252645135) >>> (Int32.toUInt32 8 &&& Int32.toUInt32 31)).toInt32) + (Int32.toUInt32 ((((((p0 - ((Int32.toUInt32 p0 >>> (Int32.toUInt32 1 &&& Int32.toUInt32 31)).toInt32 &&& 1431655765)) &&& 858993459) + ((Int32.toUInt32 (p0 - ((Int32.toUInt32 p0 >>> (Int32.toUInt32 1 &&& Int32.toUInt32 31)).toInt32 &&& 1431655765)) >>> (Int32.toUInt32 2 &&& Int32.toUInt32 31)).toInt32 &&& 858993459)) + (Int32.toUInt32 (((p0 - ((Int32.toUInt32 p0 >>> (Int32.toUInt32 1 &&& Int32.toUInt32 31)).toInt32 &&& 1431655765)) &&& 858993459) + ((Int32.toUInt32 (p0 - ((Int32.toUInt32 p0 >>> (Int32.toUInt32 1 &&& Int32.toUInt32 31)).toInt32 &&& 1431655765)) >>> (Int32.toUInt32 2 &&& Int32.toUInt32 31)).toInt32 &&& 858993459)) >>> (Int32.toUInt32 4 &&& Int32.toUInt32 31)).toInt32) &&& 252645135) + (Int32.toUInt32 (((((p0 - ((Int32.toUInt32 p0 >>> (Int32.toUInt32 1 &&& Int32.toUInt32 31)).toInt32 &&& 1431655765)) &&& 858993459) + ((Int32.toUInt32 (p0 - ((Int32.toUInt32 p0 >>> (Int32.toUInt32 1 &&& Int32.toUInt32 31)).toInt32 &&& 1431655765)) >>> (Int32.toUInt32 2 &&& Int32.toUInt32 31)).toInt32 &&& 858993459)) + (Int32.toUInt32 (((p0 - ((Int32.toUInt32 p0 >>> (Int32.toUInt32 1 &&& Int32.toUInt32 31)).toInt32 &&& 1431655765)) &&& 858993459) + ((Int32.toUInt32 (p0 - ((Int32.toUInt32 p0 >>> (Int32.toUInt32 1 &&& Int32.toUInt32 31)).toInt32 &&& 1431655765)) >>> (Int32.toUInt32 2 &&& Int32.toUInt32 31)).toInt32 &&& 858993459)) >>> (Int32.toUInt32 4 &&& Int32.toUInt32 31)).toInt32) &&& 252645135) >>> (Int32.toUInt32 8 &&& Int32.toUInt32 31)).toInt32) >>> (Int32.toUInt32 16 &&& Int32.toUInt32 31)).toInt32))]) hx hb d_Integer_bitCount_47 rfl hl (by decide) rfl (fun ls hl => ?_)
  refine lv_iload_n hx hb d_Integer_bitCount_48 rfl (lv_at hl 0 rfl) ?_
  refine lv_bipush (v := 63) hx hb d_Integer_bitCount_49 (by decide) ?_
  refine lv_iand hx hb d_Integer_bitCount_51 ?_
  have e0 := Option.some.inj hF
  exact W.iret (v := ((((((((p0 - ((Int32.toUInt32 p0 >>> (Int32.toUInt32 1 &&& Int32.toUInt32 31)).toInt32 &&& 1431655765)) &&& 858993459) + ((Int32.toUInt32 (p0 - ((Int32.toUInt32 p0 >>> (Int32.toUInt32 1 &&& Int32.toUInt32 31)).toInt32 &&& 1431655765)) >>> (Int32.toUInt32 2 &&& Int32.toUInt32 31)).toInt32 &&& 858993459)) + (Int32.toUInt32 (((p0 - ((Int32.toUInt32 p0 >>> (Int32.toUInt32 1 &&& Int32.toUInt32 31)).toInt32 &&& 1431655765)) &&& 858993459) + ((Int32.toUInt32 (p0 - ((Int32.toUInt32 p0 >>> (Int32.toUInt32 1 &&& Int32.toUInt32 31)).toInt32 &&& 1431655765)) >>> (Int32.toUInt32 2 &&& Int32.toUInt32 31)).toInt32 &&& 858993459)) >>> (Int32.toUInt32 4 &&& Int32.toUInt32 31)).toInt32) &&& 252645135) + (Int32.toUInt32 (((((p0 - ((Int32.toUInt32 p0 >>> (Int32.toUInt32 1 &&& Int32.toUInt32 31)).toInt32 &&& 1431655765)) &&& 858993459) + ((Int32.toUInt32 (p0 - ((Int32.toUInt32 p0 >>> (Int32.toUInt32 1 &&& Int32.toUInt32 31)).toInt32 &&& 1431655765)) >>> (Int32.toUInt32 2 &&& Int32.toUInt32 31)).toInt32 &&& 858993459)) + (Int32.toUInt32 (((p0 - ((Int32.toUInt32 p0 >>> (Int32.toUInt32 1 &&& Int32.toUInt32 31)).toInt32 &&& 1431655765)) &&& 858993459) + ((Int32.toUInt32 (p0 - ((Int32.toUInt32 p0 >>> (Int32.toUInt32 1 &&& Int32.toUInt32 31)).toInt32 &&& 1431655765)) >>> (Int32.toUInt32 2 &&& Int32.toUInt32 31)).toInt32 &&& 858993459)) >>> (Int32.toUInt32 4 &&& Int32.toUInt32 31)).toInt32) &&& 252645135) >>> (Int32.toUInt32 8 &&& Int32.toUInt32 31)).toInt32) + (Int32.toUInt32 ((((((p0 - ((Int32.toUInt32 p0 >>> (Int32.toUInt32 1 &&& Int32.toUInt32 31)).toInt32 &&& 1431655765)) &&& 858993459) + ((Int32.toUInt32 (p0 - ((Int32.toUInt32 p0 >>> (Int32.toUInt32 1 &&& Int32.toUInt32 31)).toInt32 &&& 1431655765)) >>> (Int32.toUInt32 2 &&& Int32.toUInt32 31)).toInt32 &&& 858993459)) + (Int32.toUInt32 (((p0 - ((Int32.toUInt32 p0 >>> (Int32.toUInt32 1 &&& Int32.toUInt32 31)).toInt32 &&& 1431655765)) &&& 858993459) + ((Int32.toUInt32 (p0 - ((Int32.toUInt32 p0 >>> (Int32.toUInt32 1 &&& Int32.toUInt32 31)).toInt32 &&& 1431655765)) >>> (Int32.toUInt32 2 &&& Int32.toUInt32 31)).toInt32 &&& 858993459)) >>> (Int32.toUInt32 4 &&& Int32.toUInt32 31)).toInt32) &&& 252645135) + (Int32.toUInt32 (((((p0 - ((Int32.toUInt32 p0 >>> (Int32.toUInt32 1 &&& Int32.toUInt32 31)).toInt32 &&& 1431655765)) &&& 858993459) + ((Int32.toUInt32 (p0 - ((Int32.toUInt32 p0 >>> (Int32.toUInt32 1 &&& Int32.toUInt32 31)).toInt32 &&& 1431655765)) >>> (Int32.toUInt32 2 &&& Int32.toUInt32 31)).toInt32 &&& 858993459)) + (Int32.toUInt32 (((p0 - ((Int32.toUInt32 p0 >>> (Int32.toUInt32 1 &&& Int32.toUInt32 31)).toInt32 &&& 1431655765)) &&& 858993459) + ((Int32.toUInt32 (p0 - ((Int32.toUInt32 p0 >>> (Int32.toUInt32 1 &&& Int32.toUInt32 31)).toInt32 &&& 1431655765)) >>> (Int32.toUInt32 2 &&& Int32.toUInt32 31)).toInt32 &&& 858993459)) >>> (Int32.toUInt32 4 &&& Int32.toUInt32 31)).toInt32) &&& 252645135) >>> (Int32.toUInt32 8 &&& Int32.toUInt32 31)).toInt32) >>> (Int32.toUInt32 16 &&& Int32.toUInt32 31)).toInt32) &&& 63)) hx hb hr (fun t ht hW => ⟨⟨((((((((p0 - ((Int32.toUInt32 p0 >>> (Int32.toUInt32 1 &&& Int32.toUInt32 31)).toInt32 &&& 1431655765)) &&& 858993459) + ((Int32.toUInt32 (p0 - ((Int32.toUInt32 p0 >>> (Int32.toUInt32 1 &&& Int32.toUInt32 31)).toInt32 &&& 1431655765)) >>> (Int32.toUInt32 2 &&& Int32.toUInt32 31)).toInt32 &&& 858993459)) + (Int32.toUInt32 (((p0 - ((Int32.toUInt32 p0 >>> (Int32.toUInt32 1 &&& Int32.toUInt32 31)).toInt32 &&& 1431655765)) &&& 858993459) + ((Int32.toUInt32 (p0 - ((Int32.toUInt32 p0 >>> (Int32.toUInt32 1 &&& Int32.toUInt32 31)).toInt32 &&& 1431655765)) >>> (Int32.toUInt32 2 &&& Int32.toUInt32 31)).toInt32 &&& 858993459)) >>> (Int32.toUInt32 4 &&& Int32.toUInt32 31)).toInt32) &&& 252645135) + (Int32.toUInt32 (((((p0 - ((Int32.toUInt32 p0 >>> (Int32.toUInt32 1 &&& Int32.toUInt32 31)).toInt32 &&& 1431655765)) &&& 858993459) + ((Int32.toUInt32 (p0 - ((Int32.toUInt32 p0 >>> (Int32.toUInt32 1 &&& Int32.toUInt32 31)).toInt32 &&& 1431655765)) >>> (Int32.toUInt32 2 &&& Int32.toUInt32 31)).toInt32 &&& 858993459)) + (Int32.toUInt32 (((p0 - ((Int32.toUInt32 p0 >>> (Int32.toUInt32 1 &&& Int32.toUInt32 31)).toInt32 &&& 1431655765)) &&& 858993459) + ((Int32.toUInt32 (p0 - ((Int32.toUInt32 p0 >>> (Int32.toUInt32 1 &&& Int32.toUInt32 31)).toInt32 &&& 1431655765)) >>> (Int32.toUInt32 2 &&& Int32.toUInt32 31)).toInt32 &&& 858993459)) >>> (Int32.toUInt32 4 &&& Int32.toUInt32 31)).toInt32) &&& 252645135) >>> (Int32.toUInt32 8 &&& Int32.toUInt32 31)).toInt32) + (Int32.toUInt32 ((((((p0 - ((Int32.toUInt32 p0 >>> (Int32.toUInt32 1 &&& Int32.toUInt32 31)).toInt32 &&& 1431655765)) &&& 858993459) + ((Int32.toUInt32 (p0 - ((Int32.toUInt32 p0 >>> (Int32.toUInt32 1 &&& Int32.toUInt32 31)).toInt32 &&& 1431655765)) >>> (Int32.toUInt32 2 &&& Int32.toUInt32 31)).toInt32 &&& 858993459)) + (Int32.toUInt32 (((p0 - ((Int32.toUInt32 p0 >>> (Int32.toUInt32 1 &&& Int32.toUInt32 31)).toInt32 &&& 1431655765)) &&& 858993459) + ((Int32.toUInt32 (p0 - ((Int32.toUInt32 p0 >>> (Int32.toUInt32 1 &&& Int32.toUInt32 31)).toInt32 &&& 1431655765)) >>> (Int32.toUInt32 2 &&& Int32.toUInt32 31)).toInt32 &&& 858993459)) >>> (Int32.toUInt32 4 &&& Int32.toUInt32 31)).toInt32) &&& 252645135) + (Int32.toUInt32 (((((p0 - ((Int32.toUInt32 p0 >>> (Int32.toUInt32 1 &&& Int32.toUInt32 31)).toInt32 &&& 1431655765)) &&& 858993459) + ((Int32.toUInt32 (p0 - ((Int32.toUInt32 p0 >>> (Int32.toUInt32 1 &&& Int32.toUInt32 31)).toInt32 &&& 1431655765)) >>> (Int32.toUInt32 2 &&& Int32.toUInt32 31)).toInt32 &&& 858993459)) + (Int32.toUInt32 (((p0 - ((Int32.toUInt32 p0 >>> (Int32.toUInt32 1 &&& Int32.toUInt32 31)).toInt32 &&& 1431655765)) &&& 858993459) + ((Int32.toUInt32 (p0 - ((Int32.toUInt32 p0 >>> (Int32.toUInt32 1 &&& Int32.toUInt32 31)).toInt32 &&& 1431655765)) >>> (Int32.toUInt32 2 &&& Int32.toUInt32 31)).toInt32 &&& 858993459)) >>> (Int32.toUInt32 4 &&& Int32.toUInt32 31)).toInt32) &&& 252645135) >>> (Int32.toUInt32 8 &&& Int32.toUInt32 31)).toInt32) >>> (Int32.toUInt32 16 &&& Int32.toUInt32 31)).toInt32) &&& 63), (), rfl, e0, by rw [ht]; exact hP, va_K.moved hW.alike hK, (by exact hD)⟩, hS.F ht⟩) hS.2.2 d_Integer_bitCount_52 hlocks
-- ===== RepairDesk$Costs.change(IZI)Z
abbrev wd_Costs_change (kA : Nat → ClassId) (a0 a1 a2 : Nat) (f1 : (Nat → Int32)) (f2 : (Nat → Int32)) : va_W := [(a0, .inr (0, [.ref a1, .ref a2])), (a1, .inl (kA 0, 6, .inl f1)), (a2, .inl (kA 0, 6, .inl f2))]
abbrev rm_Costs_change : Room := { frames := 0, cells := 0, slots := 0, locals := 0 }
def S_Costs_change (p1 : Int32) (p2 : Int32) (p3 : Int32) (f1 : (Nat → Int32)) (f2 : (Nat → Int32)) : Option (Int32 × (Nat → Int32) × (Nat → Int32)) := (if p1 < 0 then (some (0, f1, f2)) else (if 6 ≤ p1 then (some (0, f1, f2)) else (if p3 < 1 then (some (0, f1, f2)) else (if p3 ≤ 3 then (if p2 = 0 then (if (p1 : Int32) < 0 ∨ 6 ≤ (Int32.toNatClampNeg p1) then none else (some (1, (upd f1 (Int32.toNatClampNeg p1) p3), f2))) else (if (p1 : Int32) < 0 ∨ 6 ≤ (Int32.toNatClampNeg p1) then none else (some (1, f1, (upd f2 (Int32.toNatClampNeg p1) p3))))) else (some (0, f1, f2))))))
set_option maxHeartbeats 4000000 in
set_option maxRecDepth 100000 in
theorem c_Costs_change (l : Launch) (dC : Nat → ClassId) (dI : Nat → Nat → Nat) (kA : Nat → ClassId) (sz : Nat) (a0 a1 a2 : Nat) (p1 : Int32) (p2 : Int32) (p3 : Int32) (f1 : (Nat → Int32)) (f2 : (Nat → Int32)) (r : Int32) (of1 : (Nat → Int32)) (of2 : (Nat → Int32)) (hF : S_Costs_change p1 p2 p3 f1 f2 = some (r, of1, of2)) : Met l y_Costs_change w_Costs_change rm_Costs_change (va_Pc [.ref a0, .int p1, .int p2, .int p3] (fun U => U.heap.size = sz ∧ va_P (dC, dI) classes (wd_Costs_change kA a0 a1 a2 f1 f2) U.heap ∧ va_K (dC, dI) classes (tys_ kA) U ∧ va_D (fun _ => True) (wd_Costs_change kA a0 a1 a2 f1 f2))) (va_Qi (fun (r1 : Int32) (_ : Unit) => r1 = r) (fun _ t => va_P (dC, dI) classes (wd_Costs_change kA a0 a1 a2 of1 of2) t.heap ∧ va_K (dC, dI) classes (tys_ kA) t ∧ va_D (va_A (wd_Costs_change kA a0 a1 a2 f1 f2) sz) (wd_Costs_change kA a0 a1 a2 of1 of2)) (va_A (wd_Costs_change kA a0 a1 a2 f1 f2) sz)) 0 0 (va_A (wd_Costs_change kA a0 a1 a2 f1 f2) sz) := by
  refine Met.ofW (cc := b_Costs_change) (maxL := 4) (ret := some .boolean) (by decide) rfl ?_
  intro p e s m args below meth c s₁ B hml hv
  obtain ⟨rfl, hsz, hP, hK, hD0⟩ := hv
  have hx := B.exec
  have hb := B.bytes
  have hr := B.returns
  have hts := atoms_spec (ws := w_Costs_change) B.pre
  have hown : s.vm.findClass R_Costs = some m.cls := findClass_of_methodNamed B.named
  have hg := fun (w : Cond) (h : w ∈ gw) => hts w (List.mem_cons_of_mem _ h)
  have hlocks := B.notSynchronized
  subst hsz
  have hD := hD0.self (sz := s.heap.size)
  generalize hAe : va_A (wd_Costs_change kA a0 a1 a2 f1 f2) s.heap.size = A at hD ⊢
  have hA : ∀ q : Nat, s.heap.size ≤ q → A q := fun q h => by rw [← hAe]; exact Or.inr h
  have hS : va_S A s.heap s.heap [] := va_S.rf
  have hl := lv_entry ([.ref a0, .int p1, .int p2, .int p3]) (n := 4) (Nat.le_of_ble_eq_true rfl)
  rw [lg_entry_eq]
  generalize (lg_sl ([.ref a0, .int p1, .int p2, .int p3]) ++ List.replicate (4 - (lg_sl ([.ref a0, .int p1, .int p2, .int p3])).length) Slot.unset).toArray = ls at hl ⊢
  have hl : lv_has ls 4 [(0, .ref a0), (1, .int p1), (2, .int p2), (3, .int p3)] := hl
  unfold S_Costs_change at hF
  refine lv_iload_n hx hb d_Costs_change_0 rfl (lv_at hl 1 rfl) ?_
  refine lv_if_lt (tgt := 20) hx hb d_Costs_change_1 (by decide) (fun c_1 => ?_) (fun c_1 => ?_)
  · rw [if_pos c_1] at hF
    refine lv_iconst (v := 0) hx hb d_Costs_change_20 (by decide) ?_
    have e0 := Option.some.inj hF
    have q0 := Prod.mk.inj e0
    have q1 := Prod.mk.inj q0.2
    exact W.zret (v := 0) hx hb hr rfl (fun t ht hW => ⟨⟨0, (), rfl, q0.1, by rw [ht, ← q1.1, ← q1.2]; exact hP, va_K.moved hW.alike hK, (by rw [← q1.1, ← q1.2]; exact hD)⟩, hS.F ht⟩) hS.2.2 d_Costs_change_21 hlocks
  · rw [if_neg c_1] at hF
    refine lv_iload_n hx hb d_Costs_change_4 rfl (lv_at hl 1 rfl) ?_
    refine lv_bipush (v := 6) hx hb d_Costs_change_5 (by decide) ?_
    refine lv_icmp_ge (tgt := 20) hx hb d_Costs_change_7 (by decide) (fun c_2 => ?_) (fun c_2 => ?_)
    · rw [if_pos c_2] at hF
      refine lv_iconst (v := 0) hx hb d_Costs_change_20 (by decide) ?_
      have e0 := Option.some.inj hF
      have q0 := Prod.mk.inj e0
      have q1 := Prod.mk.inj q0.2
      exact W.zret (v := 0) hx hb hr rfl (fun t ht hW => ⟨⟨0, (), rfl, q0.1, by rw [ht, ← q1.1, ← q1.2]; exact hP, va_K.moved hW.alike hK, (by rw [← q1.1, ← q1.2]; exact hD)⟩, hS.F ht⟩) hS.2.2 d_Costs_change_21 hlocks
    · rw [if_neg c_2] at hF
      refine lv_iload_n hx hb d_Costs_change_10 rfl (lv_at hl 3 rfl) ?_
      refine lv_iconst (v := 1) hx hb d_Costs_change_11 (by decide) ?_
      refine lv_icmp_lt (tgt := 20) hx hb d_Costs_change_12 (by decide) (fun c_3 => ?_) (fun c_3 => ?_)
      · rw [if_pos c_3] at hF
        refine lv_iconst (v := 0) hx hb d_Costs_change_20 (by decide) ?_
        have e0 := Option.some.inj hF
        have q0 := Prod.mk.inj e0
        have q1 := Prod.mk.inj q0.2
        exact W.zret (v := 0) hx hb hr rfl (fun t ht hW => ⟨⟨0, (), rfl, q0.1, by rw [ht, ← q1.1, ← q1.2]; exact hP, va_K.moved hW.alike hK, (by rw [← q1.1, ← q1.2]; exact hD)⟩, hS.F ht⟩) hS.2.2 d_Costs_change_21 hlocks
      · rw [if_neg c_3] at hF
        refine lv_iload_n hx hb d_Costs_change_15 rfl (lv_at hl 3 rfl) ?_
        refine lv_iconst (v := 3) hx hb d_Costs_change_16 (by decide) ?_
        refine lv_icmp_le (tgt := 22) hx hb d_Costs_change_17 (by decide) (fun c_4 => ?_) (fun c_4 => ?_)
        · rw [if_pos c_4] at hF
          refine lv_iload_n hx hb d_Costs_change_22 rfl (lv_at hl 2 rfl) ?_
          refine lv_if_eq (tgt := 36) hx hb d_Costs_change_23 (by decide) (fun c_5 => ?_) (fun c_5 => ?_)
          · rw [if_pos c_5] at hF
            refine lv_aload_n hx hb d_Costs_change_36 rfl (lv_at hl 0 rfl) ?_
            refine va_get (D := (dC, dI)) (ci := 0) (v := .ref a1) (C := R_Costs) (T := F_Costs) (N := 2) hx hb hg iw_Costs hown hK hP 0 rfl rfl 0 (by decide) (hg _ gw_3) (fun _ h9 => h9) rfl d_Costs_change_37 ?_
            refine lv_iload_n hx hb d_Costs_change_40 rfl (lv_at hl 1 rfl) ?_
            refine lv_iload_n hx hb d_Costs_change_41 rfl (lv_at hl 3 rfl) ?_
            obtain ⟨h_6, hF⟩ := rd_chk hF
            refine va_iast hx hb hK hP hD hS 1 0 rfl rfl h_6 d_Costs_change_42 (fun H locs hP hD hS => ?_)
            have hP : va_P (dC, dI) classes (wd_Costs_change kA a0 a1 a2 (upd f1 (Int32.toNatClampNeg p1) p3) f2) H := hP
            have hD : va_D A (wd_Costs_change kA a0 a1 a2 (upd f1 (Int32.toNatClampNeg p1) p3) f2) := hD
            refine lv_iconst (v := 1) hx hb d_Costs_change_43 (by decide) ?_
            have e0 := Option.some.inj hF
            have q0 := Prod.mk.inj e0
            have q1 := Prod.mk.inj q0.2
            exact W.zret (v := 1) hx hb hr rfl (fun t ht hW => ⟨⟨1, (), rfl, q0.1, by rw [ht, ← q1.1, ← q1.2]; exact hP, va_K.moved hW.alike hK, (by rw [← q1.1, ← q1.2]; exact hD)⟩, hS.F ht⟩) hS.2.2 d_Costs_change_44 hlocks
          · rw [if_neg c_5] at hF
            refine lv_aload_n hx hb d_Costs_change_26 rfl (lv_at hl 0 rfl) ?_
            refine va_get (D := (dC, dI)) (ci := 0) (v := .ref a2) (C := R_Costs) (T := F_Costs) (N := 2) hx hb hg iw_Costs hown hK hP 0 rfl rfl 1 (by decide) (hg _ gw_4) (fun _ h9 => h9) rfl d_Costs_change_27 ?_
            refine lv_iload_n hx hb d_Costs_change_30 rfl (lv_at hl 1 rfl) ?_
            refine lv_iload_n hx hb d_Costs_change_31 rfl (lv_at hl 3 rfl) ?_
            obtain ⟨h_7, hF⟩ := rd_chk hF
            refine va_iast hx hb hK hP hD hS 2 0 rfl rfl h_7 d_Costs_change_32 (fun H locs hP hD hS => ?_)
            have hP : va_P (dC, dI) classes (wd_Costs_change kA a0 a1 a2 f1 (upd f2 (Int32.toNatClampNeg p1) p3)) H := hP
            have hD : va_D A (wd_Costs_change kA a0 a1 a2 f1 (upd f2 (Int32.toNatClampNeg p1) p3)) := hD
            refine lv_goto (tgt := 43) hx hb d_Costs_change_33 (by decide) ?_
            refine lv_iconst (v := 1) hx hb d_Costs_change_43 (by decide) ?_
            have e0 := Option.some.inj hF
            have q0 := Prod.mk.inj e0
            have q1 := Prod.mk.inj q0.2
            exact W.zret (v := 1) hx hb hr rfl (fun t ht hW => ⟨⟨1, (), rfl, q0.1, by rw [ht, ← q1.1, ← q1.2]; exact hP, va_K.moved hW.alike hK, (by rw [← q1.1, ← q1.2]; exact hD)⟩, hS.F ht⟩) hS.2.2 d_Costs_change_44 hlocks
        · rw [if_neg c_4] at hF
          refine lv_iconst (v := 0) hx hb d_Costs_change_20 (by decide) ?_
          have e0 := Option.some.inj hF
          have q0 := Prod.mk.inj e0
          have q1 := Prod.mk.inj q0.2
          exact W.zret (v := 0) hx hb hr rfl (fun t ht hW => ⟨⟨0, (), rfl, q0.1, by rw [ht, ← q1.1, ← q1.2]; exact hP, va_K.moved hW.alike hK, (by rw [← q1.1, ← q1.2]; exact hD)⟩, hS.F ht⟩) hS.2.2 d_Costs_change_21 hlocks
-- ===== RepairDesk$Costs.ofPutting(I)I
abbrev wd_Costs_ofPutting (kA : Nat → ClassId) (a0 a1 : Nat) (v0_1 : Value) (f1 : (Nat → Int32)) : va_W := [(a0, .inr (0, [.ref a1, v0_1])), (a1, .inl (kA 0, 6, .inl f1))]
abbrev rm_Costs_ofPutting : Room := { frames := 0, cells := 0, slots := 0, locals := 0 }
def S_Costs_ofPutting (p1 : Int32) (f1 : (Nat → Int32)) : Option (Int32) := (if p1 < 0 then (some 4) else (if 6 ≤ p1 then (some 4) else (if (p1 : Int32) < 0 ∨ 6 ≤ (Int32.toNatClampNeg p1) then none else (some (f1 (Int32.toNatClampNeg p1))))))
set_option maxHeartbeats 4000000 in
set_option maxRecDepth 100000 in
theorem c_Costs_ofPutting (l : Launch) (dC : Nat → ClassId) (dI : Nat → Nat → Nat) (kA : Nat → ClassId) (sz : Nat) (a0 a1 : Nat) (v0_1 : Value) (p1 : Int32) (f1 : (Nat → Int32)) (r : Int32) (hF : S_Costs_ofPutting p1 f1 = some r) : Met l y_Costs_ofPutting w_Costs_ofPutting rm_Costs_ofPutting (va_Pc [.ref a0, .int p1] (fun U => U.heap.size = sz ∧ va_P (dC, dI) classes (wd_Costs_ofPutting kA a0 a1 v0_1 f1) U.heap ∧ va_K (dC, dI) classes (tys_ kA) U ∧ va_D (fun _ => True) (wd_Costs_ofPutting kA a0 a1 v0_1 f1))) (va_Qi (fun (r1 : Int32) (_ : Unit) => r1 = r) (fun _ t => va_P (dC, dI) classes (wd_Costs_ofPutting kA a0 a1 v0_1 f1) t.heap ∧ va_K (dC, dI) classes (tys_ kA) t ∧ va_D (va_A (wd_Costs_ofPutting kA a0 a1 v0_1 f1) sz) (wd_Costs_ofPutting kA a0 a1 v0_1 f1)) (va_A (wd_Costs_ofPutting kA a0 a1 v0_1 f1) sz)) 0 0 (va_A (wd_Costs_ofPutting kA a0 a1 v0_1 f1) sz) := by
  refine Met.ofW (cc := b_Costs_ofPutting) (maxL := 2) (ret := some .int) (by decide) rfl ?_
  intro p e s m args below meth c s₁ B hml hv
  obtain ⟨rfl, hsz, hP, hK, hD0⟩ := hv
  have hx := B.exec
  have hb := B.bytes
  have hr := B.returns
  have hts := atoms_spec (ws := w_Costs_ofPutting) B.pre
  have hown : s.vm.findClass R_Costs = some m.cls := findClass_of_methodNamed B.named
  have hg := fun (w : Cond) (h : w ∈ gw) => hts w (List.mem_cons_of_mem _ h)
  have hlocks := B.notSynchronized
  subst hsz
  have hD := hD0.self (sz := s.heap.size)
  generalize hAe : va_A (wd_Costs_ofPutting kA a0 a1 v0_1 f1) s.heap.size = A at hD ⊢
  have hA : ∀ q : Nat, s.heap.size ≤ q → A q := fun q h => by rw [← hAe]; exact Or.inr h
  have hS : va_S A s.heap s.heap [] := va_S.rf
  have hl := lv_entry ([.ref a0, .int p1]) (n := 2) (Nat.le_of_ble_eq_true rfl)
  rw [lg_entry_eq]
  generalize (lg_sl ([.ref a0, .int p1]) ++ List.replicate (2 - (lg_sl ([.ref a0, .int p1])).length) Slot.unset).toArray = ls at hl ⊢
  have hl : lv_has ls 2 [(0, .ref a0), (1, .int p1)] := hl
  unfold S_Costs_ofPutting at hF
  refine lv_iload_n hx hb d_Costs_ofPutting_0 rfl (lv_at hl 1 rfl) ?_
  refine lv_if_lt (tgt := 19) hx hb d_Costs_ofPutting_1 (by decide) (fun c_1 => ?_) (fun c_1 => ?_)
  · rw [if_pos c_1] at hF
    refine lv_iconst (v := 4) hx hb d_Costs_ofPutting_19 (by decide) ?_
    have e0 := Option.some.inj hF
    exact W.iret (v := 4) hx hb hr (fun t ht hW => ⟨⟨4, (), rfl, e0, by rw [ht]; exact hP, va_K.moved hW.alike hK, (by exact hD)⟩, hS.F ht⟩) hS.2.2 d_Costs_ofPutting_20 hlocks
  · rw [if_neg c_1] at hF
    refine lv_iload_n hx hb d_Costs_ofPutting_4 rfl (lv_at hl 1 rfl) ?_
    refine lv_bipush (v := 6) hx hb d_Costs_ofPutting_5 (by decide) ?_
    refine lv_icmp_ge (tgt := 19) hx hb d_Costs_ofPutting_7 (by decide) (fun c_2 => ?_) (fun c_2 => ?_)
    · rw [if_pos c_2] at hF
      refine lv_iconst (v := 4) hx hb d_Costs_ofPutting_19 (by decide) ?_
      have e0 := Option.some.inj hF
      exact W.iret (v := 4) hx hb hr (fun t ht hW => ⟨⟨4, (), rfl, e0, by rw [ht]; exact hP, va_K.moved hW.alike hK, (by exact hD)⟩, hS.F ht⟩) hS.2.2 d_Costs_ofPutting_20 hlocks
    · rw [if_neg c_2] at hF
      refine lv_aload_n hx hb d_Costs_ofPutting_10 rfl (lv_at hl 0 rfl) ?_
      refine va_get (D := (dC, dI)) (ci := 0) (v := .ref a1) (C := R_Costs) (T := F_Costs) (N := 2) hx hb hg iw_Costs hown hK hP 0 rfl rfl 0 (by decide) (hg _ gw_3) (fun _ h9 => h9) rfl d_Costs_ofPutting_11 ?_
      refine lv_iload_n hx hb d_Costs_ofPutting_14 rfl (lv_at hl 1 rfl) ?_
      obtain ⟨h_3, hF⟩ := rd_chk hF
      refine va_iald hx hb hK hP 1 0 rfl rfl h_3 d_Costs_ofPutting_15 ?_
      refine lv_goto (tgt := 20) hx hb d_Costs_ofPutting_16 (by decide) ?_
      have e0 := Option.some.inj hF
      exact W.iret (v := (f1 (Int32.toNatClampNeg p1))) hx hb hr (fun t ht hW => ⟨⟨(f1 (Int32.toNatClampNeg p1)), (), rfl, e0, by rw [ht]; exact hP, va_K.moved hW.alike hK, (by exact hD)⟩, hS.F ht⟩) hS.2.2 d_Costs_ofPutting_20 hlocks
-- ===== RepairDesk$Costs.ofTaking(I)I
abbrev wd_Costs_ofTaking (kA : Nat → ClassId) (a0 a1 : Nat) (v0_0 : Value) (f1 : (Nat → Int32)) : va_W := [(a0, .inr (0, [v0_0, .ref a1])), (a1, .inl (kA 0, 6, .inl f1))]
abbrev rm_Costs_ofTaking : Room := { frames := 0, cells := 0, slots := 0, locals := 0 }
def S_Costs_ofTaking (p1 : Int32) (f1 : (Nat → Int32)) : Option (Int32) := (if p1 < 0 then (some 4) else (if 6 ≤ p1 then (some 4) else (if (p1 : Int32) < 0 ∨ 6 ≤ (Int32.toNatClampNeg p1) then none else (some (f1 (Int32.toNatClampNeg p1))))))
set_option maxHeartbeats 4000000 in
set_option maxRecDepth 100000 in
theorem c_Costs_ofTaking (l : Launch) (dC : Nat → ClassId) (dI : Nat → Nat → Nat) (kA : Nat → ClassId) (sz : Nat) (a0 a1 : Nat) (v0_0 : Value) (p1 : Int32) (f1 : (Nat → Int32)) (r : Int32) (hF : S_Costs_ofTaking p1 f1 = some r) : Met l y_Costs_ofTaking w_Costs_ofTaking rm_Costs_ofTaking (va_Pc [.ref a0, .int p1] (fun U => U.heap.size = sz ∧ va_P (dC, dI) classes (wd_Costs_ofTaking kA a0 a1 v0_0 f1) U.heap ∧ va_K (dC, dI) classes (tys_ kA) U ∧ va_D (fun _ => True) (wd_Costs_ofTaking kA a0 a1 v0_0 f1))) (va_Qi (fun (r1 : Int32) (_ : Unit) => r1 = r) (fun _ t => va_P (dC, dI) classes (wd_Costs_ofTaking kA a0 a1 v0_0 f1) t.heap ∧ va_K (dC, dI) classes (tys_ kA) t ∧ va_D (va_A (wd_Costs_ofTaking kA a0 a1 v0_0 f1) sz) (wd_Costs_ofTaking kA a0 a1 v0_0 f1)) (va_A (wd_Costs_ofTaking kA a0 a1 v0_0 f1) sz)) 0 0 (va_A (wd_Costs_ofTaking kA a0 a1 v0_0 f1) sz) := by
  refine Met.ofW (cc := b_Costs_ofTaking) (maxL := 2) (ret := some .int) (by decide) rfl ?_
  intro p e s m args below meth c s₁ B hml hv
  obtain ⟨rfl, hsz, hP, hK, hD0⟩ := hv
  have hx := B.exec
  have hb := B.bytes
  have hr := B.returns
  have hts := atoms_spec (ws := w_Costs_ofTaking) B.pre
  have hown : s.vm.findClass R_Costs = some m.cls := findClass_of_methodNamed B.named
  have hg := fun (w : Cond) (h : w ∈ gw) => hts w (List.mem_cons_of_mem _ h)
  have hlocks := B.notSynchronized
  subst hsz
  have hD := hD0.self (sz := s.heap.size)
  generalize hAe : va_A (wd_Costs_ofTaking kA a0 a1 v0_0 f1) s.heap.size = A at hD ⊢
  have hA : ∀ q : Nat, s.heap.size ≤ q → A q := fun q h => by rw [← hAe]; exact Or.inr h
  have hS : va_S A s.heap s.heap [] := va_S.rf
  have hl := lv_entry ([.ref a0, .int p1]) (n := 2) (Nat.le_of_ble_eq_true rfl)
  rw [lg_entry_eq]
  generalize (lg_sl ([.ref a0, .int p1]) ++ List.replicate (2 - (lg_sl ([.ref a0, .int p1])).length) Slot.unset).toArray = ls at hl ⊢
  have hl : lv_has ls 2 [(0, .ref a0), (1, .int p1)] := hl
  unfold S_Costs_ofTaking at hF
  refine lv_iload_n hx hb d_Costs_ofTaking_0 rfl (lv_at hl 1 rfl) ?_
  refine lv_if_lt (tgt := 19) hx hb d_Costs_ofTaking_1 (by decide) (fun c_1 => ?_) (fun c_1 => ?_)
  · rw [if_pos c_1] at hF
    refine lv_iconst (v := 4) hx hb d_Costs_ofTaking_19 (by decide) ?_
    have e0 := Option.some.inj hF
    exact W.iret (v := 4) hx hb hr (fun t ht hW => ⟨⟨4, (), rfl, e0, by rw [ht]; exact hP, va_K.moved hW.alike hK, (by exact hD)⟩, hS.F ht⟩) hS.2.2 d_Costs_ofTaking_20 hlocks
  · rw [if_neg c_1] at hF
    refine lv_iload_n hx hb d_Costs_ofTaking_4 rfl (lv_at hl 1 rfl) ?_
    refine lv_bipush (v := 6) hx hb d_Costs_ofTaking_5 (by decide) ?_
    refine lv_icmp_ge (tgt := 19) hx hb d_Costs_ofTaking_7 (by decide) (fun c_2 => ?_) (fun c_2 => ?_)
    · rw [if_pos c_2] at hF
      refine lv_iconst (v := 4) hx hb d_Costs_ofTaking_19 (by decide) ?_
      have e0 := Option.some.inj hF
      exact W.iret (v := 4) hx hb hr (fun t ht hW => ⟨⟨4, (), rfl, e0, by rw [ht]; exact hP, va_K.moved hW.alike hK, (by exact hD)⟩, hS.F ht⟩) hS.2.2 d_Costs_ofTaking_20 hlocks
    · rw [if_neg c_2] at hF
      refine lv_aload_n hx hb d_Costs_ofTaking_10 rfl (lv_at hl 0 rfl) ?_
      refine va_get (D := (dC, dI)) (ci := 0) (v := .ref a1) (C := R_Costs) (T := F_Costs) (N := 2) hx hb hg iw_Costs hown hK hP 0 rfl rfl 1 (by decide) (hg _ gw_4) (fun _ h9 => h9) rfl d_Costs_ofTaking_11 ?_
      refine lv_iload_n hx hb d_Costs_ofTaking_14 rfl (lv_at hl 1 rfl) ?_
      obtain ⟨h_3, hF⟩ := rd_chk hF
      refine va_iald hx hb hK hP 1 0 rfl rfl h_3 d_Costs_ofTaking_15 ?_
      refine lv_goto (tgt := 20) hx hb d_Costs_ofTaking_16 (by decide) ?_
      have e0 := Option.some.inj hF
      exact W.iret (v := (f1 (Int32.toNatClampNeg p1))) hx hb hr (fun t ht hW => ⟨⟨(f1 (Int32.toNatClampNeg p1)), (), rfl, e0, by rw [ht]; exact hP, va_K.moved hW.alike hK, (by exact hD)⟩, hS.F ht⟩) hS.2.2 d_Costs_ofTaking_20 hlocks
-- ===== RepairDesk$Line.size()I
abbrev wd_Line_size (kA : Nat → ClassId) (a0 : Nat) (v0_0 : Value) (x0_1 : Int32) : va_W := [(a0, .inr (3, [v0_0, .int x0_1]))]
abbrev rm_Line_size : Room := { frames := 0, cells := 0, slots := 0, locals := 0 }
def S_Line_size (x0_1 : Int32) : Option (Int32) := (some x0_1)
set_option maxHeartbeats 4000000 in
set_option maxRecDepth 100000 in
theorem c_Line_size (l : Launch) (dC : Nat → ClassId) (dI : Nat → Nat → Nat) (kA : Nat → ClassId) (sz : Nat) (a0 : Nat) (v0_0 : Value) (x0_1 : Int32) (r : Int32) (hF : S_Line_size x0_1 = some r) : Met l y_Line_size w_Line_size rm_Line_size (va_Pc [.ref a0] (fun U => U.heap.size = sz ∧ va_P (dC, dI) classes (wd_Line_size kA a0 v0_0 x0_1) U.heap ∧ va_K (dC, dI) classes (tys_ kA) U ∧ va_D (fun _ => True) (wd_Line_size kA a0 v0_0 x0_1))) (va_Qi (fun (r1 : Int32) (_ : Unit) => r1 = r) (fun _ t => va_P (dC, dI) classes (wd_Line_size kA a0 v0_0 x0_1) t.heap ∧ va_K (dC, dI) classes (tys_ kA) t ∧ va_D (va_A (wd_Line_size kA a0 v0_0 x0_1) sz) (wd_Line_size kA a0 v0_0 x0_1)) (va_A (wd_Line_size kA a0 v0_0 x0_1) sz)) 0 0 (va_A (wd_Line_size kA a0 v0_0 x0_1) sz) := by
  refine Met.ofW (cc := b_Line_size) (maxL := 1) (ret := some .int) (by decide) rfl ?_
  intro p e s m args below meth c s₁ B hml hv
  obtain ⟨rfl, hsz, hP, hK, hD0⟩ := hv
  have hx := B.exec
  have hb := B.bytes
  have hr := B.returns
  have hts := atoms_spec (ws := w_Line_size) B.pre
  have hown : s.vm.findClass R_Line = some m.cls := findClass_of_methodNamed B.named
  have hg := fun (w : Cond) (h : w ∈ gw) => hts w (List.mem_cons_of_mem _ h)
  have hlocks := B.notSynchronized
  subst hsz
  have hD := hD0.self (sz := s.heap.size)
  generalize hAe : va_A (wd_Line_size kA a0 v0_0 x0_1) s.heap.size = A at hD ⊢
  have hA : ∀ q : Nat, s.heap.size ≤ q → A q := fun q h => by rw [← hAe]; exact Or.inr h
  have hS : va_S A s.heap s.heap [] := va_S.rf
  have hl := lv_entry ([.ref a0]) (n := 1) (Nat.le_of_ble_eq_true rfl)
  rw [lg_entry_eq]
  generalize (lg_sl ([.ref a0]) ++ List.replicate (1 - (lg_sl ([.ref a0])).length) Slot.unset).toArray = ls at hl ⊢
  have hl : lv_has ls 1 [(0, .ref a0)] := hl
  unfold S_Line_size at hF
  refine lv_aload_n hx hb d_Line_size_0 rfl (lv_at hl 0 rfl) ?_
  refine va_get (D := (dC, dI)) (ci := 3) (v := .int x0_1) (C := R_Line) (T := F_Line) (N := 2) hx hb hg iw_Line hown hK hP 0 rfl rfl 1 (by decide) (hg _ gw_21) (fun _ h9 => h9) rfl d_Line_size_1 ?_
  have e0 := Option.some.inj hF
  exact W.iret (v := x0_1) hx hb hr (fun t ht hW => ⟨⟨x0_1, (), rfl, e0, by rw [ht]; exact hP, va_K.moved hW.alike hK, (by exact hD)⟩, hS.F ht⟩) hS.2.2 d_Line_size_4 hlocks
-- ===== RepairDesk$Line.symbolAt(I)I
abbrev wd_Line_symbolAt (kA : Nat → ClassId) (a0 a1 : Nat) (x0_1 : Int32) (f1 : (Nat → Int32)) : va_W := [(a0, .inr (3, [.ref a1, .int x0_1])), (a1, .inl (kA 2, 10, .inl f1))]
abbrev rm_Line_symbolAt : Room := { frames := 0, cells := 0, slots := 0, locals := 0 }
def S_Line_symbolAt (p1 : Int32) (x0_1 : Int32) (f1 : (Nat → Int32)) : Option (Int32) := (if p1 < 0 then (some (-1)) else (if p1 < x0_1 then (if (p1 : Int32) < 0 ∨ 10 ≤ (Int32.toNatClampNeg p1) then none else (if (f1 (Int32.toNatClampNeg p1)) < 97 then (if (f1 (Int32.toNatClampNeg p1)) < 65 then (some (-1)) else (if 70 < (f1 (Int32.toNatClampNeg p1)) then (some (-1)) else (some (6 + ((f1 (Int32.toNatClampNeg p1)) - 65))))) else (if 102 < (f1 (Int32.toNatClampNeg p1)) then (if (f1 (Int32.toNatClampNeg p1)) < 65 then (some (-1)) else (if 70 < (f1 (Int32.toNatClampNeg p1)) then (some (-1)) else (some (6 + ((f1 (Int32.toNatClampNeg p1)) - 65))))) else (some ((f1 (Int32.toNatClampNeg p1)) - 97))))) else (some (-1))))
set_option maxHeartbeats 4000000 in
set_option maxRecDepth 100000 in
theorem c_Line_symbolAt (l : Launch) (dC : Nat → ClassId) (dI : Nat → Nat → Nat) (kA : Nat → ClassId) (sz : Nat) (a0 a1 : Nat) (p1 : Int32) (x0_1 : Int32) (f1 : (Nat → Int32)) (r : Int32) (hF : S_Line_symbolAt p1 x0_1 f1 = some r) : Met l y_Line_symbolAt w_Line_symbolAt rm_Line_symbolAt (va_Pc [.ref a0, .int p1] (fun U => U.heap.size = sz ∧ va_P (dC, dI) classes (wd_Line_symbolAt kA a0 a1 x0_1 f1) U.heap ∧ va_K (dC, dI) classes (tys_ kA) U ∧ va_D (fun _ => True) (wd_Line_symbolAt kA a0 a1 x0_1 f1))) (va_Qi (fun (r1 : Int32) (_ : Unit) => r1 = r) (fun _ t => va_P (dC, dI) classes (wd_Line_symbolAt kA a0 a1 x0_1 f1) t.heap ∧ va_K (dC, dI) classes (tys_ kA) t ∧ va_D (va_A (wd_Line_symbolAt kA a0 a1 x0_1 f1) sz) (wd_Line_symbolAt kA a0 a1 x0_1 f1)) (va_A (wd_Line_symbolAt kA a0 a1 x0_1 f1) sz)) 0 0 (va_A (wd_Line_symbolAt kA a0 a1 x0_1 f1) sz) := by
  refine Met.ofW (cc := b_Line_symbolAt) (maxL := 3) (ret := some .int) (by decide) rfl ?_
  intro p e s m args below meth c s₁ B hml hv
  obtain ⟨rfl, hsz, hP, hK, hD0⟩ := hv
  have hx := B.exec
  have hb := B.bytes
  have hr := B.returns
  have hts := atoms_spec (ws := w_Line_symbolAt) B.pre
  have hown : s.vm.findClass R_Line = some m.cls := findClass_of_methodNamed B.named
  have hg := fun (w : Cond) (h : w ∈ gw) => hts w (List.mem_cons_of_mem _ h)
  have hlocks := B.notSynchronized
  subst hsz
  have hD := hD0.self (sz := s.heap.size)
  generalize hAe : va_A (wd_Line_symbolAt kA a0 a1 x0_1 f1) s.heap.size = A at hD ⊢
  have hA : ∀ q : Nat, s.heap.size ≤ q → A q := fun q h => by rw [← hAe]; exact Or.inr h
  have hS : va_S A s.heap s.heap [] := va_S.rf
  have hl := lv_entry ([.ref a0, .int p1]) (n := 3) (Nat.le_of_ble_eq_true rfl)
  rw [lg_entry_eq]
  generalize (lg_sl ([.ref a0, .int p1]) ++ List.replicate (3 - (lg_sl ([.ref a0, .int p1])).length) Slot.unset).toArray = ls at hl ⊢
  have hl : lv_has ls 3 [(0, .ref a0), (1, .int p1)] := hl
  unfold S_Line_symbolAt at hF
  refine lv_iload_n hx hb d_Line_symbolAt_0 rfl (lv_at hl 1 rfl) ?_
  refine lv_if_lt (tgt := 12) hx hb d_Line_symbolAt_1 (by decide) (fun c_1 => ?_) (fun c_1 => ?_)
  · rw [if_pos c_1] at hF
    refine lv_iconst (v := (-1)) hx hb d_Line_symbolAt_12 (by decide) ?_
    have e0 := Option.some.inj hF
    exact W.iret (v := (-1)) hx hb hr (fun t ht hW => ⟨⟨(-1), (), rfl, e0, by rw [ht]; exact hP, va_K.moved hW.alike hK, (by exact hD)⟩, hS.F ht⟩) hS.2.2 d_Line_symbolAt_13 hlocks
  · rw [if_neg c_1] at hF
    refine lv_iload_n hx hb d_Line_symbolAt_4 rfl (lv_at hl 1 rfl) ?_
    refine lv_aload_n hx hb d_Line_symbolAt_5 rfl (lv_at hl 0 rfl) ?_
    refine va_get (D := (dC, dI)) (ci := 3) (v := .int x0_1) (C := R_Line) (T := F_Line) (N := 2) hx hb hg iw_Line hown hK hP 0 rfl rfl 1 (by decide) (hg _ gw_21) (fun _ h9 => h9) rfl d_Line_symbolAt_6 ?_
    refine lv_icmp_lt (tgt := 14) hx hb d_Line_symbolAt_9 (by decide) (fun c_2 => ?_) (fun c_2 => ?_)
    · rw [if_pos c_2] at hF
      refine lv_aload_n hx hb d_Line_symbolAt_14 rfl (lv_at hl 0 rfl) ?_
      refine va_get (D := (dC, dI)) (ci := 3) (v := .ref a1) (C := R_Line) (T := F_Line) (N := 2) hx hb hg iw_Line hown hK hP 0 rfl rfl 0 (by decide) (hg _ gw_22) (fun _ h9 => h9) rfl d_Line_symbolAt_15 ?_
      refine lv_iload_n hx hb d_Line_symbolAt_18 rfl (lv_at hl 1 rfl) ?_
      obtain ⟨h_3, hF⟩ := rd_chk hF
      refine va_cald hx hb hK hP 1 2 rfl rfl h_3 d_Line_symbolAt_19 ?_
      refine lv_istore_n (lv' := [(2, .int (f1 (Int32.toNatClampNeg p1))), (0, .ref a0), (1, .int p1)]) hx hb d_Line_symbolAt_20 rfl hl (by decide) rfl (fun ls hl => ?_)
      refine lv_iload_n hx hb d_Line_symbolAt_21 rfl (lv_at hl 0 rfl) ?_
      refine lv_bipush (v := 97) hx hb d_Line_symbolAt_22 (by decide) ?_
      refine lv_icmp_lt (tgt := 38) hx hb d_Line_symbolAt_24 (by decide) (fun c_4 => ?_) (fun c_4 => ?_)
      · rw [if_pos c_4] at hF
        refine lv_iload_n hx hb d_Line_symbolAt_38 rfl (lv_at hl 0 rfl) ?_
        refine lv_bipush (v := 65) hx hb d_Line_symbolAt_39 (by decide) ?_
        refine lv_icmp_lt (tgt := 58) hx hb d_Line_symbolAt_41 (by decide) (fun c_5 => ?_) (fun c_5 => ?_)
        · rw [if_pos c_5] at hF
          refine lv_iconst (v := (-1)) hx hb d_Line_symbolAt_58 (by decide) ?_
          have e0 := Option.some.inj hF
          exact W.iret (v := (-1)) hx hb hr (fun t ht hW => ⟨⟨(-1), (), rfl, e0, by rw [ht]; exact hP, va_K.moved hW.alike hK, (by exact hD)⟩, hS.F ht⟩) hS.2.2 d_Line_symbolAt_59 hlocks
        · rw [if_neg c_5] at hF
          refine lv_iload_n hx hb d_Line_symbolAt_44 rfl (lv_at hl 0 rfl) ?_
          refine lv_bipush (v := 70) hx hb d_Line_symbolAt_45 (by decide) ?_
          refine lv_icmp_gt (tgt := 58) hx hb d_Line_symbolAt_47 (by decide) (fun c_6 => ?_) (fun c_6 => ?_)
          · rw [if_pos c_6] at hF
            refine lv_iconst (v := (-1)) hx hb d_Line_symbolAt_58 (by decide) ?_
            have e0 := Option.some.inj hF
            exact W.iret (v := (-1)) hx hb hr (fun t ht hW => ⟨⟨(-1), (), rfl, e0, by rw [ht]; exact hP, va_K.moved hW.alike hK, (by exact hD)⟩, hS.F ht⟩) hS.2.2 d_Line_symbolAt_59 hlocks
          · rw [if_neg c_6] at hF
            refine lv_bipush (v := 6) hx hb d_Line_symbolAt_50 (by decide) ?_
            refine lv_iload_n hx hb d_Line_symbolAt_52 rfl (lv_at hl 0 rfl) ?_
            refine lv_bipush (v := 65) hx hb d_Line_symbolAt_53 (by decide) ?_
            refine lv_isub hx hb d_Line_symbolAt_55 ?_
            refine lv_iadd hx hb d_Line_symbolAt_56 ?_
            have e0 := Option.some.inj hF
            exact W.iret (v := (6 + ((f1 (Int32.toNatClampNeg p1)) - 65))) hx hb hr (fun t ht hW => ⟨⟨(6 + ((f1 (Int32.toNatClampNeg p1)) - 65)), (), rfl, e0, by rw [ht]; exact hP, va_K.moved hW.alike hK, (by exact hD)⟩, hS.F ht⟩) hS.2.2 d_Line_symbolAt_57 hlocks
      · rw [if_neg c_4] at hF
        refine lv_iload_n hx hb d_Line_symbolAt_27 rfl (lv_at hl 0 rfl) ?_
        refine lv_bipush (v := 102) hx hb d_Line_symbolAt_28 (by decide) ?_
        refine lv_icmp_gt (tgt := 38) hx hb d_Line_symbolAt_30 (by decide) (fun c_7 => ?_) (fun c_7 => ?_)
        · rw [if_pos c_7] at hF
          refine lv_iload_n hx hb d_Line_symbolAt_38 rfl (lv_at hl 0 rfl) ?_
          refine lv_bipush (v := 65) hx hb d_Line_symbolAt_39 (by decide) ?_
          refine lv_icmp_lt (tgt := 58) hx hb d_Line_symbolAt_41 (by decide) (fun c_8 => ?_) (fun c_8 => ?_)
          · rw [if_pos c_8] at hF
            refine lv_iconst (v := (-1)) hx hb d_Line_symbolAt_58 (by decide) ?_
            have e0 := Option.some.inj hF
            exact W.iret (v := (-1)) hx hb hr (fun t ht hW => ⟨⟨(-1), (), rfl, e0, by rw [ht]; exact hP, va_K.moved hW.alike hK, (by exact hD)⟩, hS.F ht⟩) hS.2.2 d_Line_symbolAt_59 hlocks
          · rw [if_neg c_8] at hF
            refine lv_iload_n hx hb d_Line_symbolAt_44 rfl (lv_at hl 0 rfl) ?_
            refine lv_bipush (v := 70) hx hb d_Line_symbolAt_45 (by decide) ?_
            refine lv_icmp_gt (tgt := 58) hx hb d_Line_symbolAt_47 (by decide) (fun c_9 => ?_) (fun c_9 => ?_)
            · rw [if_pos c_9] at hF
              refine lv_iconst (v := (-1)) hx hb d_Line_symbolAt_58 (by decide) ?_
              have e0 := Option.some.inj hF
              exact W.iret (v := (-1)) hx hb hr (fun t ht hW => ⟨⟨(-1), (), rfl, e0, by rw [ht]; exact hP, va_K.moved hW.alike hK, (by exact hD)⟩, hS.F ht⟩) hS.2.2 d_Line_symbolAt_59 hlocks
            · rw [if_neg c_9] at hF
              refine lv_bipush (v := 6) hx hb d_Line_symbolAt_50 (by decide) ?_
              refine lv_iload_n hx hb d_Line_symbolAt_52 rfl (lv_at hl 0 rfl) ?_
              refine lv_bipush (v := 65) hx hb d_Line_symbolAt_53 (by decide) ?_
              refine lv_isub hx hb d_Line_symbolAt_55 ?_
              refine lv_iadd hx hb d_Line_symbolAt_56 ?_
              have e0 := Option.some.inj hF
              exact W.iret (v := (6 + ((f1 (Int32.toNatClampNeg p1)) - 65))) hx hb hr (fun t ht hW => ⟨⟨(6 + ((f1 (Int32.toNatClampNeg p1)) - 65)), (), rfl, e0, by rw [ht]; exact hP, va_K.moved hW.alike hK, (by exact hD)⟩, hS.F ht⟩) hS.2.2 d_Line_symbolAt_57 hlocks
        · rw [if_neg c_7] at hF
          refine lv_iload_n hx hb d_Line_symbolAt_33 rfl (lv_at hl 0 rfl) ?_
          refine lv_bipush (v := 97) hx hb d_Line_symbolAt_34 (by decide) ?_
          refine lv_isub hx hb d_Line_symbolAt_36 ?_
          have e0 := Option.some.inj hF
          exact W.iret (v := ((f1 (Int32.toNatClampNeg p1)) - 97)) hx hb hr (fun t ht hW => ⟨⟨((f1 (Int32.toNatClampNeg p1)) - 97), (), rfl, e0, by rw [ht]; exact hP, va_K.moved hW.alike hK, (by exact hD)⟩, hS.F ht⟩) hS.2.2 d_Line_symbolAt_37 hlocks
    · rw [if_neg c_2] at hF
      refine lv_iconst (v := (-1)) hx hb d_Line_symbolAt_12 (by decide) ?_
      have e0 := Option.some.inj hF
      exact W.iret (v := (-1)) hx hb hr (fun t ht hW => ⟨⟨(-1), (), rfl, e0, by rw [ht]; exact hP, va_K.moved hW.alike hK, (by exact hD)⟩, hS.F ht⟩) hS.2.2 d_Line_symbolAt_13 hlocks
-- ===== RepairDesk$Line.isEqualsSign(I)Z
abbrev wd_Line_isEqualsSign (kA : Nat → ClassId) (a0 a1 : Nat) (x0_1 : Int32) (f1 : (Nat → Int32)) : va_W := [(a0, .inr (3, [.ref a1, .int x0_1])), (a1, .inl (kA 2, 10, .inl f1))]
abbrev rm_Line_isEqualsSign : Room := { frames := 0, cells := 0, slots := 0, locals := 0 }
def S_Line_isEqualsSign (p1 : Int32) (x0_1 : Int32) (f1 : (Nat → Int32)) : Option (Int32) := (if p1 < 0 then (some 0) else (if x0_1 ≤ p1 then (some 0) else (if (p1 : Int32) < 0 ∨ 10 ≤ (Int32.toNatClampNeg p1) then none else (if ¬ (f1 (Int32.toNatClampNeg p1)) = 61 then (some 0) else (some 1)))))
set_option maxHeartbeats 4000000 in
set_option maxRecDepth 100000 in
theorem c_Line_isEqualsSign (l : Launch) (dC : Nat → ClassId) (dI : Nat → Nat → Nat) (kA : Nat → ClassId) (sz : Nat) (a0 a1 : Nat) (p1 : Int32) (x0_1 : Int32) (f1 : (Nat → Int32)) (r : Int32) (hF : S_Line_isEqualsSign p1 x0_1 f1 = some r) : Met l y_Line_isEqualsSign w_Line_isEqualsSign rm_Line_isEqualsSign (va_Pc [.ref a0, .int p1] (fun U => U.heap.size = sz ∧ va_P (dC, dI) classes (wd_Line_isEqualsSign kA a0 a1 x0_1 f1) U.heap ∧ va_K (dC, dI) classes (tys_ kA) U ∧ va_D (fun _ => True) (wd_Line_isEqualsSign kA a0 a1 x0_1 f1))) (va_Qi (fun (r1 : Int32) (_ : Unit) => r1 = r) (fun _ t => va_P (dC, dI) classes (wd_Line_isEqualsSign kA a0 a1 x0_1 f1) t.heap ∧ va_K (dC, dI) classes (tys_ kA) t ∧ va_D (va_A (wd_Line_isEqualsSign kA a0 a1 x0_1 f1) sz) (wd_Line_isEqualsSign kA a0 a1 x0_1 f1)) (va_A (wd_Line_isEqualsSign kA a0 a1 x0_1 f1) sz)) 0 0 (va_A (wd_Line_isEqualsSign kA a0 a1 x0_1 f1) sz) := by
  refine Met.ofW (cc := b_Line_isEqualsSign) (maxL := 2) (ret := some .boolean) (by decide) rfl ?_
  intro p e s m args below meth c s₁ B hml hv
  obtain ⟨rfl, hsz, hP, hK, hD0⟩ := hv
  have hx := B.exec
  have hb := B.bytes
  have hr := B.returns
  have hts := atoms_spec (ws := w_Line_isEqualsSign) B.pre
  have hown : s.vm.findClass R_Line = some m.cls := findClass_of_methodNamed B.named
  have hg := fun (w : Cond) (h : w ∈ gw) => hts w (List.mem_cons_of_mem _ h)
  have hlocks := B.notSynchronized
  subst hsz
  have hD := hD0.self (sz := s.heap.size)
  generalize hAe : va_A (wd_Line_isEqualsSign kA a0 a1 x0_1 f1) s.heap.size = A at hD ⊢
  have hA : ∀ q : Nat, s.heap.size ≤ q → A q := fun q h => by rw [← hAe]; exact Or.inr h
  have hS : va_S A s.heap s.heap [] := va_S.rf
  have hl := lv_entry ([.ref a0, .int p1]) (n := 2) (Nat.le_of_ble_eq_true rfl)
  rw [lg_entry_eq]
  generalize (lg_sl ([.ref a0, .int p1]) ++ List.replicate (2 - (lg_sl ([.ref a0, .int p1])).length) Slot.unset).toArray = ls at hl ⊢
  have hl : lv_has ls 2 [(0, .ref a0), (1, .int p1)] := hl
  unfold S_Line_isEqualsSign at hF
  refine lv_iload_n hx hb d_Line_isEqualsSign_0 rfl (lv_at hl 1 rfl) ?_
  refine lv_if_lt (tgt := 27) hx hb d_Line_isEqualsSign_1 (by decide) (fun c_1 => ?_) (fun c_1 => ?_)
  · rw [if_pos c_1] at hF
    refine lv_iconst (v := 0) hx hb d_Line_isEqualsSign_27 (by decide) ?_
    have e0 := Option.some.inj hF
    exact W.zret (v := 0) hx hb hr rfl (fun t ht hW => ⟨⟨0, (), rfl, e0, by rw [ht]; exact hP, va_K.moved hW.alike hK, (by exact hD)⟩, hS.F ht⟩) hS.2.2 d_Line_isEqualsSign_28 hlocks
  · rw [if_neg c_1] at hF
    refine lv_iload_n hx hb d_Line_isEqualsSign_4 rfl (lv_at hl 1 rfl) ?_
    refine lv_aload_n hx hb d_Line_isEqualsSign_5 rfl (lv_at hl 0 rfl) ?_
    refine va_get (D := (dC, dI)) (ci := 3) (v := .int x0_1) (C := R_Line) (T := F_Line) (N := 2) hx hb hg iw_Line hown hK hP 0 rfl rfl 1 (by decide) (hg _ gw_21) (fun _ h9 => h9) rfl d_Line_isEqualsSign_6 ?_
    refine lv_icmp_ge (tgt := 27) hx hb d_Line_isEqualsSign_9 (by decide) (fun c_2 => ?_) (fun c_2 => ?_)
    · rw [if_pos c_2] at hF
      refine lv_iconst (v := 0) hx hb d_Line_isEqualsSign_27 (by decide) ?_
      have e0 := Option.some.inj hF
      exact W.zret (v := 0) hx hb hr rfl (fun t ht hW => ⟨⟨0, (), rfl, e0, by rw [ht]; exact hP, va_K.moved hW.alike hK, (by exact hD)⟩, hS.F ht⟩) hS.2.2 d_Line_isEqualsSign_28 hlocks
    · rw [if_neg c_2] at hF
      refine lv_aload_n hx hb d_Line_isEqualsSign_12 rfl (lv_at hl 0 rfl) ?_
      refine va_get (D := (dC, dI)) (ci := 3) (v := .ref a1) (C := R_Line) (T := F_Line) (N := 2) hx hb hg iw_Line hown hK hP 0 rfl rfl 0 (by decide) (hg _ gw_22) (fun _ h9 => h9) rfl d_Line_isEqualsSign_13 ?_
      refine lv_iload_n hx hb d_Line_isEqualsSign_16 rfl (lv_at hl 1 rfl) ?_
      obtain ⟨h_3, hF⟩ := rd_chk hF
      refine va_cald hx hb hK hP 1 2 rfl rfl h_3 d_Line_isEqualsSign_17 ?_
      refine lv_bipush (v := 61) hx hb d_Line_isEqualsSign_18 (by decide) ?_
      refine lv_icmp_ne (tgt := 27) hx hb d_Line_isEqualsSign_20 (by decide) (fun c_4 => ?_) (fun c_4 => ?_)
      · rw [if_pos c_4] at hF
        refine lv_iconst (v := 0) hx hb d_Line_isEqualsSign_27 (by decide) ?_
        have e0 := Option.some.inj hF
        exact W.zret (v := 0) hx hb hr rfl (fun t ht hW => ⟨⟨0, (), rfl, e0, by rw [ht]; exact hP, va_K.moved hW.alike hK, (by exact hD)⟩, hS.F ht⟩) hS.2.2 d_Line_isEqualsSign_28 hlocks
      · rw [if_neg (fun z => z c_4)] at hF
        refine lv_iconst (v := 1) hx hb d_Line_isEqualsSign_23 (by decide) ?_
        refine lv_goto (tgt := 28) hx hb d_Line_isEqualsSign_24 (by decide) ?_
        have e0 := Option.some.inj hF
        exact W.zret (v := 1) hx hb hr rfl (fun t ht hW => ⟨⟨1, (), rfl, e0, by rw [ht]; exact hP, va_K.moved hW.alike hK, (by exact hD)⟩, hS.F ht⟩) hS.2.2 d_Line_isEqualsSign_28 hlocks
-- ===== RepairDesk$Line.add(C)Z
abbrev wd_Line_add (kA : Nat → ClassId) (a0 a1 : Nat) (x0_1 : Int32) (f1 : (Nat → Int32)) : va_W := [(a0, .inr (3, [.ref a1, .int x0_1])), (a1, .inl (kA 2, 10, .inl f1))]
abbrev rm_Line_add : Room := { frames := 0, cells := 0, slots := 0, locals := 0 }
def S_Line_add (p1 : Int32) (x0_1 : Int32) (f1 : (Nat → Int32)) : Option (Int32 × Int32 × (Nat → Int32)) := (if p1 < 32 then (some (0, x0_1, f1)) else (if 126 < p1 then (some (0, x0_1, f1)) else (if x0_1 < 10 then (if (x0_1 : Int32) < 0 ∨ 10 ≤ (Int32.toNatClampNeg x0_1) then none else (some (1, (x0_1 + 1), (upd f1 (Int32.toNatClampNeg x0_1) (vp_nar .char p1))))) else (some (0, x0_1, f1)))))
set_option maxHeartbeats 4000000 in
set_option maxRecDepth 100000 in
theorem c_Line_add (l : Launch) (dC : Nat → ClassId) (dI : Nat → Nat → Nat) (kA : Nat → ClassId) (sz : Nat) (a0 a1 : Nat) (p1 : Int32) (x0_1 : Int32) (f1 : (Nat → Int32)) (r : Int32) (ox0_1 : Int32) (of1 : (Nat → Int32)) (hF : S_Line_add p1 x0_1 f1 = some (r, ox0_1, of1)) : Met l y_Line_add w_Line_add rm_Line_add (va_Pc [.ref a0, .int p1] (fun U => U.heap.size = sz ∧ va_P (dC, dI) classes (wd_Line_add kA a0 a1 x0_1 f1) U.heap ∧ va_K (dC, dI) classes (tys_ kA) U ∧ va_D (fun _ => True) (wd_Line_add kA a0 a1 x0_1 f1))) (va_Qi (fun (r1 : Int32) (_ : Unit) => r1 = r) (fun _ t => va_P (dC, dI) classes (wd_Line_add kA a0 a1 ox0_1 of1) t.heap ∧ va_K (dC, dI) classes (tys_ kA) t ∧ va_D (va_A (wd_Line_add kA a0 a1 x0_1 f1) sz) (wd_Line_add kA a0 a1 ox0_1 of1)) (va_A (wd_Line_add kA a0 a1 x0_1 f1) sz)) 0 0 (va_A (wd_Line_add kA a0 a1 x0_1 f1) sz) := by
  refine Met.ofW (cc := b_Line_add) (maxL := 2) (ret := some .boolean) (by decide) rfl ?_
  intro p e s m args below meth c s₁ B hml hv
  obtain ⟨rfl, hsz, hP, hK, hD0⟩ := hv
  have hx := B.exec
  have hb := B.bytes
  have hr := B.returns
  have hts := atoms_spec (ws := w_Line_add) B.pre
  have hown : s.vm.findClass R_Line = some m.cls := findClass_of_methodNamed B.named
  have hg := fun (w : Cond) (h : w ∈ gw) => hts w (List.mem_cons_of_mem _ h)
  have hlocks := B.notSynchronized
  subst hsz
  have hD := hD0.self (sz := s.heap.size)
  generalize hAe : va_A (wd_Line_add kA a0 a1 x0_1 f1) s.heap.size = A at hD ⊢
  have hA : ∀ q : Nat, s.heap.size ≤ q → A q := fun q h => by rw [← hAe]; exact Or.inr h
  have hS : va_S A s.heap s.heap [] := va_S.rf
  have hl := lv_entry ([.ref a0, .int p1]) (n := 2) (Nat.le_of_ble_eq_true rfl)
  rw [lg_entry_eq]
  generalize (lg_sl ([.ref a0, .int p1]) ++ List.replicate (2 - (lg_sl ([.ref a0, .int p1])).length) Slot.unset).toArray = ls at hl ⊢
  have hl : lv_has ls 2 [(0, .ref a0), (1, .int p1)] := hl
  unfold S_Line_add at hF
  refine lv_iload_n hx hb d_Line_add_0 rfl (lv_at hl 1 rfl) ?_
  refine lv_bipush (v := 32) hx hb d_Line_add_1 (by decide) ?_
  refine lv_icmp_lt (tgt := 21) hx hb d_Line_add_3 (by decide) (fun c_1 => ?_) (fun c_1 => ?_)
  · rw [if_pos c_1] at hF
    refine lv_iconst (v := 0) hx hb d_Line_add_21 (by decide) ?_
    have e0 := Option.some.inj hF
    have q0 := Prod.mk.inj e0
    have q1 := Prod.mk.inj q0.2
    exact W.zret (v := 0) hx hb hr rfl (fun t ht hW => ⟨⟨0, (), rfl, q0.1, by rw [ht, ← q1.1, ← q1.2]; exact hP, va_K.moved hW.alike hK, (by rw [← q1.1, ← q1.2]; exact hD)⟩, hS.F ht⟩) hS.2.2 d_Line_add_22 hlocks
  · rw [if_neg c_1] at hF
    refine lv_iload_n hx hb d_Line_add_6 rfl (lv_at hl 1 rfl) ?_
    refine lv_bipush (v := 126) hx hb d_Line_add_7 (by decide) ?_
    refine lv_icmp_gt (tgt := 21) hx hb d_Line_add_9 (by decide) (fun c_2 => ?_) (fun c_2 => ?_)
    · rw [if_pos c_2] at hF
      refine lv_iconst (v := 0) hx hb d_Line_add_21 (by decide) ?_
      have e0 := Option.some.inj hF
      have q0 := Prod.mk.inj e0
      have q1 := Prod.mk.inj q0.2
      exact W.zret (v := 0) hx hb hr rfl (fun t ht hW => ⟨⟨0, (), rfl, q0.1, by rw [ht, ← q1.1, ← q1.2]; exact hP, va_K.moved hW.alike hK, (by rw [← q1.1, ← q1.2]; exact hD)⟩, hS.F ht⟩) hS.2.2 d_Line_add_22 hlocks
    · rw [if_neg c_2] at hF
      refine lv_aload_n hx hb d_Line_add_12 rfl (lv_at hl 0 rfl) ?_
      refine va_get (D := (dC, dI)) (ci := 3) (v := .int x0_1) (C := R_Line) (T := F_Line) (N := 2) hx hb hg iw_Line hown hK hP 0 rfl rfl 1 (by decide) (hg _ gw_21) (fun _ h9 => h9) rfl d_Line_add_13 ?_
      refine lv_bipush (v := 10) hx hb d_Line_add_16 (by decide) ?_
      refine lv_icmp_lt (tgt := 23) hx hb d_Line_add_18 (by decide) (fun c_3 => ?_) (fun c_3 => ?_)
      · rw [if_pos c_3] at hF
        refine lv_aload_n hx hb d_Line_add_23 rfl (lv_at hl 0 rfl) ?_
        refine va_get (D := (dC, dI)) (ci := 3) (v := .ref a1) (C := R_Line) (T := F_Line) (N := 2) hx hb hg iw_Line hown hK hP 0 rfl rfl 0 (by decide) (hg _ gw_22) (fun _ h9 => h9) rfl d_Line_add_24 ?_
        refine lv_aload_n hx hb d_Line_add_27 rfl (lv_at hl 0 rfl) ?_
        refine va_get (D := (dC, dI)) (ci := 3) (v := .int x0_1) (C := R_Line) (T := F_Line) (N := 2) hx hb hg iw_Line hown hK hP 0 rfl rfl 1 (by decide) (hg _ gw_21) (fun _ h9 => h9) rfl d_Line_add_28 ?_
        refine lv_iload_n hx hb d_Line_add_31 rfl (lv_at hl 1 rfl) ?_
        obtain ⟨h_4, hF⟩ := rd_chk hF
        refine va_cast hx hb hK hP hD hS 1 2 rfl rfl h_4 d_Line_add_32 (fun H locs hP hD hS => ?_)
        have hP : va_P (dC, dI) classes (wd_Line_add kA a0 a1 x0_1 (upd f1 (Int32.toNatClampNeg x0_1) (vp_nar .char p1))) H := hP
        have hD : va_D A (wd_Line_add kA a0 a1 x0_1 (upd f1 (Int32.toNatClampNeg x0_1) (vp_nar .char p1))) := hD
        refine lv_aload_n hx hb d_Line_add_33 rfl (lv_at hl 0 rfl) ?_
        refine lv_dup hx hb d_Line_add_34 rfl ?_
        refine va_get (D := (dC, dI)) (ci := 3) (v := .int x0_1) (C := R_Line) (T := F_Line) (N := 2) hx hb hg iw_Line hown hK hP 0 rfl rfl 1 (by decide) (hg _ gw_21) (fun _ h9 => h9) rfl d_Line_add_35 ?_
        refine lv_iconst (v := 1) hx hb d_Line_add_38 (by decide) ?_
        refine lv_iadd hx hb d_Line_add_39 ?_
        refine va_put (D := (dC, dI)) (ci := 3) (v := .int (x0_1 + 1)) (ty := .int) (C := R_Line) (T := F_Line) (N := 2) hx hb hg iw_Line t_Line t_Line_ok n_Line hown hK hP hD hS 0 rfl rfl 1 (by decide) (hg _ gw_21) (fun _ h9 => h9) rfl (by decide +kernel) rfl rfl (Nat.le_of_ble_eq_true rfl) d_Line_add_40 (fun H locs hP hD hS => ?_)
        have hP : va_P (dC, dI) classes (wd_Line_add kA a0 a1 (x0_1 + 1) (upd f1 (Int32.toNatClampNeg x0_1) (vp_nar .char p1))) H := hP
        have hD : va_D A (wd_Line_add kA a0 a1 (x0_1 + 1) (upd f1 (Int32.toNatClampNeg x0_1) (vp_nar .char p1))) := hD
        refine lv_iconst (v := 1) hx hb d_Line_add_43 (by decide) ?_
        have e0 := Option.some.inj hF
        have q0 := Prod.mk.inj e0
        have q1 := Prod.mk.inj q0.2
        exact W.zret (v := 1) hx hb hr rfl (fun t ht hW => ⟨⟨1, (), rfl, q0.1, by rw [ht, ← q1.1, ← q1.2]; exact hP, va_K.moved hW.alike hK, (by rw [← q1.1, ← q1.2]; exact hD)⟩, hS.F ht⟩) hS.2.2 d_Line_add_44 hlocks
      · rw [if_neg c_3] at hF
        refine lv_iconst (v := 0) hx hb d_Line_add_21 (by decide) ?_
        have e0 := Option.some.inj hF
        have q0 := Prod.mk.inj e0
        have q1 := Prod.mk.inj q0.2
        exact W.zret (v := 0) hx hb hr rfl (fun t ht hW => ⟨⟨0, (), rfl, q0.1, by rw [ht, ← q1.1, ← q1.2]; exact hP, va_K.moved hW.alike hK, (by rw [← q1.1, ← q1.2]; exact hD)⟩, hS.F ht⟩) hS.2.2 d_Line_add_22 hlocks
-- ===== RepairDesk$Line.clear()V
abbrev wd_Line_clear (kA : Nat → ClassId) (a0 : Nat) (v0_0 : Value) (x0_1 : Int32) : va_W := [(a0, .inr (3, [v0_0, .int x0_1]))]
abbrev rm_Line_clear : Room := { frames := 0, cells := 0, slots := 0, locals := 0 }
def S_Line_clear (x0_1 : Int32) : Option (Int32) := (some 0)
set_option maxHeartbeats 4000000 in
set_option maxRecDepth 100000 in
theorem c_Line_clear (l : Launch) (dC : Nat → ClassId) (dI : Nat → Nat → Nat) (kA : Nat → ClassId) (sz : Nat) (a0 : Nat) (v0_0 : Value) (x0_1 : Int32) (ox0_1 : Int32) (hF : S_Line_clear x0_1 = some ox0_1) : Met l y_Line_clear w_Line_clear rm_Line_clear (va_Pc [.ref a0] (fun U => U.heap.size = sz ∧ va_P (dC, dI) classes (wd_Line_clear kA a0 v0_0 x0_1) U.heap ∧ va_K (dC, dI) classes (tys_ kA) U ∧ va_D (fun _ => True) (wd_Line_clear kA a0 v0_0 x0_1))) (va_Qv (fun (_ : Unit) => True) (fun _ t => va_P (dC, dI) classes (wd_Line_clear kA a0 v0_0 ox0_1) t.heap ∧ va_K (dC, dI) classes (tys_ kA) t ∧ va_D (va_A (wd_Line_clear kA a0 v0_0 x0_1) sz) (wd_Line_clear kA a0 v0_0 ox0_1)) (va_A (wd_Line_clear kA a0 v0_0 x0_1) sz)) 0 0 (va_A (wd_Line_clear kA a0 v0_0 x0_1) sz) := by
  refine Met.ofW (cc := b_Line_clear) (maxL := 1) (ret := none) (by decide) rfl ?_
  intro p e s m args below meth c s₁ B hml hv
  obtain ⟨rfl, hsz, hP, hK, hD0⟩ := hv
  have hx := B.exec
  have hb := B.bytes
  have hr := B.returns
  have hts := atoms_spec (ws := w_Line_clear) B.pre
  have hown : s.vm.findClass R_Line = some m.cls := findClass_of_methodNamed B.named
  have hg := fun (w : Cond) (h : w ∈ gw) => hts w (List.mem_cons_of_mem _ h)
  have hlocks := B.notSynchronized
  subst hsz
  have hD := hD0.self (sz := s.heap.size)
  generalize hAe : va_A (wd_Line_clear kA a0 v0_0 x0_1) s.heap.size = A at hD ⊢
  have hA : ∀ q : Nat, s.heap.size ≤ q → A q := fun q h => by rw [← hAe]; exact Or.inr h
  have hS : va_S A s.heap s.heap [] := va_S.rf
  have hl := lv_entry ([.ref a0]) (n := 1) (Nat.le_of_ble_eq_true rfl)
  rw [lg_entry_eq]
  generalize (lg_sl ([.ref a0]) ++ List.replicate (1 - (lg_sl ([.ref a0])).length) Slot.unset).toArray = ls at hl ⊢
  have hl : lv_has ls 1 [(0, .ref a0)] := hl
  unfold S_Line_clear at hF
  refine lv_aload_n hx hb d_Line_clear_0 rfl (lv_at hl 0 rfl) ?_
  refine lv_iconst (v := 0) hx hb d_Line_clear_1 (by decide) ?_
  refine va_put (D := (dC, dI)) (ci := 3) (v := .int 0) (ty := .int) (C := R_Line) (T := F_Line) (N := 2) hx hb hg iw_Line t_Line t_Line_ok n_Line hown hK hP hD hS 0 rfl rfl 1 (by decide) (hg _ gw_21) (fun _ h9 => h9) rfl (by decide +kernel) rfl rfl (Nat.le_of_ble_eq_true rfl) d_Line_clear_2 (fun H locs hP hD hS => ?_)
  have hP : va_P (dC, dI) classes (wd_Line_clear kA a0 v0_0 0) H := hP
  have hD : va_D A (wd_Line_clear kA a0 v0_0 0) := hD
  have e0 := Option.some.inj hF
  exact W.vret hx hb hr (fun t ht hW => ⟨⟨(), rfl, trivial, by rw [ht, ← e0]; exact hP, va_K.moved hW.alike hK, (by rw [← e0]; exact hD)⟩, hS.F ht⟩) hS.2.2 d_Line_clear_5 hlocks
