-- ===== RepairDeskModel.follows(I)I
abbrev wd_Model_follows (kA : Nat → ClassId) (a0 a1 a2 a3 a4 a5 : Nat) (v0_0 v0_1 v0_2 v0_3 v0_4 v0_5 v0_6 v0_7 v0_8 v0_9 v0_10 v0_11 v0_12 v0_13 v0_14 v0_19 v0_22 v0_23 v0_24 v0_25 : Value) (x0_15 : Int32) (x0_16 : Int32) (x0_27 : Int32) (x0_28 : Int32) (f1 : (Nat → Int32)) (f2 : (Nat → Int32)) (f3 : (Nat → Int32)) (f4 : (Nat → Int32)) (f5 : (Nat → Int32)) : va_W := [(a0, .inr (9, [v0_0, v0_1, v0_2, v0_3, v0_4, v0_5, v0_6, v0_7, v0_8, v0_9, v0_10, v0_11, v0_12, v0_13, v0_14, .int x0_15, .int x0_16, .ref a5, .ref a1, v0_19, .ref a2, .ref a4, v0_22, v0_23, v0_24, v0_25, .ref a3, .int x0_27, .int x0_28])), (a1, .inl (kA 0, 24, .inl f1)), (a2, .inl (kA 0, 6, .inl f2)), (a3, .inl (kA 0, 8, .inl f3)), (a4, .inl (kA 0, 6, .inl f4)), (a5, .inl (kA 0, 16, .inl f5))]
abbrev rm_Model_follows : Room := { frames := 0, cells := 0, slots := 0, locals := 0 }
def B_Model_follows_0 (K : Nat → Int32 → Int32 → Int32 → Int32 → Int32 → Int32 → Int32 → Int32 → Int32 → (Nat → Int32) → Option (Int32 × Int32 × Int32 × (Nat → Int32))) (x0_15 : Int32) (x0_16 : Int32) (f2 : (Nat → Int32)) (f3 : (Nat → Int32)) (f4 : (Nat → Int32)) (f5 : (Nat → Int32)) (l1 : Int32) (l2 : Int32) (l3 : Int32) (l4 : Int32) (l5 : Int32) (s0 : Int32) (s1 : Int32) (x0_27 : Int32) (x0_28 : Int32) (f1 : (Nat → Int32)) : Option (Int32 × Int32 × Int32 × (Nat → Int32)) := (if x0_16 ≤ l4 then (K 1 l1 l2 l3 0 0 0 0 x0_27 x0_28 f1) else (if (l4 : Int32) < 0 ∨ 16 ≤ (Int32.toNatClampNeg l4) then none else (if (l4 : Int32) < 0 ∨ 24 ≤ (Int32.toNatClampNeg l4) then none else (K 0 l1 l2 l3 (l4 + 1) 0 0 0 x0_27 x0_28 (upd f1 (Int32.toNatClampNeg l4) (f5 (Int32.toNatClampNeg l4)))))))
def B_Model_follows_1 (K : Nat → Int32 → Int32 → Int32 → Int32 → Int32 → Int32 → Int32 → Int32 → Int32 → (Nat → Int32) → Option (Int32 × Int32 × Int32 × (Nat → Int32))) (x0_15 : Int32) (x0_16 : Int32) (f2 : (Nat → Int32)) (f3 : (Nat → Int32)) (f4 : (Nat → Int32)) (f5 : (Nat → Int32)) (l1 : Int32) (l2 : Int32) (l3 : Int32) (l4 : Int32) (l5 : Int32) (s0 : Int32) (s1 : Int32) (x0_27 : Int32) (x0_28 : Int32) (f1 : (Nat → Int32)) : Option (Int32 × Int32 × Int32 × (Nat → Int32)) := (if l1 ≤ l4 then (if l3 ≤ 3 then (some (l2, x0_27, x0_28, f1)) else (some ((-1), x0_27, x0_28, f1))) else (if (l4 : Int32) < 0 ∨ 8 ≤ (Int32.toNatClampNeg l4) then none else (if (f3 (Int32.toNatClampNeg l4)) < 6 then (K 2 l1 l2 l3 l4 (f3 (Int32.toNatClampNeg l4)) 0 0 x0_27 x0_28 f1) else (if x0_15 ≤ x0_28 then (some ((-1), x0_27, x0_28, f1)) else (K 2 l1 l2 l3 l4 (f3 (Int32.toNatClampNeg l4)) 0 0 x0_27 x0_28 f1)))))
def B_Model_follows_2 (K : Nat → Int32 → Int32 → Int32 → Int32 → Int32 → Int32 → Int32 → Int32 → Int32 → (Nat → Int32) → Option (Int32 × Int32 × Int32 × (Nat → Int32))) (x0_15 : Int32) (x0_16 : Int32) (f2 : (Nat → Int32)) (f3 : (Nat → Int32)) (f4 : (Nat → Int32)) (f5 : (Nat → Int32)) (l1 : Int32) (l2 : Int32) (l3 : Int32) (l4 : Int32) (l5 : Int32) (s0 : Int32) (s1 : Int32) (x0_27 : Int32) (x0_28 : Int32) (f1 : (Nat → Int32)) : Option (Int32 × Int32 × Int32 × (Nat → Int32)) := (if 6 ≤ l5 then (K 3 l1 l2 l3 l4 l5 0 0 x0_27 x0_28 f1) else (if l4 ≤ 0 then (K 3 l1 l2 l3 l4 l5 0 0 x0_27 x0_28 f1) else (if ((l4 - 1) : Int32) < 0 ∨ 8 ≤ (Int32.toNatClampNeg (l4 - 1)) then none else (if ¬ (f3 (Int32.toNatClampNeg (l4 - 1))) = 6 then (K 3 l1 l2 l3 l4 l5 0 0 x0_27 x0_28 f1) else (some ((-1), x0_27, x0_28, f1))))))
def B_Model_follows_3 (K : Nat → Int32 → Int32 → Int32 → Int32 → Int32 → Int32 → Int32 → Int32 → Int32 → (Nat → Int32) → Option (Int32 × Int32 × Int32 × (Nat → Int32))) (x0_15 : Int32) (x0_16 : Int32) (f2 : (Nat → Int32)) (f3 : (Nat → Int32)) (f4 : (Nat → Int32)) (f5 : (Nat → Int32)) (l1 : Int32) (l2 : Int32) (l3 : Int32) (l4 : Int32) (l5 : Int32) (s0 : Int32) (s1 : Int32) (x0_27 : Int32) (x0_28 : Int32) (f1 : (Nat → Int32)) : Option (Int32 × Int32 × Int32 × (Nat → Int32)) := (if 6 ≤ l5 then (if ¬ l5 = 6 then (K 4 l1 l2 l3 l4 l5 l2 0 x0_27 x0_28 f1) else (if (x0_28 : Int32) < 0 ∨ 16 ≤ (Int32.toNatClampNeg x0_28) then none else (if ((f5 (Int32.toNatClampNeg x0_28)) : Int32) < 0 ∨ 6 ≤ (Int32.toNatClampNeg (f5 (Int32.toNatClampNeg x0_28))) then none else (K 4 l1 l2 l3 l4 l5 l2 (f4 (Int32.toNatClampNeg (f5 (Int32.toNatClampNeg x0_28)))) x0_27 x0_28 f1)))) else (if (l5 : Int32) < 0 ∨ 6 ≤ (Int32.toNatClampNeg l5) then none else (K 4 l1 l2 l3 l4 l5 l2 (f2 (Int32.toNatClampNeg l5)) x0_27 x0_28 f1)))
def B_Model_follows_4 (K : Nat → Int32 → Int32 → Int32 → Int32 → Int32 → Int32 → Int32 → Int32 → Int32 → (Nat → Int32) → Option (Int32 × Int32 × Int32 × (Nat → Int32))) (x0_15 : Int32) (x0_16 : Int32) (f2 : (Nat → Int32)) (f3 : (Nat → Int32)) (f4 : (Nat → Int32)) (f5 : (Nat → Int32)) (l1 : Int32) (l2 : Int32) (l3 : Int32) (l4 : Int32) (l5 : Int32) (s0 : Int32) (s1 : Int32) (x0_27 : Int32) (x0_28 : Int32) (f1 : (Nat → Int32)) : Option (Int32 × Int32 × Int32 × (Nat → Int32)) := (if ¬ l5 = 7 then (K 5 l1 (s0 + s1) l3 l4 l5 l3 0 x0_27 x0_28 f1) else (K 5 l1 (s0 + s1) l3 l4 l5 (l3 + 1) 0 x0_27 x0_28 f1))
def B_Model_follows_5 (K : Nat → Int32 → Int32 → Int32 → Int32 → Int32 → Int32 → Int32 → Int32 → Int32 → (Nat → Int32) → Option (Int32 × Int32 × Int32 × (Nat → Int32))) (x0_15 : Int32) (x0_16 : Int32) (f2 : (Nat → Int32)) (f3 : (Nat → Int32)) (f4 : (Nat → Int32)) (f5 : (Nat → Int32)) (l1 : Int32) (l2 : Int32) (l3 : Int32) (l4 : Int32) (l5 : Int32) (s0 : Int32) (s1 : Int32) (x0_27 : Int32) (x0_28 : Int32) (f1 : (Nat → Int32)) : Option (Int32 × Int32 × Int32 × (Nat → Int32)) := (if l5 = 6 then (if l5 < 6 then (K 1 l1 l2 s0 (l4 + 1) 0 0 0 x0_27 x0_28 f1) else (K 1 l1 l2 s0 (l4 + 1) 0 0 0 x0_27 (x0_28 + 1) f1)) else (if 6 ≤ l5 then (if (x0_28 : Int32) < 0 ∨ 16 ≤ (Int32.toNatClampNeg x0_28) then none else (if (x0_27 : Int32) < 0 ∨ 24 ≤ (Int32.toNatClampNeg x0_27) then none else (if l5 < 6 then (K 1 l1 l2 s0 (l4 + 1) 0 0 0 (x0_27 + 1) x0_28 (upd f1 (Int32.toNatClampNeg x0_27) (f5 (Int32.toNatClampNeg x0_28)))) else (K 1 l1 l2 s0 (l4 + 1) 0 0 0 (x0_27 + 1) (x0_28 + 1) (upd f1 (Int32.toNatClampNeg x0_27) (f5 (Int32.toNatClampNeg x0_28))))))) else (if (x0_27 : Int32) < 0 ∨ 24 ≤ (Int32.toNatClampNeg x0_27) then none else (if l5 < 6 then (K 1 l1 l2 s0 (l4 + 1) 0 0 0 (x0_27 + 1) x0_28 (upd f1 (Int32.toNatClampNeg x0_27) l5)) else (K 1 l1 l2 s0 (l4 + 1) 0 0 0 (x0_27 + 1) (x0_28 + 1) (upd f1 (Int32.toNatClampNeg x0_27) l5))))))
def F_Model_follows (x0_15 : Int32) (x0_16 : Int32) (f2 : (Nat → Int32)) (f3 : (Nat → Int32)) (f4 : (Nat → Int32)) (f5 : (Nat → Int32)) : Nat → Nat → Int32 → Int32 → Int32 → Int32 → Int32 → Int32 → Int32 → Int32 → Int32 → (Nat → Int32) → Option (Int32 × Int32 × Int32 × (Nat → Int32))
  | 0 => fun _ _ _ _ _ _ _ _ _ _ _ => none
  | n + 1 => fun hd l1 l2 l3 l4 l5 s0 s1 x0_27 x0_28 f1 => match hd with
    | 0 => B_Model_follows_0 (F_Model_follows x0_15 x0_16 f2 f3 f4 f5 n) x0_15 x0_16 f2 f3 f4 f5 l1 l2 l3 l4 l5 s0 s1 x0_27 x0_28 f1
    | 1 => B_Model_follows_1 (F_Model_follows x0_15 x0_16 f2 f3 f4 f5 n) x0_15 x0_16 f2 f3 f4 f5 l1 l2 l3 l4 l5 s0 s1 x0_27 x0_28 f1
    | 2 => B_Model_follows_2 (F_Model_follows x0_15 x0_16 f2 f3 f4 f5 n) x0_15 x0_16 f2 f3 f4 f5 l1 l2 l3 l4 l5 s0 s1 x0_27 x0_28 f1
    | 3 => B_Model_follows_3 (F_Model_follows x0_15 x0_16 f2 f3 f4 f5 n) x0_15 x0_16 f2 f3 f4 f5 l1 l2 l3 l4 l5 s0 s1 x0_27 x0_28 f1
    | 4 => B_Model_follows_4 (F_Model_follows x0_15 x0_16 f2 f3 f4 f5 n) x0_15 x0_16 f2 f3 f4 f5 l1 l2 l3 l4 l5 s0 s1 x0_27 x0_28 f1
    | 5 => B_Model_follows_5 (F_Model_follows x0_15 x0_16 f2 f3 f4 f5 n) x0_15 x0_16 f2 f3 f4 f5 l1 l2 l3 l4 l5 s0 s1 x0_27 x0_28 f1
    | _ => none
set_option maxHeartbeats 4000000 in
set_option maxRecDepth 100000 in
theorem L_Model_follows {p : Program} {l : Launch} {e : Env} {s : State} {m : MethodId} {args : Array Value} {below : List Frame} {meth : Method} {c : Code} {A : Nat → Prop} {dC : Nat → ClassId} {dI : Nat → Nat → Nat} {kA : Nat → ClassId} (hx : p.tables.exec = Jvm.exec) (hb : c.code = b_Model_follows) (hr : meth.sig.returnType = some .int) (hlocks : meth.locks = false) (hml : c.maxLocals = 6) (hown : s.vm.findClass R_Model = some m.cls) (hts : ∀ w ∈ w_Model_follows, w.before args s = true) (hA : ∀ q : Nat, s.heap.size ≤ q → A q) (hK : va_K (dC, dI) classes (tys_ kA) s) (a0 a1 a2 a3 a4 a5 : Nat) (v0_0 v0_1 v0_2 v0_3 v0_4 v0_5 v0_6 v0_7 v0_8 v0_9 v0_10 v0_11 v0_12 v0_13 v0_14 v0_19 v0_22 v0_23 v0_24 v0_25 : Value) (x0_15 : Int32) (x0_16 : Int32) (f2 : (Nat → Int32)) (f3 : (Nat → Int32)) (f4 : (Nat → Int32)) (f5 : (Nat → Int32)) (r : Int32) (ox0_27 : Int32) (ox0_28 : Int32) (of1 : (Nat → Int32)) : ∀ n : Nat, (∀ (l1 l2 l3 l4 l5 s0 s1 : Int32) (x0_27 : Int32) (x0_28 : Int32) (f1 : (Nat → Int32)), F_Model_follows x0_15 x0_16 f2 f3 f4 f5 n 0 l1 l2 l3 l4 l5 s0 s1 x0_27 x0_28 f1 = some (r, ox0_27, ox0_28, of1) → ∀ (H : Heap) (locs : List Loc) (ls : Array Slot), va_P (dC, dI) classes (wd_Model_follows kA a0 a1 a2 a3 a4 a5 v0_0 v0_1 v0_2 v0_3 v0_4 v0_5 v0_6 v0_7 v0_8 v0_9 v0_10 v0_11 v0_12 v0_13 v0_14 v0_19 v0_22 v0_23 v0_24 v0_25 x0_15 x0_16 x0_27 x0_28 f1 f2 f3 f4 f5) H → va_D A (wd_Model_follows kA a0 a1 a2 a3 a4 a5 v0_0 v0_1 v0_2 v0_3 v0_4 v0_5 v0_6 v0_7 v0_8 v0_9 v0_10 v0_11 v0_12 v0_13 v0_14 v0_19 v0_22 v0_23 v0_24 v0_25 x0_15 x0_16 x0_27 x0_28 f1 f2 f3 f4 f5) → va_S A s.heap H locs → lv_has ls 6 [(0, .ref a0), (1, .int l1), (2, .int l2), (3, .int l3), (4, .int l4)] → W p l e (headSpec w_Model_follows rm_Model_follows).room s m args below meth c H locs 0 0 (MQ below (va_Qi (fun (r1 : Int32) (_ : Unit) => r1 = r) (fun _ t => va_P (dC, dI) classes (wd_Model_follows kA a0 a1 a2 a3 a4 a5 v0_0 v0_1 v0_2 v0_3 v0_4 v0_5 v0_6 v0_7 v0_8 v0_9 v0_10 v0_11 v0_12 v0_13 v0_14 v0_19 v0_22 v0_23 v0_24 v0_25 x0_15 x0_16 ox0_27 ox0_28 of1 f2 f3 f4 f5) t.heap ∧ va_K (dC, dI) classes (tys_ kA) t ∧ va_D A (wd_Model_follows kA a0 a1 a2 a3 a4 a5 v0_0 v0_1 v0_2 v0_3 v0_4 v0_5 v0_6 v0_7 v0_8 v0_9 v0_10 v0_11 v0_12 v0_13 v0_14 v0_19 v0_22 v0_23 v0_24 v0_25 x0_15 x0_16 ox0_27 ox0_28 of1 f2 f3 f4 f5)) A) args s 0 0 A) (F0 m 23 ls [])) ∧ (∀ (l1 l2 l3 l4 l5 s0 s1 : Int32) (x0_27 : Int32) (x0_28 : Int32) (f1 : (Nat → Int32)), F_Model_follows x0_15 x0_16 f2 f3 f4 f5 n 1 l1 l2 l3 l4 l5 s0 s1 x0_27 x0_28 f1 = some (r, ox0_27, ox0_28, of1) → ∀ (H : Heap) (locs : List Loc) (ls : Array Slot), va_P (dC, dI) classes (wd_Model_follows kA a0 a1 a2 a3 a4 a5 v0_0 v0_1 v0_2 v0_3 v0_4 v0_5 v0_6 v0_7 v0_8 v0_9 v0_10 v0_11 v0_12 v0_13 v0_14 v0_19 v0_22 v0_23 v0_24 v0_25 x0_15 x0_16 x0_27 x0_28 f1 f2 f3 f4 f5) H → va_D A (wd_Model_follows kA a0 a1 a2 a3 a4 a5 v0_0 v0_1 v0_2 v0_3 v0_4 v0_5 v0_6 v0_7 v0_8 v0_9 v0_10 v0_11 v0_12 v0_13 v0_14 v0_19 v0_22 v0_23 v0_24 v0_25 x0_15 x0_16 x0_27 x0_28 f1 f2 f3 f4 f5) → va_S A s.heap H locs → lv_has ls 6 [(0, .ref a0), (1, .int l1), (2, .int l2), (3, .int l3), (4, .int l4)] → W p l e (headSpec w_Model_follows rm_Model_follows).room s m args below meth c H locs 0 0 (MQ below (va_Qi (fun (r1 : Int32) (_ : Unit) => r1 = r) (fun _ t => va_P (dC, dI) classes (wd_Model_follows kA a0 a1 a2 a3 a4 a5 v0_0 v0_1 v0_2 v0_3 v0_4 v0_5 v0_6 v0_7 v0_8 v0_9 v0_10 v0_11 v0_12 v0_13 v0_14 v0_19 v0_22 v0_23 v0_24 v0_25 x0_15 x0_16 ox0_27 ox0_28 of1 f2 f3 f4 f5) t.heap ∧ va_K (dC, dI) classes (tys_ kA) t ∧ va_D A (wd_Model_follows kA a0 a1 a2 a3 a4 a5 v0_0 v0_1 v0_2 v0_3 v0_4 v0_5 v0_6 v0_7 v0_8 v0_9 v0_10 v0_11 v0_12 v0_13 v0_14 v0_19 v0_22 v0_23 v0_24 v0_25 x0_15 x0_16 ox0_27 ox0_28 of1 f2 f3 f4 f5)) A) args s 0 0 A) (F0 m 55 ls [])) ∧ (∀ (l1 l2 l3 l4 l5 s0 s1 : Int32) (x0_27 : Int32) (x0_28 : Int32) (f1 : (Nat → Int32)), F_Model_follows x0_15 x0_16 f2 f3 f4 f5 n 2 l1 l2 l3 l4 l5 s0 s1 x0_27 x0_28 f1 = some (r, ox0_27, ox0_28, of1) → ∀ (H : Heap) (locs : List Loc) (ls : Array Slot), va_P (dC, dI) classes (wd_Model_follows kA a0 a1 a2 a3 a4 a5 v0_0 v0_1 v0_2 v0_3 v0_4 v0_5 v0_6 v0_7 v0_8 v0_9 v0_10 v0_11 v0_12 v0_13 v0_14 v0_19 v0_22 v0_23 v0_24 v0_25 x0_15 x0_16 x0_27 x0_28 f1 f2 f3 f4 f5) H → va_D A (wd_Model_follows kA a0 a1 a2 a3 a4 a5 v0_0 v0_1 v0_2 v0_3 v0_4 v0_5 v0_6 v0_7 v0_8 v0_9 v0_10 v0_11 v0_12 v0_13 v0_14 v0_19 v0_22 v0_23 v0_24 v0_25 x0_15 x0_16 x0_27 x0_28 f1 f2 f3 f4 f5) → va_S A s.heap H locs → lv_has ls 6 [(0, .ref a0), (1, .int l1), (2, .int l2), (3, .int l3), (4, .int l4), (5, .int l5)] → W p l e (headSpec w_Model_follows rm_Model_follows).room s m args below meth c H locs 0 0 (MQ below (va_Qi (fun (r1 : Int32) (_ : Unit) => r1 = r) (fun _ t => va_P (dC, dI) classes (wd_Model_follows kA a0 a1 a2 a3 a4 a5 v0_0 v0_1 v0_2 v0_3 v0_4 v0_5 v0_6 v0_7 v0_8 v0_9 v0_10 v0_11 v0_12 v0_13 v0_14 v0_19 v0_22 v0_23 v0_24 v0_25 x0_15 x0_16 ox0_27 ox0_28 of1 f2 f3 f4 f5) t.heap ∧ va_K (dC, dI) classes (tys_ kA) t ∧ va_D A (wd_Model_follows kA a0 a1 a2 a3 a4 a5 v0_0 v0_1 v0_2 v0_3 v0_4 v0_5 v0_6 v0_7 v0_8 v0_9 v0_10 v0_11 v0_12 v0_13 v0_14 v0_19 v0_22 v0_23 v0_24 v0_25 x0_15 x0_16 ox0_27 ox0_28 of1 f2 f3 f4 f5)) A) args s 0 0 A) (F0 m 88 ls [])) ∧ (∀ (l1 l2 l3 l4 l5 s0 s1 : Int32) (x0_27 : Int32) (x0_28 : Int32) (f1 : (Nat → Int32)), F_Model_follows x0_15 x0_16 f2 f3 f4 f5 n 3 l1 l2 l3 l4 l5 s0 s1 x0_27 x0_28 f1 = some (r, ox0_27, ox0_28, of1) → ∀ (H : Heap) (locs : List Loc) (ls : Array Slot), va_P (dC, dI) classes (wd_Model_follows kA a0 a1 a2 a3 a4 a5 v0_0 v0_1 v0_2 v0_3 v0_4 v0_5 v0_6 v0_7 v0_8 v0_9 v0_10 v0_11 v0_12 v0_13 v0_14 v0_19 v0_22 v0_23 v0_24 v0_25 x0_15 x0_16 x0_27 x0_28 f1 f2 f3 f4 f5) H → va_D A (wd_Model_follows kA a0 a1 a2 a3 a4 a5 v0_0 v0_1 v0_2 v0_3 v0_4 v0_5 v0_6 v0_7 v0_8 v0_9 v0_10 v0_11 v0_12 v0_13 v0_14 v0_19 v0_22 v0_23 v0_24 v0_25 x0_15 x0_16 x0_27 x0_28 f1 f2 f3 f4 f5) → va_S A s.heap H locs → lv_has ls 6 [(0, .ref a0), (1, .int l1), (2, .int l2), (3, .int l3), (4, .int l4), (5, .int l5)] → W p l e (headSpec w_Model_follows rm_Model_follows).room s m args below meth c H locs 0 0 (MQ below (va_Qi (fun (r1 : Int32) (_ : Unit) => r1 = r) (fun _ t => va_P (dC, dI) classes (wd_Model_follows kA a0 a1 a2 a3 a4 a5 v0_0 v0_1 v0_2 v0_3 v0_4 v0_5 v0_6 v0_7 v0_8 v0_9 v0_10 v0_11 v0_12 v0_13 v0_14 v0_19 v0_22 v0_23 v0_24 v0_25 x0_15 x0_16 ox0_27 ox0_28 of1 f2 f3 f4 f5) t.heap ∧ va_K (dC, dI) classes (tys_ kA) t ∧ va_D A (wd_Model_follows kA a0 a1 a2 a3 a4 a5 v0_0 v0_1 v0_2 v0_3 v0_4 v0_5 v0_6 v0_7 v0_8 v0_9 v0_10 v0_11 v0_12 v0_13 v0_14 v0_19 v0_22 v0_23 v0_24 v0_25 x0_15 x0_16 ox0_27 ox0_28 of1 f2 f3 f4 f5)) A) args s 0 0 A) (F0 m 116 ls [])) ∧ (∀ (l1 l2 l3 l4 l5 s0 s1 : Int32) (x0_27 : Int32) (x0_28 : Int32) (f1 : (Nat → Int32)), F_Model_follows x0_15 x0_16 f2 f3 f4 f5 n 4 l1 l2 l3 l4 l5 s0 s1 x0_27 x0_28 f1 = some (r, ox0_27, ox0_28, of1) → ∀ (H : Heap) (locs : List Loc) (ls : Array Slot), va_P (dC, dI) classes (wd_Model_follows kA a0 a1 a2 a3 a4 a5 v0_0 v0_1 v0_2 v0_3 v0_4 v0_5 v0_6 v0_7 v0_8 v0_9 v0_10 v0_11 v0_12 v0_13 v0_14 v0_19 v0_22 v0_23 v0_24 v0_25 x0_15 x0_16 x0_27 x0_28 f1 f2 f3 f4 f5) H → va_D A (wd_Model_follows kA a0 a1 a2 a3 a4 a5 v0_0 v0_1 v0_2 v0_3 v0_4 v0_5 v0_6 v0_7 v0_8 v0_9 v0_10 v0_11 v0_12 v0_13 v0_14 v0_19 v0_22 v0_23 v0_24 v0_25 x0_15 x0_16 x0_27 x0_28 f1 f2 f3 f4 f5) → va_S A s.heap H locs → lv_has ls 6 [(0, .ref a0), (1, .int l1), (2, .int l2), (3, .int l3), (4, .int l4), (5, .int l5)] → W p l e (headSpec w_Model_follows rm_Model_follows).room s m args below meth c H locs 0 0 (MQ below (va_Qi (fun (r1 : Int32) (_ : Unit) => r1 = r) (fun _ t => va_P (dC, dI) classes (wd_Model_follows kA a0 a1 a2 a3 a4 a5 v0_0 v0_1 v0_2 v0_3 v0_4 v0_5 v0_6 v0_7 v0_8 v0_9 v0_10 v0_11 v0_12 v0_13 v0_14 v0_19 v0_22 v0_23 v0_24 v0_25 x0_15 x0_16 ox0_27 ox0_28 of1 f2 f3 f4 f5) t.heap ∧ va_K (dC, dI) classes (tys_ kA) t ∧ va_D A (wd_Model_follows kA a0 a1 a2 a3 a4 a5 v0_0 v0_1 v0_2 v0_3 v0_4 v0_5 v0_6 v0_7 v0_8 v0_9 v0_10 v0_11 v0_12 v0_13 v0_14 v0_19 v0_22 v0_23 v0_24 v0_25 x0_15 x0_16 ox0_27 ox0_28 of1 f2 f3 f4 f5)) A) args s 0 0 A) (F0 m 159 ls [.int s1, .int s0])) ∧ (∀ (l1 l2 l3 l4 l5 s0 s1 : Int32) (x0_27 : Int32) (x0_28 : Int32) (f1 : (Nat → Int32)), F_Model_follows x0_15 x0_16 f2 f3 f4 f5 n 5 l1 l2 l3 l4 l5 s0 s1 x0_27 x0_28 f1 = some (r, ox0_27, ox0_28, of1) → ∀ (H : Heap) (locs : List Loc) (ls : Array Slot), va_P (dC, dI) classes (wd_Model_follows kA a0 a1 a2 a3 a4 a5 v0_0 v0_1 v0_2 v0_3 v0_4 v0_5 v0_6 v0_7 v0_8 v0_9 v0_10 v0_11 v0_12 v0_13 v0_14 v0_19 v0_22 v0_23 v0_24 v0_25 x0_15 x0_16 x0_27 x0_28 f1 f2 f3 f4 f5) H → va_D A (wd_Model_follows kA a0 a1 a2 a3 a4 a5 v0_0 v0_1 v0_2 v0_3 v0_4 v0_5 v0_6 v0_7 v0_8 v0_9 v0_10 v0_11 v0_12 v0_13 v0_14 v0_19 v0_22 v0_23 v0_24 v0_25 x0_15 x0_16 x0_27 x0_28 f1 f2 f3 f4 f5) → va_S A s.heap H locs → lv_has ls 6 [(0, .ref a0), (1, .int l1), (2, .int l2), (3, .int l3), (4, .int l4), (5, .int l5)] → W p l e (headSpec w_Model_follows rm_Model_follows).room s m args below meth c H locs 0 0 (MQ below (va_Qi (fun (r1 : Int32) (_ : Unit) => r1 = r) (fun _ t => va_P (dC, dI) classes (wd_Model_follows kA a0 a1 a2 a3 a4 a5 v0_0 v0_1 v0_2 v0_3 v0_4 v0_5 v0_6 v0_7 v0_8 v0_9 v0_10 v0_11 v0_12 v0_13 v0_14 v0_19 v0_22 v0_23 v0_24 v0_25 x0_15 x0_16 ox0_27 ox0_28 of1 f2 f3 f4 f5) t.heap ∧ va_K (dC, dI) classes (tys_ kA) t ∧ va_D A (wd_Model_follows kA a0 a1 a2 a3 a4 a5 v0_0 v0_1 v0_2 v0_3 v0_4 v0_5 v0_6 v0_7 v0_8 v0_9 v0_10 v0_11 v0_12 v0_13 v0_14 v0_19 v0_22 v0_23 v0_24 v0_25 x0_15 x0_16 ox0_27 ox0_28 of1 f2 f3 f4 f5)) A) args s 0 0 A) (F0 m 175 ls [.int s0])) := by
  have hg := fun (w : Cond) (h : w ∈ gw) => hts w (List.mem_cons_of_mem _ h)
  intro n
  induction n with
  | zero =>
    exact ⟨fun _ _ _ _ _ _ _ _ _ _ hF => absurd (show (none : Option _) = some _ from hF) (fun z => by cases z), fun _ _ _ _ _ _ _ _ _ _ hF => absurd (show (none : Option _) = some _ from hF) (fun z => by cases z), fun _ _ _ _ _ _ _ _ _ _ hF => absurd (show (none : Option _) = some _ from hF) (fun z => by cases z), fun _ _ _ _ _ _ _ _ _ _ hF => absurd (show (none : Option _) = some _ from hF) (fun z => by cases z), fun _ _ _ _ _ _ _ _ _ _ hF => absurd (show (none : Option _) = some _ from hF) (fun z => by cases z), fun _ _ _ _ _ _ _ _ _ _ hF => absurd (show (none : Option _) = some _ from hF) (fun z => by cases z)⟩
  | succ n ih =>
    refine ⟨?_, ?_, ?_, ?_, ?_, ?_⟩
    · intro l1 l2 l3 l4 l5 s0 s1 x0_27 x0_28 f1 hF H locs ls hP hD hS hl
      have hF : B_Model_follows_0 (F_Model_follows x0_15 x0_16 f2 f3 f4 f5 n) x0_15 x0_16 f2 f3 f4 f5 l1 l2 l3 l4 l5 s0 s1 x0_27 x0_28 f1 = some (r, ox0_27, ox0_28, of1) := hF
      unfold B_Model_follows_0 at hF
      refine lv_iload hx hb d_Model_follows_23 (lv_at hl 4 rfl) ?_
      refine lv_aload_n hx hb d_Model_follows_25 rfl (lv_at hl 0 rfl) ?_
      refine va_get (D := (dC, dI)) (ci := 9) (v := .int x0_16) (C := R_Model) (T := F_Model) (N := 29) hx hb hg iw_Model hown hK hP 0 rfl rfl 16 (by decide) (hg _ gw_341) (fun _ h9 => h9) rfl d_Model_follows_26 ?_
      refine lv_icmp_ge (tgt := 52) hx hb d_Model_follows_29 (by decide) (fun c_1 => ?_) (fun c_1 => ?_)
      · rw [if_pos c_1] at hF
        refine lv_iconst (v := 0) hx hb d_Model_follows_52 (by decide) ?_
        refine lv_istore (lv' := [(4, .int 0), (0, .ref a0), (1, .int l1), (2, .int l2), (3, .int l3)]) hx hb d_Model_follows_53 hl (by decide) rfl (fun ls hl => ?_)
        exact ih.2.1 l1 l2 l3 0 0 0 0 x0_27 x0_28 f1 hF _ _ _ hP hD hS (lv_sub hl [1, 2, 3, 4, 0] rfl)
      · rw [if_neg c_1] at hF
        refine lv_aload_n hx hb d_Model_follows_32 rfl (lv_at hl 0 rfl) ?_
        refine va_get (D := (dC, dI)) (ci := 9) (v := .ref a1) (C := R_Model) (T := F_Model) (N := 29) hx hb hg iw_Model hown hK hP 0 rfl rfl 18 (by decide) (hg _ gw_275) (fun _ h9 => h9) rfl d_Model_follows_33 ?_
        refine lv_iload hx hb d_Model_follows_36 (lv_at hl 4 rfl) ?_
        refine lv_aload_n hx hb d_Model_follows_38 rfl (lv_at hl 0 rfl) ?_
        refine va_get (D := (dC, dI)) (ci := 9) (v := .ref a5) (C := R_Model) (T := F_Model) (N := 29) hx hb hg iw_Model hown hK hP 0 rfl rfl 17 (by decide) (hg _ gw_330) (fun _ h9 => h9) rfl d_Model_follows_39 ?_
        refine lv_iload hx hb d_Model_follows_42 (lv_at hl 4 rfl) ?_
        obtain ⟨h_2, hF⟩ := rd_chk hF
        refine va_iald hx hb hK hP 5 0 rfl rfl h_2 d_Model_follows_44 ?_
        obtain ⟨h_3, hF⟩ := rd_chk hF
        refine va_iast hx hb hK hP hD hS 1 0 rfl rfl h_3 d_Model_follows_45 (fun H locs hP hD hS => ?_)
        have hP : va_P (dC, dI) classes (wd_Model_follows kA a0 a1 a2 a3 a4 a5 v0_0 v0_1 v0_2 v0_3 v0_4 v0_5 v0_6 v0_7 v0_8 v0_9 v0_10 v0_11 v0_12 v0_13 v0_14 v0_19 v0_22 v0_23 v0_24 v0_25 x0_15 x0_16 x0_27 x0_28 (upd f1 (Int32.toNatClampNeg l4) (f5 (Int32.toNatClampNeg l4))) f2 f3 f4 f5) H := hP
        have hD : va_D A (wd_Model_follows kA a0 a1 a2 a3 a4 a5 v0_0 v0_1 v0_2 v0_3 v0_4 v0_5 v0_6 v0_7 v0_8 v0_9 v0_10 v0_11 v0_12 v0_13 v0_14 v0_19 v0_22 v0_23 v0_24 v0_25 x0_15 x0_16 x0_27 x0_28 (upd f1 (Int32.toNatClampNeg l4) (f5 (Int32.toNatClampNeg l4))) f2 f3 f4 f5) := hD
        refine lv_iinc (v := (l4 + 1)) (lv' := [(4, .int (l4 + 1)), (0, .ref a0), (1, .int l1), (2, .int l2), (3, .int l3)]) hx hb d_Model_follows_46 hl (k := 4) rfl (by rfl) (by decide) rfl (fun ls hl => ?_)
        refine lv_goto (tgt := 23) hx hb d_Model_follows_49 (by decide) ?_
        exact ih.1 l1 l2 l3 (l4 + 1) 0 0 0 x0_27 x0_28 (upd f1 (Int32.toNatClampNeg l4) (f5 (Int32.toNatClampNeg l4))) hF _ _ _ hP hD hS (lv_sub hl [1, 2, 3, 4, 0] rfl)
    · intro l1 l2 l3 l4 l5 s0 s1 x0_27 x0_28 f1 hF H locs ls hP hD hS hl
      have hF : B_Model_follows_1 (F_Model_follows x0_15 x0_16 f2 f3 f4 f5 n) x0_15 x0_16 f2 f3 f4 f5 l1 l2 l3 l4 l5 s0 s1 x0_27 x0_28 f1 = some (r, ox0_27, ox0_28, of1) := hF
      unfold B_Model_follows_1 at hF
      refine lv_iload hx hb d_Model_follows_55 (lv_at hl 4 rfl) ?_
      refine lv_iload_n hx hb d_Model_follows_57 rfl (lv_at hl 1 rfl) ?_
      refine lv_icmp_ge (tgt := 253) hx hb d_Model_follows_58 (by decide) (fun c_4 => ?_) (fun c_4 => ?_)
      · rw [if_pos c_4] at hF
        refine lv_iload_n hx hb d_Model_follows_253 rfl (lv_at hl 3 rfl) ?_
        refine lv_iconst (v := 3) hx hb d_Model_follows_254 (by decide) ?_
        refine lv_icmp_le (tgt := 262) hx hb d_Model_follows_255 (by decide) (fun c_5 => ?_) (fun c_5 => ?_)
        · rw [if_pos c_5] at hF
          refine lv_iload_n hx hb d_Model_follows_262 rfl (lv_at hl 2 rfl) ?_
          have e0 := Option.some.inj hF
          have q0 := Prod.mk.inj e0
          have q1 := Prod.mk.inj q0.2
          have q2 := Prod.mk.inj q1.2
          exact W.iret (v := l2) hx hb hr (fun t ht hW => ⟨⟨l2, (), rfl, q0.1, by rw [ht, ← q1.1, ← q2.1, ← q2.2]; exact hP, va_K.moved hW.alike hK, (by rw [← q1.1, ← q2.1, ← q2.2]; exact hD)⟩, hS.F ht⟩) hS.2.2 d_Model_follows_263 hlocks
        · rw [if_neg c_5] at hF
          refine lv_iconst (v := (-1)) hx hb d_Model_follows_258 (by decide) ?_
          refine lv_goto (tgt := 263) hx hb d_Model_follows_259 (by decide) ?_
          have e0 := Option.some.inj hF
          have q0 := Prod.mk.inj e0
          have q1 := Prod.mk.inj q0.2
          have q2 := Prod.mk.inj q1.2
          exact W.iret (v := (-1)) hx hb hr (fun t ht hW => ⟨⟨(-1), (), rfl, q0.1, by rw [ht, ← q1.1, ← q2.1, ← q2.2]; exact hP, va_K.moved hW.alike hK, (by rw [← q1.1, ← q2.1, ← q2.2]; exact hD)⟩, hS.F ht⟩) hS.2.2 d_Model_follows_263 hlocks
      · rw [if_neg c_4] at hF
        refine lv_aload_n hx hb d_Model_follows_61 rfl (lv_at hl 0 rfl) ?_
        refine va_get (D := (dC, dI)) (ci := 9) (v := .ref a3) (C := R_Model) (T := F_Model) (N := 29) hx hb hg iw_Model hown hK hP 0 rfl rfl 26 (by decide) (hg _ gw_342) (fun _ h9 => h9) rfl d_Model_follows_62 ?_
        refine lv_iload hx hb d_Model_follows_65 (lv_at hl 4 rfl) ?_
        obtain ⟨h_6, hF⟩ := rd_chk hF
        refine va_iald hx hb hK hP 3 0 rfl rfl h_6 d_Model_follows_67 ?_
        refine lv_istore (lv' := [(5, .int (f3 (Int32.toNatClampNeg l4))), (0, .ref a0), (1, .int l1), (2, .int l2), (3, .int l3), (4, .int l4)]) hx hb d_Model_follows_68 hl (by decide) rfl (fun ls hl => ?_)
        refine lv_iload hx hb d_Model_follows_70 (lv_at hl 0 rfl) ?_
        refine lv_bipush (v := 6) hx hb d_Model_follows_72 (by decide) ?_
        refine lv_icmp_lt (tgt := 88) hx hb d_Model_follows_74 (by decide) (fun c_7 => ?_) (fun c_7 => ?_)
        · rw [if_pos c_7] at hF
          exact ih.2.2.1 l1 l2 l3 l4 (f3 (Int32.toNatClampNeg l4)) 0 0 x0_27 x0_28 f1 hF _ _ _ hP hD hS (lv_sub hl [1, 2, 3, 4, 5, 0] rfl)
        · rw [if_neg c_7] at hF
          refine lv_aload_n hx hb d_Model_follows_77 rfl (lv_at hl 1 rfl) ?_
          refine va_get (D := (dC, dI)) (ci := 9) (v := .int x0_28) (C := R_Model) (T := F_Model) (N := 29) hx hb hg iw_Model hown hK hP 0 rfl rfl 28 (by decide) (hg _ gw_343) (fun _ h9 => h9) rfl d_Model_follows_78 ?_
          refine lv_aload_n hx hb d_Model_follows_81 rfl (lv_at hl 1 rfl) ?_
          refine va_get (D := (dC, dI)) (ci := 9) (v := .int x0_15) (C := R_Model) (T := F_Model) (N := 29) hx hb hg iw_Model hown hK hP 0 rfl rfl 15 (by decide) (hg _ gw_329) (fun _ h9 => h9) rfl d_Model_follows_82 ?_
          refine lv_icmp_ge (tgt := 114) hx hb d_Model_follows_85 (by decide) (fun c_8 => ?_) (fun c_8 => ?_)
          · rw [if_pos c_8] at hF
            refine lv_iconst (v := (-1)) hx hb d_Model_follows_114 (by decide) ?_
            have e0 := Option.some.inj hF
            have q0 := Prod.mk.inj e0
            have q1 := Prod.mk.inj q0.2
            have q2 := Prod.mk.inj q1.2
            exact W.iret (v := (-1)) hx hb hr (fun t ht hW => ⟨⟨(-1), (), rfl, q0.1, by rw [ht, ← q1.1, ← q2.1, ← q2.2]; exact hP, va_K.moved hW.alike hK, (by rw [← q1.1, ← q2.1, ← q2.2]; exact hD)⟩, hS.F ht⟩) hS.2.2 d_Model_follows_115 hlocks
          · rw [if_neg c_8] at hF
            exact ih.2.2.1 l1 l2 l3 l4 (f3 (Int32.toNatClampNeg l4)) 0 0 x0_27 x0_28 f1 hF _ _ _ hP hD hS (lv_sub hl [1, 2, 3, 4, 5, 0] rfl)
    · intro l1 l2 l3 l4 l5 s0 s1 x0_27 x0_28 f1 hF H locs ls hP hD hS hl
      have hF : B_Model_follows_2 (F_Model_follows x0_15 x0_16 f2 f3 f4 f5 n) x0_15 x0_16 f2 f3 f4 f5 l1 l2 l3 l4 l5 s0 s1 x0_27 x0_28 f1 = some (r, ox0_27, ox0_28, of1) := hF
      unfold B_Model_follows_2 at hF
      refine lv_iload hx hb d_Model_follows_88 (lv_at hl 5 rfl) ?_
      refine lv_bipush (v := 6) hx hb d_Model_follows_90 (by decide) ?_
      refine lv_icmp_ge (tgt := 116) hx hb d_Model_follows_92 (by decide) (fun c_9 => ?_) (fun c_9 => ?_)
      · rw [if_pos c_9] at hF
        exact ih.2.2.2.1 l1 l2 l3 l4 l5 0 0 x0_27 x0_28 f1 hF _ _ _ hP hD hS (lv_sub hl [0, 1, 2, 3, 4, 5] rfl)
      · rw [if_neg c_9] at hF
        refine lv_iload hx hb d_Model_follows_95 (lv_at hl 4 rfl) ?_
        refine lv_if_le (tgt := 116) hx hb d_Model_follows_97 (by decide) (fun c_10 => ?_) (fun c_10 => ?_)
        · rw [if_pos c_10] at hF
          exact ih.2.2.2.1 l1 l2 l3 l4 l5 0 0 x0_27 x0_28 f1 hF _ _ _ hP hD hS (lv_sub hl [0, 1, 2, 3, 4, 5] rfl)
        · rw [if_neg c_10] at hF
          refine lv_aload_n hx hb d_Model_follows_100 rfl (lv_at hl 0 rfl) ?_
          refine va_get (D := (dC, dI)) (ci := 9) (v := .ref a3) (C := R_Model) (T := F_Model) (N := 29) hx hb hg iw_Model hown hK hP 0 rfl rfl 26 (by decide) (hg _ gw_342) (fun _ h9 => h9) rfl d_Model_follows_101 ?_
          refine lv_iload hx hb d_Model_follows_104 (lv_at hl 4 rfl) ?_
          refine lv_iconst (v := 1) hx hb d_Model_follows_106 (by decide) ?_
          refine lv_isub hx hb d_Model_follows_107 ?_
          obtain ⟨h_11, hF⟩ := rd_chk hF
          refine va_iald hx hb hK hP 3 0 rfl rfl h_11 d_Model_follows_108 ?_
          refine lv_bipush (v := 6) hx hb d_Model_follows_109 (by decide) ?_
          refine lv_icmp_ne (tgt := 116) hx hb d_Model_follows_111 (by decide) (fun c_12 => ?_) (fun c_12 => ?_)
          · rw [if_pos c_12] at hF
            exact ih.2.2.2.1 l1 l2 l3 l4 l5 0 0 x0_27 x0_28 f1 hF _ _ _ hP hD hS (lv_sub hl [0, 1, 2, 3, 4, 5] rfl)
          · rw [if_neg (fun z => z c_12)] at hF
            refine lv_iconst (v := (-1)) hx hb d_Model_follows_114 (by decide) ?_
            have e0 := Option.some.inj hF
            have q0 := Prod.mk.inj e0
            have q1 := Prod.mk.inj q0.2
            have q2 := Prod.mk.inj q1.2
            exact W.iret (v := (-1)) hx hb hr (fun t ht hW => ⟨⟨(-1), (), rfl, q0.1, by rw [ht, ← q1.1, ← q2.1, ← q2.2]; exact hP, va_K.moved hW.alike hK, (by rw [← q1.1, ← q2.1, ← q2.2]; exact hD)⟩, hS.F ht⟩) hS.2.2 d_Model_follows_115 hlocks
    · intro l1 l2 l3 l4 l5 s0 s1 x0_27 x0_28 f1 hF H locs ls hP hD hS hl
      have hF : B_Model_follows_3 (F_Model_follows x0_15 x0_16 f2 f3 f4 f5 n) x0_15 x0_16 f2 f3 f4 f5 l1 l2 l3 l4 l5 s0 s1 x0_27 x0_28 f1 = some (r, ox0_27, ox0_28, of1) := hF
      unfold B_Model_follows_3 at hF
      refine lv_iload_n hx hb d_Model_follows_116 rfl (lv_at hl 2 rfl) ?_
      refine lv_iload hx hb d_Model_follows_117 (lv_at hl 5 rfl) ?_
      refine lv_bipush (v := 6) hx hb d_Model_follows_119 (by decide) ?_
      refine lv_icmp_ge (tgt := 134) hx hb d_Model_follows_121 (by decide) (fun c_13 => ?_) (fun c_13 => ?_)
      · rw [if_pos c_13] at hF
        refine lv_iload hx hb d_Model_follows_134 (lv_at hl 5 rfl) ?_
        refine lv_bipush (v := 6) hx hb d_Model_follows_136 (by decide) ?_
        refine lv_icmp_ne (tgt := 158) hx hb d_Model_follows_138 (by decide) (fun c_14 => ?_) (fun c_14 => ?_)
        · rw [if_pos c_14] at hF
          refine lv_iconst (v := 0) hx hb d_Model_follows_158 (by decide) ?_
          exact ih.2.2.2.2.1 l1 l2 l3 l4 l5 l2 0 x0_27 x0_28 f1 hF _ _ _ hP hD hS (lv_sub hl [0, 1, 2, 3, 4, 5] rfl)
        · rw [if_neg (fun z => z c_14)] at hF
          refine lv_aload_n hx hb d_Model_follows_141 rfl (lv_at hl 0 rfl) ?_
          refine va_get (D := (dC, dI)) (ci := 9) (v := .ref a4) (C := R_Model) (T := F_Model) (N := 29) hx hb hg iw_Model hown hK hP 0 rfl rfl 21 (by decide) (hg _ gw_332) (fun _ h9 => h9) rfl d_Model_follows_142 ?_
          refine lv_aload_n hx hb d_Model_follows_145 rfl (lv_at hl 0 rfl) ?_
          refine va_get (D := (dC, dI)) (ci := 9) (v := .ref a5) (C := R_Model) (T := F_Model) (N := 29) hx hb hg iw_Model hown hK hP 0 rfl rfl 17 (by decide) (hg _ gw_330) (fun _ h9 => h9) rfl d_Model_follows_146 ?_
          refine lv_aload_n hx hb d_Model_follows_149 rfl (lv_at hl 0 rfl) ?_
          refine va_get (D := (dC, dI)) (ci := 9) (v := .int x0_28) (C := R_Model) (T := F_Model) (N := 29) hx hb hg iw_Model hown hK hP 0 rfl rfl 28 (by decide) (hg _ gw_343) (fun _ h9 => h9) rfl d_Model_follows_150 ?_
          obtain ⟨h_15, hF⟩ := rd_chk hF
          refine va_iald hx hb hK hP 5 0 rfl rfl h_15 d_Model_follows_153 ?_
          obtain ⟨h_16, hF⟩ := rd_chk hF
          refine va_iald hx hb hK hP 4 0 rfl rfl h_16 d_Model_follows_154 ?_
          refine lv_goto (tgt := 159) hx hb d_Model_follows_155 (by decide) ?_
          exact ih.2.2.2.2.1 l1 l2 l3 l4 l5 l2 (f4 (Int32.toNatClampNeg (f5 (Int32.toNatClampNeg x0_28)))) x0_27 x0_28 f1 hF _ _ _ hP hD hS (lv_sub hl [0, 1, 2, 3, 4, 5] rfl)
      · rw [if_neg c_13] at hF
        refine lv_aload_n hx hb d_Model_follows_124 rfl (lv_at hl 0 rfl) ?_
        refine va_get (D := (dC, dI)) (ci := 9) (v := .ref a2) (C := R_Model) (T := F_Model) (N := 29) hx hb hg iw_Model hown hK hP 0 rfl rfl 20 (by decide) (hg _ gw_331) (fun _ h9 => h9) rfl d_Model_follows_125 ?_
        refine lv_iload hx hb d_Model_follows_128 (lv_at hl 5 rfl) ?_
        obtain ⟨h_17, hF⟩ := rd_chk hF
        refine va_iald hx hb hK hP 2 0 rfl rfl h_17 d_Model_follows_130 ?_
        refine lv_goto (tgt := 159) hx hb d_Model_follows_131 (by decide) ?_
        exact ih.2.2.2.2.1 l1 l2 l3 l4 l5 l2 (f2 (Int32.toNatClampNeg l5)) x0_27 x0_28 f1 hF _ _ _ hP hD hS (lv_sub hl [0, 1, 2, 3, 4, 5] rfl)
    · intro l1 l2 l3 l4 l5 s0 s1 x0_27 x0_28 f1 hF H locs ls hP hD hS hl
      have hF : B_Model_follows_4 (F_Model_follows x0_15 x0_16 f2 f3 f4 f5 n) x0_15 x0_16 f2 f3 f4 f5 l1 l2 l3 l4 l5 s0 s1 x0_27 x0_28 f1 = some (r, ox0_27, ox0_28, of1) := hF
      unfold B_Model_follows_4 at hF
      refine lv_iadd hx hb d_Model_follows_159 ?_
      refine lv_istore_n (lv' := [(2, .int (s0 + s1)), (0, .ref a0), (1, .int l1), (3, .int l3), (4, .int l4), (5, .int l5)]) hx hb d_Model_follows_160 rfl hl (by decide) rfl (fun ls hl => ?_)
      refine lv_iload hx hb d_Model_follows_161 (lv_at hl 5 rfl) ?_
      refine lv_bipush (v := 7) hx hb d_Model_follows_163 (by decide) ?_
      refine lv_icmp_ne (tgt := 174) hx hb d_Model_follows_165 (by decide) (fun c_18 => ?_) (fun c_18 => ?_)
      · rw [if_pos c_18] at hF
        refine lv_iload_n hx hb d_Model_follows_174 rfl (lv_at hl 3 rfl) ?_
        exact ih.2.2.2.2.2 l1 (s0 + s1) l3 l4 l5 l3 0 x0_27 x0_28 f1 hF _ _ _ hP hD hS (lv_sub hl [1, 2, 0, 3, 4, 5] rfl)
      · rw [if_neg (fun z => z c_18)] at hF
        refine lv_iload_n hx hb d_Model_follows_168 rfl (lv_at hl 3 rfl) ?_
        refine lv_iconst (v := 1) hx hb d_Model_follows_169 (by decide) ?_
        refine lv_iadd hx hb d_Model_follows_170 ?_
        refine lv_goto (tgt := 175) hx hb d_Model_follows_171 (by decide) ?_
        exact ih.2.2.2.2.2 l1 (s0 + s1) l3 l4 l5 (l3 + 1) 0 x0_27 x0_28 f1 hF _ _ _ hP hD hS (lv_sub hl [1, 2, 0, 3, 4, 5] rfl)
    · intro l1 l2 l3 l4 l5 s0 s1 x0_27 x0_28 f1 hF H locs ls hP hD hS hl
      have hF : B_Model_follows_5 (F_Model_follows x0_15 x0_16 f2 f3 f4 f5 n) x0_15 x0_16 f2 f3 f4 f5 l1 l2 l3 l4 l5 s0 s1 x0_27 x0_28 f1 = some (r, ox0_27, ox0_28, of1) := hF
      unfold B_Model_follows_5 at hF
      refine lv_istore_n (lv' := [(3, .int s0), (0, .ref a0), (1, .int l1), (2, .int l2), (4, .int l4), (5, .int l5)]) hx hb d_Model_follows_175 rfl hl (by decide) rfl (fun ls hl => ?_)
      refine lv_iload hx hb d_Model_follows_176 (lv_at hl 5 rfl) ?_
      refine lv_bipush (v := 6) hx hb d_Model_follows_178 (by decide) ?_
      refine lv_icmp_eq (tgt := 223) hx hb d_Model_follows_180 (by decide) (fun c_19 => ?_) (fun c_19 => ?_)
      · rw [if_pos c_19] at hF
        refine lv_aload_n hx hb d_Model_follows_223 rfl (lv_at hl 1 rfl) ?_
        refine lv_iload hx hb d_Model_follows_224 (lv_at hl 5 rfl) ?_
        refine lv_bipush (v := 6) hx hb d_Model_follows_226 (by decide) ?_
        refine lv_icmp_lt (tgt := 240) hx hb d_Model_follows_228 (by decide) (fun c_20 => ?_) (fun c_20 => ?_)
        · rw [if_pos c_20] at hF
          refine lv_aload_n hx hb d_Model_follows_240 rfl (lv_at hl 1 rfl) ?_
          refine va_get (D := (dC, dI)) (ci := 9) (v := .int x0_28) (C := R_Model) (T := F_Model) (N := 29) hx hb hg iw_Model hown hK hP 0 rfl rfl 28 (by decide) (hg _ gw_343) (fun _ h9 => h9) rfl d_Model_follows_241 ?_
          refine va_put (D := (dC, dI)) (ci := 9) (v := .int x0_28) (ty := .int) (C := R_Model) (T := F_Model) (N := 29) hx hb hg iw_Model t_Model t_Model_ok n_Model hown hK hP hD hS 0 rfl rfl 28 (by decide) (hg _ gw_343) (fun _ h9 => h9) rfl (by decide +kernel) rfl rfl (Nat.le_of_ble_eq_true rfl) d_Model_follows_244 (fun H locs hP hD hS => ?_)
          have hP : va_P (dC, dI) classes (wd_Model_follows kA a0 a1 a2 a3 a4 a5 v0_0 v0_1 v0_2 v0_3 v0_4 v0_5 v0_6 v0_7 v0_8 v0_9 v0_10 v0_11 v0_12 v0_13 v0_14 v0_19 v0_22 v0_23 v0_24 v0_25 x0_15 x0_16 x0_27 x0_28 f1 f2 f3 f4 f5) H := hP
          have hD : va_D A (wd_Model_follows kA a0 a1 a2 a3 a4 a5 v0_0 v0_1 v0_2 v0_3 v0_4 v0_5 v0_6 v0_7 v0_8 v0_9 v0_10 v0_11 v0_12 v0_13 v0_14 v0_19 v0_22 v0_23 v0_24 v0_25 x0_15 x0_16 x0_27 x0_28 f1 f2 f3 f4 f5) := hD
          refine lv_iinc (v := (l4 + 1)) (lv' := [(4, .int (l4 + 1)), (3, .int s0), (0, .ref a0), (1, .int l1), (2, .int l2), (5, .int l5)]) hx hb d_Model_follows_247 hl (k := 4) rfl (by rfl) (by decide) rfl (fun ls hl => ?_)
          refine lv_goto (tgt := 55) hx hb d_Model_follows_250 (by decide) ?_
          exact ih.2.1 l1 l2 s0 (l4 + 1) 0 0 0 x0_27 x0_28 f1 hF _ _ _ hP hD hS (lv_sub hl [2, 3, 4, 1, 0] rfl)
        · rw [if_neg c_20] at hF
          refine lv_aload_n hx hb d_Model_follows_231 rfl (lv_at hl 1 rfl) ?_
          refine va_get (D := (dC, dI)) (ci := 9) (v := .int x0_28) (C := R_Model) (T := F_Model) (N := 29) hx hb hg iw_Model hown hK hP 0 rfl rfl 28 (by decide) (hg _ gw_343) (fun _ h9 => h9) rfl d_Model_follows_232 ?_
          refine lv_iconst (v := 1) hx hb d_Model_follows_235 (by decide) ?_
          refine lv_iadd hx hb d_Model_follows_236 ?_
          refine lv_goto (tgt := 244) hx hb d_Model_follows_237 (by decide) ?_
          refine va_put (D := (dC, dI)) (ci := 9) (v := .int (x0_28 + 1)) (ty := .int) (C := R_Model) (T := F_Model) (N := 29) hx hb hg iw_Model t_Model t_Model_ok n_Model hown hK hP hD hS 0 rfl rfl 28 (by decide) (hg _ gw_343) (fun _ h9 => h9) rfl (by decide +kernel) rfl rfl (Nat.le_of_ble_eq_true rfl) d_Model_follows_244 (fun H locs hP hD hS => ?_)
          have hP : va_P (dC, dI) classes (wd_Model_follows kA a0 a1 a2 a3 a4 a5 v0_0 v0_1 v0_2 v0_3 v0_4 v0_5 v0_6 v0_7 v0_8 v0_9 v0_10 v0_11 v0_12 v0_13 v0_14 v0_19 v0_22 v0_23 v0_24 v0_25 x0_15 x0_16 x0_27 (x0_28 + 1) f1 f2 f3 f4 f5) H := hP
          have hD : va_D A (wd_Model_follows kA a0 a1 a2 a3 a4 a5 v0_0 v0_1 v0_2 v0_3 v0_4 v0_5 v0_6 v0_7 v0_8 v0_9 v0_10 v0_11 v0_12 v0_13 v0_14 v0_19 v0_22 v0_23 v0_24 v0_25 x0_15 x0_16 x0_27 (x0_28 + 1) f1 f2 f3 f4 f5) := hD
          refine lv_iinc (v := (l4 + 1)) (lv' := [(4, .int (l4 + 1)), (3, .int s0), (0, .ref a0), (1, .int l1), (2, .int l2), (5, .int l5)]) hx hb d_Model_follows_247 hl (k := 4) rfl (by rfl) (by decide) rfl (fun ls hl => ?_)
          refine lv_goto (tgt := 55) hx hb d_Model_follows_250 (by decide) ?_
          exact ih.2.1 l1 l2 s0 (l4 + 1) 0 0 0 x0_27 (x0_28 + 1) f1 hF _ _ _ hP hD hS (lv_sub hl [2, 3, 4, 1, 0] rfl)
      · rw [if_neg c_19] at hF
        refine lv_aload_n hx hb d_Model_follows_183 rfl (lv_at hl 1 rfl) ?_
        refine va_get (D := (dC, dI)) (ci := 9) (v := .ref a1) (C := R_Model) (T := F_Model) (N := 29) hx hb hg iw_Model hown hK hP 0 rfl rfl 18 (by decide) (hg _ gw_275) (fun _ h9 => h9) rfl d_Model_follows_184 ?_
        refine lv_aload_n hx hb d_Model_follows_187 rfl (lv_at hl 1 rfl) ?_
        refine va_get (D := (dC, dI)) (ci := 9) (v := .int x0_27) (C := R_Model) (T := F_Model) (N := 29) hx hb hg iw_Model hown hK hP 0 rfl rfl 27 (by decide) (hg _ gw_344) (fun _ h9 => h9) rfl d_Model_follows_188 ?_
        refine lv_iload hx hb d_Model_follows_191 (lv_at hl 5 rfl) ?_
        refine lv_bipush (v := 6) hx hb d_Model_follows_193 (by decide) ?_
        refine lv_icmp_ge (tgt := 203) hx hb d_Model_follows_195 (by decide) (fun c_21 => ?_) (fun c_21 => ?_)
        · rw [if_pos c_21] at hF
          refine lv_aload_n hx hb d_Model_follows_203 rfl (lv_at hl 1 rfl) ?_
          refine va_get (D := (dC, dI)) (ci := 9) (v := .ref a5) (C := R_Model) (T := F_Model) (N := 29) hx hb hg iw_Model hown hK hP 0 rfl rfl 17 (by decide) (hg _ gw_330) (fun _ h9 => h9) rfl d_Model_follows_204 ?_
          refine lv_aload_n hx hb d_Model_follows_207 rfl (lv_at hl 1 rfl) ?_
          refine va_get (D := (dC, dI)) (ci := 9) (v := .int x0_28) (C := R_Model) (T := F_Model) (N := 29) hx hb hg iw_Model hown hK hP 0 rfl rfl 28 (by decide) (hg _ gw_343) (fun _ h9 => h9) rfl d_Model_follows_208 ?_
          obtain ⟨h_22, hF⟩ := rd_chk hF
          refine va_iald hx hb hK hP 5 0 rfl rfl h_22 d_Model_follows_211 ?_
          obtain ⟨h_23, hF⟩ := rd_chk hF
          refine va_iast hx hb hK hP hD hS 1 0 rfl rfl h_23 d_Model_follows_212 (fun H locs hP hD hS => ?_)
          have hP : va_P (dC, dI) classes (wd_Model_follows kA a0 a1 a2 a3 a4 a5 v0_0 v0_1 v0_2 v0_3 v0_4 v0_5 v0_6 v0_7 v0_8 v0_9 v0_10 v0_11 v0_12 v0_13 v0_14 v0_19 v0_22 v0_23 v0_24 v0_25 x0_15 x0_16 x0_27 x0_28 (upd f1 (Int32.toNatClampNeg x0_27) (f5 (Int32.toNatClampNeg x0_28))) f2 f3 f4 f5) H := hP
          have hD : va_D A (wd_Model_follows kA a0 a1 a2 a3 a4 a5 v0_0 v0_1 v0_2 v0_3 v0_4 v0_5 v0_6 v0_7 v0_8 v0_9 v0_10 v0_11 v0_12 v0_13 v0_14 v0_19 v0_22 v0_23 v0_24 v0_25 x0_15 x0_16 x0_27 x0_28 (upd f1 (Int32.toNatClampNeg x0_27) (f5 (Int32.toNatClampNeg x0_28))) f2 f3 f4 f5) := hD
          refine lv_aload_n hx hb d_Model_follows_213 rfl (lv_at hl 1 rfl) ?_
          refine lv_dup hx hb d_Model_follows_214 rfl ?_
          refine va_get (D := (dC, dI)) (ci := 9) (v := .int x0_27) (C := R_Model) (T := F_Model) (N := 29) hx hb hg iw_Model hown hK hP 0 rfl rfl 27 (by decide) (hg _ gw_344) (fun _ h9 => h9) rfl d_Model_follows_215 ?_
          refine lv_iconst (v := 1) hx hb d_Model_follows_218 (by decide) ?_
          refine lv_iadd hx hb d_Model_follows_219 ?_
          refine va_put (D := (dC, dI)) (ci := 9) (v := .int (x0_27 + 1)) (ty := .int) (C := R_Model) (T := F_Model) (N := 29) hx hb hg iw_Model t_Model t_Model_ok n_Model hown hK hP hD hS 0 rfl rfl 27 (by decide) (hg _ gw_344) (fun _ h9 => h9) rfl (by decide +kernel) rfl rfl (Nat.le_of_ble_eq_true rfl) d_Model_follows_220 (fun H locs hP hD hS => ?_)
          have hP : va_P (dC, dI) classes (wd_Model_follows kA a0 a1 a2 a3 a4 a5 v0_0 v0_1 v0_2 v0_3 v0_4 v0_5 v0_6 v0_7 v0_8 v0_9 v0_10 v0_11 v0_12 v0_13 v0_14 v0_19 v0_22 v0_23 v0_24 v0_25 x0_15 x0_16 (x0_27 + 1) x0_28 (upd f1 (Int32.toNatClampNeg x0_27) (f5 (Int32.toNatClampNeg x0_28))) f2 f3 f4 f5) H := hP
          have hD : va_D A (wd_Model_follows kA a0 a1 a2 a3 a4 a5 v0_0 v0_1 v0_2 v0_3 v0_4 v0_5 v0_6 v0_7 v0_8 v0_9 v0_10 v0_11 v0_12 v0_13 v0_14 v0_19 v0_22 v0_23 v0_24 v0_25 x0_15 x0_16 (x0_27 + 1) x0_28 (upd f1 (Int32.toNatClampNeg x0_27) (f5 (Int32.toNatClampNeg x0_28))) f2 f3 f4 f5) := hD
          refine lv_aload_n hx hb d_Model_follows_223 rfl (lv_at hl 1 rfl) ?_
          refine lv_iload hx hb d_Model_follows_224 (lv_at hl 5 rfl) ?_
          refine lv_bipush (v := 6) hx hb d_Model_follows_226 (by decide) ?_
          refine lv_icmp_lt (tgt := 240) hx hb d_Model_follows_228 (by decide) (fun c_24 => ?_) (fun c_24 => ?_)
          · rw [if_pos c_24] at hF
            refine lv_aload_n hx hb d_Model_follows_240 rfl (lv_at hl 1 rfl) ?_
            refine va_get (D := (dC, dI)) (ci := 9) (v := .int x0_28) (C := R_Model) (T := F_Model) (N := 29) hx hb hg iw_Model hown hK hP 0 rfl rfl 28 (by decide) (hg _ gw_343) (fun _ h9 => h9) rfl d_Model_follows_241 ?_
            refine va_put (D := (dC, dI)) (ci := 9) (v := .int x0_28) (ty := .int) (C := R_Model) (T := F_Model) (N := 29) hx hb hg iw_Model t_Model t_Model_ok n_Model hown hK hP hD hS 0 rfl rfl 28 (by decide) (hg _ gw_343) (fun _ h9 => h9) rfl (by decide +kernel) rfl rfl (Nat.le_of_ble_eq_true rfl) d_Model_follows_244 (fun H locs hP hD hS => ?_)
            have hP : va_P (dC, dI) classes (wd_Model_follows kA a0 a1 a2 a3 a4 a5 v0_0 v0_1 v0_2 v0_3 v0_4 v0_5 v0_6 v0_7 v0_8 v0_9 v0_10 v0_11 v0_12 v0_13 v0_14 v0_19 v0_22 v0_23 v0_24 v0_25 x0_15 x0_16 (x0_27 + 1) x0_28 (upd f1 (Int32.toNatClampNeg x0_27) (f5 (Int32.toNatClampNeg x0_28))) f2 f3 f4 f5) H := hP
            have hD : va_D A (wd_Model_follows kA a0 a1 a2 a3 a4 a5 v0_0 v0_1 v0_2 v0_3 v0_4 v0_5 v0_6 v0_7 v0_8 v0_9 v0_10 v0_11 v0_12 v0_13 v0_14 v0_19 v0_22 v0_23 v0_24 v0_25 x0_15 x0_16 (x0_27 + 1) x0_28 (upd f1 (Int32.toNatClampNeg x0_27) (f5 (Int32.toNatClampNeg x0_28))) f2 f3 f4 f5) := hD
            refine lv_iinc (v := (l4 + 1)) (lv' := [(4, .int (l4 + 1)), (3, .int s0), (0, .ref a0), (1, .int l1), (2, .int l2), (5, .int l5)]) hx hb d_Model_follows_247 hl (k := 4) rfl (by rfl) (by decide) rfl (fun ls hl => ?_)
            refine lv_goto (tgt := 55) hx hb d_Model_follows_250 (by decide) ?_
            exact ih.2.1 l1 l2 s0 (l4 + 1) 0 0 0 (x0_27 + 1) x0_28 (upd f1 (Int32.toNatClampNeg x0_27) (f5 (Int32.toNatClampNeg x0_28))) hF _ _ _ hP hD hS (lv_sub hl [2, 3, 4, 1, 0] rfl)
          · rw [if_neg c_24] at hF
            refine lv_aload_n hx hb d_Model_follows_231 rfl (lv_at hl 1 rfl) ?_
            refine va_get (D := (dC, dI)) (ci := 9) (v := .int x0_28) (C := R_Model) (T := F_Model) (N := 29) hx hb hg iw_Model hown hK hP 0 rfl rfl 28 (by decide) (hg _ gw_343) (fun _ h9 => h9) rfl d_Model_follows_232 ?_
            refine lv_iconst (v := 1) hx hb d_Model_follows_235 (by decide) ?_
            refine lv_iadd hx hb d_Model_follows_236 ?_
            refine lv_goto (tgt := 244) hx hb d_Model_follows_237 (by decide) ?_
            refine va_put (D := (dC, dI)) (ci := 9) (v := .int (x0_28 + 1)) (ty := .int) (C := R_Model) (T := F_Model) (N := 29) hx hb hg iw_Model t_Model t_Model_ok n_Model hown hK hP hD hS 0 rfl rfl 28 (by decide) (hg _ gw_343) (fun _ h9 => h9) rfl (by decide +kernel) rfl rfl (Nat.le_of_ble_eq_true rfl) d_Model_follows_244 (fun H locs hP hD hS => ?_)
            have hP : va_P (dC, dI) classes (wd_Model_follows kA a0 a1 a2 a3 a4 a5 v0_0 v0_1 v0_2 v0_3 v0_4 v0_5 v0_6 v0_7 v0_8 v0_9 v0_10 v0_11 v0_12 v0_13 v0_14 v0_19 v0_22 v0_23 v0_24 v0_25 x0_15 x0_16 (x0_27 + 1) (x0_28 + 1) (upd f1 (Int32.toNatClampNeg x0_27) (f5 (Int32.toNatClampNeg x0_28))) f2 f3 f4 f5) H := hP
            have hD : va_D A (wd_Model_follows kA a0 a1 a2 a3 a4 a5 v0_0 v0_1 v0_2 v0_3 v0_4 v0_5 v0_6 v0_7 v0_8 v0_9 v0_10 v0_11 v0_12 v0_13 v0_14 v0_19 v0_22 v0_23 v0_24 v0_25 x0_15 x0_16 (x0_27 + 1) (x0_28 + 1) (upd f1 (Int32.toNatClampNeg x0_27) (f5 (Int32.toNatClampNeg x0_28))) f2 f3 f4 f5) := hD
            refine lv_iinc (v := (l4 + 1)) (lv' := [(4, .int (l4 + 1)), (3, .int s0), (0, .ref a0), (1, .int l1), (2, .int l2), (5, .int l5)]) hx hb d_Model_follows_247 hl (k := 4) rfl (by rfl) (by decide) rfl (fun ls hl => ?_)
            refine lv_goto (tgt := 55) hx hb d_Model_follows_250 (by decide) ?_
            exact ih.2.1 l1 l2 s0 (l4 + 1) 0 0 0 (x0_27 + 1) (x0_28 + 1) (upd f1 (Int32.toNatClampNeg x0_27) (f5 (Int32.toNatClampNeg x0_28))) hF _ _ _ hP hD hS (lv_sub hl [2, 3, 4, 1, 0] rfl)
        · rw [if_neg c_21] at hF
          refine lv_iload hx hb d_Model_follows_198 (lv_at hl 5 rfl) ?_
          refine lv_goto (tgt := 212) hx hb d_Model_follows_200 (by decide) ?_
          obtain ⟨h_25, hF⟩ := rd_chk hF
          refine va_iast hx hb hK hP hD hS 1 0 rfl rfl h_25 d_Model_follows_212 (fun H locs hP hD hS => ?_)
          have hP : va_P (dC, dI) classes (wd_Model_follows kA a0 a1 a2 a3 a4 a5 v0_0 v0_1 v0_2 v0_3 v0_4 v0_5 v0_6 v0_7 v0_8 v0_9 v0_10 v0_11 v0_12 v0_13 v0_14 v0_19 v0_22 v0_23 v0_24 v0_25 x0_15 x0_16 x0_27 x0_28 (upd f1 (Int32.toNatClampNeg x0_27) l5) f2 f3 f4 f5) H := hP
          have hD : va_D A (wd_Model_follows kA a0 a1 a2 a3 a4 a5 v0_0 v0_1 v0_2 v0_3 v0_4 v0_5 v0_6 v0_7 v0_8 v0_9 v0_10 v0_11 v0_12 v0_13 v0_14 v0_19 v0_22 v0_23 v0_24 v0_25 x0_15 x0_16 x0_27 x0_28 (upd f1 (Int32.toNatClampNeg x0_27) l5) f2 f3 f4 f5) := hD
          refine lv_aload_n hx hb d_Model_follows_213 rfl (lv_at hl 1 rfl) ?_
          refine lv_dup hx hb d_Model_follows_214 rfl ?_
          refine va_get (D := (dC, dI)) (ci := 9) (v := .int x0_27) (C := R_Model) (T := F_Model) (N := 29) hx hb hg iw_Model hown hK hP 0 rfl rfl 27 (by decide) (hg _ gw_344) (fun _ h9 => h9) rfl d_Model_follows_215 ?_
          refine lv_iconst (v := 1) hx hb d_Model_follows_218 (by decide) ?_
          refine lv_iadd hx hb d_Model_follows_219 ?_
          refine va_put (D := (dC, dI)) (ci := 9) (v := .int (x0_27 + 1)) (ty := .int) (C := R_Model) (T := F_Model) (N := 29) hx hb hg iw_Model t_Model t_Model_ok n_Model hown hK hP hD hS 0 rfl rfl 27 (by decide) (hg _ gw_344) (fun _ h9 => h9) rfl (by decide +kernel) rfl rfl (Nat.le_of_ble_eq_true rfl) d_Model_follows_220 (fun H locs hP hD hS => ?_)
          have hP : va_P (dC, dI) classes (wd_Model_follows kA a0 a1 a2 a3 a4 a5 v0_0 v0_1 v0_2 v0_3 v0_4 v0_5 v0_6 v0_7 v0_8 v0_9 v0_10 v0_11 v0_12 v0_13 v0_14 v0_19 v0_22 v0_23 v0_24 v0_25 x0_15 x0_16 (x0_27 + 1) x0_28 (upd f1 (Int32.toNatClampNeg x0_27) l5) f2 f3 f4 f5) H := hP
          have hD : va_D A (wd_Model_follows kA a0 a1 a2 a3 a4 a5 v0_0 v0_1 v0_2 v0_3 v0_4 v0_5 v0_6 v0_7 v0_8 v0_9 v0_10 v0_11 v0_12 v0_13 v0_14 v0_19 v0_22 v0_23 v0_24 v0_25 x0_15 x0_16 (x0_27 + 1) x0_28 (upd f1 (Int32.toNatClampNeg x0_27) l5) f2 f3 f4 f5) := hD
          refine lv_aload_n hx hb d_Model_follows_223 rfl (lv_at hl 1 rfl) ?_
          refine lv_iload hx hb d_Model_follows_224 (lv_at hl 5 rfl) ?_
          refine lv_bipush (v := 6) hx hb d_Model_follows_226 (by decide) ?_
          refine lv_icmp_lt (tgt := 240) hx hb d_Model_follows_228 (by decide) (fun c_26 => ?_) (fun c_26 => ?_)
          · rw [if_pos c_26] at hF
            refine lv_aload_n hx hb d_Model_follows_240 rfl (lv_at hl 1 rfl) ?_
            refine va_get (D := (dC, dI)) (ci := 9) (v := .int x0_28) (C := R_Model) (T := F_Model) (N := 29) hx hb hg iw_Model hown hK hP 0 rfl rfl 28 (by decide) (hg _ gw_343) (fun _ h9 => h9) rfl d_Model_follows_241 ?_
            refine va_put (D := (dC, dI)) (ci := 9) (v := .int x0_28) (ty := .int) (C := R_Model) (T := F_Model) (N := 29) hx hb hg iw_Model t_Model t_Model_ok n_Model hown hK hP hD hS 0 rfl rfl 28 (by decide) (hg _ gw_343) (fun _ h9 => h9) rfl (by decide +kernel) rfl rfl (Nat.le_of_ble_eq_true rfl) d_Model_follows_244 (fun H locs hP hD hS => ?_)
            have hP : va_P (dC, dI) classes (wd_Model_follows kA a0 a1 a2 a3 a4 a5 v0_0 v0_1 v0_2 v0_3 v0_4 v0_5 v0_6 v0_7 v0_8 v0_9 v0_10 v0_11 v0_12 v0_13 v0_14 v0_19 v0_22 v0_23 v0_24 v0_25 x0_15 x0_16 (x0_27 + 1) x0_28 (upd f1 (Int32.toNatClampNeg x0_27) l5) f2 f3 f4 f5) H := hP
            have hD : va_D A (wd_Model_follows kA a0 a1 a2 a3 a4 a5 v0_0 v0_1 v0_2 v0_3 v0_4 v0_5 v0_6 v0_7 v0_8 v0_9 v0_10 v0_11 v0_12 v0_13 v0_14 v0_19 v0_22 v0_23 v0_24 v0_25 x0_15 x0_16 (x0_27 + 1) x0_28 (upd f1 (Int32.toNatClampNeg x0_27) l5) f2 f3 f4 f5) := hD
            refine lv_iinc (v := (l4 + 1)) (lv' := [(4, .int (l4 + 1)), (3, .int s0), (0, .ref a0), (1, .int l1), (2, .int l2), (5, .int l5)]) hx hb d_Model_follows_247 hl (k := 4) rfl (by rfl) (by decide) rfl (fun ls hl => ?_)
            refine lv_goto (tgt := 55) hx hb d_Model_follows_250 (by decide) ?_
            exact ih.2.1 l1 l2 s0 (l4 + 1) 0 0 0 (x0_27 + 1) x0_28 (upd f1 (Int32.toNatClampNeg x0_27) l5) hF _ _ _ hP hD hS (lv_sub hl [2, 3, 4, 1, 0] rfl)
          · rw [if_neg c_26] at hF
            refine lv_aload_n hx hb d_Model_follows_231 rfl (lv_at hl 1 rfl) ?_
            refine va_get (D := (dC, dI)) (ci := 9) (v := .int x0_28) (C := R_Model) (T := F_Model) (N := 29) hx hb hg iw_Model hown hK hP 0 rfl rfl 28 (by decide) (hg _ gw_343) (fun _ h9 => h9) rfl d_Model_follows_232 ?_
            refine lv_iconst (v := 1) hx hb d_Model_follows_235 (by decide) ?_
            refine lv_iadd hx hb d_Model_follows_236 ?_
            refine lv_goto (tgt := 244) hx hb d_Model_follows_237 (by decide) ?_
            refine va_put (D := (dC, dI)) (ci := 9) (v := .int (x0_28 + 1)) (ty := .int) (C := R_Model) (T := F_Model) (N := 29) hx hb hg iw_Model t_Model t_Model_ok n_Model hown hK hP hD hS 0 rfl rfl 28 (by decide) (hg _ gw_343) (fun _ h9 => h9) rfl (by decide +kernel) rfl rfl (Nat.le_of_ble_eq_true rfl) d_Model_follows_244 (fun H locs hP hD hS => ?_)
            have hP : va_P (dC, dI) classes (wd_Model_follows kA a0 a1 a2 a3 a4 a5 v0_0 v0_1 v0_2 v0_3 v0_4 v0_5 v0_6 v0_7 v0_8 v0_9 v0_10 v0_11 v0_12 v0_13 v0_14 v0_19 v0_22 v0_23 v0_24 v0_25 x0_15 x0_16 (x0_27 + 1) (x0_28 + 1) (upd f1 (Int32.toNatClampNeg x0_27) l5) f2 f3 f4 f5) H := hP
            have hD : va_D A (wd_Model_follows kA a0 a1 a2 a3 a4 a5 v0_0 v0_1 v0_2 v0_3 v0_4 v0_5 v0_6 v0_7 v0_8 v0_9 v0_10 v0_11 v0_12 v0_13 v0_14 v0_19 v0_22 v0_23 v0_24 v0_25 x0_15 x0_16 (x0_27 + 1) (x0_28 + 1) (upd f1 (Int32.toNatClampNeg x0_27) l5) f2 f3 f4 f5) := hD
            refine lv_iinc (v := (l4 + 1)) (lv' := [(4, .int (l4 + 1)), (3, .int s0), (0, .ref a0), (1, .int l1), (2, .int l2), (5, .int l5)]) hx hb d_Model_follows_247 hl (k := 4) rfl (by rfl) (by decide) rfl (fun ls hl => ?_)
            refine lv_goto (tgt := 55) hx hb d_Model_follows_250 (by decide) ?_
            exact ih.2.1 l1 l2 s0 (l4 + 1) 0 0 0 (x0_27 + 1) (x0_28 + 1) (upd f1 (Int32.toNatClampNeg x0_27) l5) hF _ _ _ hP hD hS (lv_sub hl [2, 3, 4, 1, 0] rfl)
def S_Model_follows (p1 : Int32) (x0_15 : Int32) (x0_16 : Int32) (x0_27 : Int32) (x0_28 : Int32) (f1 : (Nat → Int32)) (f2 : (Nat → Int32)) (f3 : (Nat → Int32)) (f4 : (Nat → Int32)) (f5 : (Nat → Int32)) : Option (Int32 × Int32 × Int32 × (Nat → Int32)) := (F_Model_follows x0_15 x0_16 f2 f3 f4 f5 fuel_ 0 p1 0 0 0 0 0 0 x0_16 x0_16 f1)
set_option maxHeartbeats 4000000 in
set_option maxRecDepth 100000 in
theorem c_Model_follows (l : Launch) (dC : Nat → ClassId) (dI : Nat → Nat → Nat) (kA : Nat → ClassId) (sz : Nat) (a0 a1 a2 a3 a4 a5 : Nat) (v0_0 v0_1 v0_2 v0_3 v0_4 v0_5 v0_6 v0_7 v0_8 v0_9 v0_10 v0_11 v0_12 v0_13 v0_14 v0_19 v0_22 v0_23 v0_24 v0_25 : Value) (p1 : Int32) (x0_15 : Int32) (x0_16 : Int32) (x0_27 : Int32) (x0_28 : Int32) (f1 : (Nat → Int32)) (f2 : (Nat → Int32)) (f3 : (Nat → Int32)) (f4 : (Nat → Int32)) (f5 : (Nat → Int32)) (r : Int32) (ox0_27 : Int32) (ox0_28 : Int32) (of1 : (Nat → Int32)) (hF : S_Model_follows p1 x0_15 x0_16 x0_27 x0_28 f1 f2 f3 f4 f5 = some (r, ox0_27, ox0_28, of1)) : Met l y_Model_follows w_Model_follows rm_Model_follows (va_Pc [.ref a0, .int p1] (fun U => U.heap.size = sz ∧ va_P (dC, dI) classes (wd_Model_follows kA a0 a1 a2 a3 a4 a5 v0_0 v0_1 v0_2 v0_3 v0_4 v0_5 v0_6 v0_7 v0_8 v0_9 v0_10 v0_11 v0_12 v0_13 v0_14 v0_19 v0_22 v0_23 v0_24 v0_25 x0_15 x0_16 x0_27 x0_28 f1 f2 f3 f4 f5) U.heap ∧ va_K (dC, dI) classes (tys_ kA) U ∧ va_D (fun _ => True) (wd_Model_follows kA a0 a1 a2 a3 a4 a5 v0_0 v0_1 v0_2 v0_3 v0_4 v0_5 v0_6 v0_7 v0_8 v0_9 v0_10 v0_11 v0_12 v0_13 v0_14 v0_19 v0_22 v0_23 v0_24 v0_25 x0_15 x0_16 x0_27 x0_28 f1 f2 f3 f4 f5))) (va_Qi (fun (r1 : Int32) (_ : Unit) => r1 = r) (fun _ t => va_P (dC, dI) classes (wd_Model_follows kA a0 a1 a2 a3 a4 a5 v0_0 v0_1 v0_2 v0_3 v0_4 v0_5 v0_6 v0_7 v0_8 v0_9 v0_10 v0_11 v0_12 v0_13 v0_14 v0_19 v0_22 v0_23 v0_24 v0_25 x0_15 x0_16 ox0_27 ox0_28 of1 f2 f3 f4 f5) t.heap ∧ va_K (dC, dI) classes (tys_ kA) t ∧ va_D (va_A (wd_Model_follows kA a0 a1 a2 a3 a4 a5 v0_0 v0_1 v0_2 v0_3 v0_4 v0_5 v0_6 v0_7 v0_8 v0_9 v0_10 v0_11 v0_12 v0_13 v0_14 v0_19 v0_22 v0_23 v0_24 v0_25 x0_15 x0_16 x0_27 x0_28 f1 f2 f3 f4 f5) sz) (wd_Model_follows kA a0 a1 a2 a3 a4 a5 v0_0 v0_1 v0_2 v0_3 v0_4 v0_5 v0_6 v0_7 v0_8 v0_9 v0_10 v0_11 v0_12 v0_13 v0_14 v0_19 v0_22 v0_23 v0_24 v0_25 x0_15 x0_16 ox0_27 ox0_28 of1 f2 f3 f4 f5)) (va_A (wd_Model_follows kA a0 a1 a2 a3 a4 a5 v0_0 v0_1 v0_2 v0_3 v0_4 v0_5 v0_6 v0_7 v0_8 v0_9 v0_10 v0_11 v0_12 v0_13 v0_14 v0_19 v0_22 v0_23 v0_24 v0_25 x0_15 x0_16 x0_27 x0_28 f1 f2 f3 f4 f5) sz)) 0 0 (va_A (wd_Model_follows kA a0 a1 a2 a3 a4 a5 v0_0 v0_1 v0_2 v0_3 v0_4 v0_5 v0_6 v0_7 v0_8 v0_9 v0_10 v0_11 v0_12 v0_13 v0_14 v0_19 v0_22 v0_23 v0_24 v0_25 x0_15 x0_16 x0_27 x0_28 f1 f2 f3 f4 f5) sz) := by
  refine Met.ofW (cc := b_Model_follows) (maxL := 6) (ret := some .int) (by decide) rfl ?_
  intro p e s m args below meth c s₁ B hml hv
  obtain ⟨rfl, hsz, hP, hK, hD0⟩ := hv
  have hx := B.exec
  have hb := B.bytes
  have hr := B.returns
  have hts := atoms_spec (ws := w_Model_follows) B.pre
  have hown : s.vm.findClass R_Model = some m.cls := findClass_of_methodNamed B.named
  have hg := fun (w : Cond) (h : w ∈ gw) => hts w (List.mem_cons_of_mem _ h)
  have hlocks := B.notSynchronized
  subst hsz
  have hD := hD0.self (sz := s.heap.size)
  generalize hAe : va_A (wd_Model_follows kA a0 a1 a2 a3 a4 a5 v0_0 v0_1 v0_2 v0_3 v0_4 v0_5 v0_6 v0_7 v0_8 v0_9 v0_10 v0_11 v0_12 v0_13 v0_14 v0_19 v0_22 v0_23 v0_24 v0_25 x0_15 x0_16 x0_27 x0_28 f1 f2 f3 f4 f5) s.heap.size = A at hD ⊢
  have hA : ∀ q : Nat, s.heap.size ≤ q → A q := fun q h => by rw [← hAe]; exact Or.inr h
  have hS : va_S A s.heap s.heap [] := va_S.rf
  have hl := lv_entry ([.ref a0, .int p1]) (n := 6) (Nat.le_of_ble_eq_true rfl)
  rw [lg_entry_eq]
  generalize (lg_sl ([.ref a0, .int p1]) ++ List.replicate (6 - (lg_sl ([.ref a0, .int p1])).length) Slot.unset).toArray = ls at hl ⊢
  have hl : lv_has ls 6 [(0, .ref a0), (1, .int p1)] := hl
  unfold S_Model_follows at hF
  have ih := L_Model_follows (l := l) (e := e) (below := below) hx hb hr hlocks hml hown hts hA hK a0 a1 a2 a3 a4 a5 v0_0 v0_1 v0_2 v0_3 v0_4 v0_5 v0_6 v0_7 v0_8 v0_9 v0_10 v0_11 v0_12 v0_13 v0_14 v0_19 v0_22 v0_23 v0_24 v0_25 x0_15 x0_16 f2 f3 f4 f5 r ox0_27 ox0_28 of1 fuel_
  refine lv_aload_n hx hb d_Model_follows_0 rfl (lv_at hl 0 rfl) ?_
  refine lv_aload_n hx hb d_Model_follows_1 rfl (lv_at hl 0 rfl) ?_
  refine va_get (D := (dC, dI)) (ci := 9) (v := .int x0_16) (C := R_Model) (T := F_Model) (N := 29) hx hb hg iw_Model hown hK hP 0 rfl rfl 16 (by decide) (hg _ gw_341) (fun _ h9 => h9) rfl d_Model_follows_2 ?_
  refine va_put (D := (dC, dI)) (ci := 9) (v := .int x0_16) (ty := .int) (C := R_Model) (T := F_Model) (N := 29) hx hb hg iw_Model t_Model t_Model_ok n_Model hown hK hP hD hS 0 rfl rfl 27 (by decide) (hg _ gw_344) (fun _ h9 => h9) rfl (by decide +kernel) rfl rfl (Nat.le_of_ble_eq_true rfl) d_Model_follows_5 (fun H locs hP hD hS => ?_)
  have hP : va_P (dC, dI) classes (wd_Model_follows kA a0 a1 a2 a3 a4 a5 v0_0 v0_1 v0_2 v0_3 v0_4 v0_5 v0_6 v0_7 v0_8 v0_9 v0_10 v0_11 v0_12 v0_13 v0_14 v0_19 v0_22 v0_23 v0_24 v0_25 x0_15 x0_16 x0_16 x0_28 f1 f2 f3 f4 f5) H := hP
  have hD : va_D A (wd_Model_follows kA a0 a1 a2 a3 a4 a5 v0_0 v0_1 v0_2 v0_3 v0_4 v0_5 v0_6 v0_7 v0_8 v0_9 v0_10 v0_11 v0_12 v0_13 v0_14 v0_19 v0_22 v0_23 v0_24 v0_25 x0_15 x0_16 x0_16 x0_28 f1 f2 f3 f4 f5) := hD
  refine lv_aload_n hx hb d_Model_follows_8 rfl (lv_at hl 0 rfl) ?_
  refine lv_aload_n hx hb d_Model_follows_9 rfl (lv_at hl 0 rfl) ?_
  refine va_get (D := (dC, dI)) (ci := 9) (v := .int x0_16) (C := R_Model) (T := F_Model) (N := 29) hx hb hg iw_Model hown hK hP 0 rfl rfl 16 (by decide) (hg _ gw_341) (fun _ h9 => h9) rfl d_Model_follows_10 ?_
  refine va_put (D := (dC, dI)) (ci := 9) (v := .int x0_16) (ty := .int) (C := R_Model) (T := F_Model) (N := 29) hx hb hg iw_Model t_Model t_Model_ok n_Model hown hK hP hD hS 0 rfl rfl 28 (by decide) (hg _ gw_343) (fun _ h9 => h9) rfl (by decide +kernel) rfl rfl (Nat.le_of_ble_eq_true rfl) d_Model_follows_13 (fun H locs hP hD hS => ?_)
  have hP : va_P (dC, dI) classes (wd_Model_follows kA a0 a1 a2 a3 a4 a5 v0_0 v0_1 v0_2 v0_3 v0_4 v0_5 v0_6 v0_7 v0_8 v0_9 v0_10 v0_11 v0_12 v0_13 v0_14 v0_19 v0_22 v0_23 v0_24 v0_25 x0_15 x0_16 x0_16 x0_16 f1 f2 f3 f4 f5) H := hP
  have hD : va_D A (wd_Model_follows kA a0 a1 a2 a3 a4 a5 v0_0 v0_1 v0_2 v0_3 v0_4 v0_5 v0_6 v0_7 v0_8 v0_9 v0_10 v0_11 v0_12 v0_13 v0_14 v0_19 v0_22 v0_23 v0_24 v0_25 x0_15 x0_16 x0_16 x0_16 f1 f2 f3 f4 f5) := hD
  refine lv_iconst (v := 0) hx hb d_Model_follows_16 (by decide) ?_
  refine lv_istore_n (lv' := [(2, .int 0), (0, .ref a0), (1, .int p1)]) hx hb d_Model_follows_17 rfl hl (by decide) rfl (fun ls hl => ?_)
  refine lv_iconst (v := 0) hx hb d_Model_follows_18 (by decide) ?_
  refine lv_istore_n (lv' := [(3, .int 0), (2, .int 0), (0, .ref a0), (1, .int p1)]) hx hb d_Model_follows_19 rfl hl (by decide) rfl (fun ls hl => ?_)
  refine lv_iconst (v := 0) hx hb d_Model_follows_20 (by decide) ?_
  refine lv_istore (lv' := [(4, .int 0), (3, .int 0), (2, .int 0), (0, .ref a0), (1, .int p1)]) hx hb d_Model_follows_21 hl (by decide) rfl (fun ls hl => ?_)
  exact ih.1 p1 0 0 0 0 0 0 x0_16 x0_16 f1 hF _ _ _ hP hD hS (lv_sub hl [3, 4, 2, 1, 0] rfl)
-- ===== RepairDeskModel.note(II)V
abbrev wd_Model_note (kA : Nat → ClassId) (a0 a1 a2 a3 a4 a5 a6 a7 a8 a9 a10 : Nat) (v0_0 v0_1 v0_2 v0_3 v0_6 v0_7 v0_8 v0_9 v0_10 v0_11 v0_12 v0_16 v0_20 v0_21 v0_23 : Value) (x0_15 : Int32) (x0_22 : Int32) (x0_27 : Int32) (x0_28 : Int32) (f1 : (Nat → Int32)) (f2 : (Nat → Int32)) (f3 : (Nat → Int32)) (f4 : (Nat → Int32)) (f5 : (Nat → Int32)) (f6 : (Nat → Int32)) (f7 : (Nat → Int32)) (f8 : (Nat → Int32)) (f9 : (Nat → Int32)) (f10 : (Nat → Int32)) : va_W := [(a0, .inr (9, [v0_0, v0_1, v0_2, v0_3, .ref a3, .ref a4, v0_6, v0_7, v0_8, v0_9, v0_10, v0_11, v0_12, .ref a1, .ref a5, .int x0_15, v0_16, .ref a10, .ref a2, .ref a8, v0_20, v0_21, .int x0_22, v0_23, .ref a9, .ref a6, .ref a7, .int x0_27, .int x0_28])), (a1, .inl (kA 0, 2310, .inl f1)), (a2, .inl (kA 0, 24, .inl f2)), (a3, .inl (kA 0, 11, .inl f3)), (a4, .inl (kA 0, 11, .inl f4)), (a5, .inl (kA 0, 492, .inl f5)), (a6, .inl (kA 0, 40, .inl f6)), (a7, .inl (kA 0, 8, .inl f7)), (a8, .inl (kA 0, 400, .inl f8)), (a9, .inl (kA 0, 280, .inl f9)), (a10, .inl (kA 0, 16, .inl f10))]
abbrev rm_Model_note : Room := { frames := 2, cells := 0, slots := 0, locals := 51 }
def B_Model_note_0 (K : Nat → Int32 → Int32 → Int32 → Int32 → Int32 → Int32 → (Nat → Int32) → (Nat → Int32) → (Nat → Int32) → (Nat → Int32) → Option (Int32 × (Nat → Int32) × (Nat → Int32) × (Nat → Int32) × (Nat → Int32))) (x0_15 : Int32) (x0_27 : Int32) (x0_28 : Int32) (f1 : (Nat → Int32)) (f3 : (Nat → Int32)) (f4 : (Nat → Int32)) (f5 : (Nat → Int32)) (f7 : (Nat → Int32)) (f10 : (Nat → Int32)) (l1 : Int32) (l2 : Int32) (l3 : Int32) (l4 : Int32) (l5 : Int32) (x0_22 : Int32) (f2 : (Nat → Int32)) (f6 : (Nat → Int32)) (f8 : (Nat → Int32)) (f9 : (Nat → Int32)) : Option (Int32 × (Nat → Int32) × (Nat → Int32) × (Nat → Int32) × (Nat → Int32)) := (if x0_15 ≤ l4 then ((S_Model_wrongAt l3 1 f1 f2 f3 f4 f5 f8).bind fun u_2 => (if u_2.1 < 0 then (if 40 ≤ x0_22 then (some ((x0_22 + 1), f2, f6, u_2.2, f9)) else (K 1 l1 l2 l3 u_2.1 0 x0_22 f2 f6 u_2.2 f9)) else (if (x0_27 + l2) ≤ u_2.1 then (if 40 ≤ x0_22 then (some ((x0_22 + 1), f2, f6, u_2.2, f9)) else (K 1 l1 l2 l3 u_2.1 0 x0_22 f2 f6 u_2.2 f9)) else (some (x0_22, f2, f6, u_2.2, f9))))) else (if (l4 : Int32) < 0 ∨ 16 ≤ (Int32.toNatClampNeg l4) then none else (if (l3 : Int32) < 0 ∨ 24 ≤ (Int32.toNatClampNeg l3) then none else (K 0 l1 l2 (l3 + 1) (l4 + 1) 0 x0_22 (upd f2 (Int32.toNatClampNeg l3) (f10 (Int32.toNatClampNeg l4))) f6 f8 f9))))
def B_Model_note_1 (K : Nat → Int32 → Int32 → Int32 → Int32 → Int32 → Int32 → (Nat → Int32) → (Nat → Int32) → (Nat → Int32) → (Nat → Int32) → Option (Int32 × (Nat → Int32) × (Nat → Int32) × (Nat → Int32) × (Nat → Int32))) (x0_15 : Int32) (x0_27 : Int32) (x0_28 : Int32) (f1 : (Nat → Int32)) (f3 : (Nat → Int32)) (f4 : (Nat → Int32)) (f5 : (Nat → Int32)) (f7 : (Nat → Int32)) (f10 : (Nat → Int32)) (l1 : Int32) (l2 : Int32) (l3 : Int32) (l4 : Int32) (l5 : Int32) (x0_22 : Int32) (f2 : (Nat → Int32)) (f6 : (Nat → Int32)) (f8 : (Nat → Int32)) (f9 : (Nat → Int32)) : Option (Int32 × (Nat → Int32) × (Nat → Int32) × (Nat → Int32) × (Nat → Int32)) := (if 7 ≤ l5 then (if 0 ≤ l4 then (if (x0_22 : Int32) < 0 ∨ 40 ≤ (Int32.toNatClampNeg x0_22) then none else (some ((x0_22 + 1), f2, (upd f6 (Int32.toNatClampNeg x0_22) (l4 - x0_27)), f8, f9))) else (if (x0_22 : Int32) < 0 ∨ 40 ≤ (Int32.toNatClampNeg x0_22) then none else (some ((x0_22 + 1), f2, (upd f6 (Int32.toNatClampNeg x0_22) (l3 - x0_27)), f8, f9)))) else (if l1 ≤ l5 then (if (((7 * x0_22) + l5) : Int32) < 0 ∨ 280 ≤ (Int32.toNatClampNeg ((7 * x0_22) + l5)) then none else (K 1 l1 l2 l3 l4 (l5 + 1) x0_22 f2 f6 f8 (upd f9 (Int32.toNatClampNeg ((7 * x0_22) + l5)) (-1)))) else (if (l5 : Int32) < 0 ∨ 8 ≤ (Int32.toNatClampNeg l5) then none else (if (((7 * x0_22) + l5) : Int32) < 0 ∨ 280 ≤ (Int32.toNatClampNeg ((7 * x0_22) + l5)) then none else (K 1 l1 l2 l3 l4 (l5 + 1) x0_22 f2 f6 f8 (upd f9 (Int32.toNatClampNeg ((7 * x0_22) + l5)) (f7 (Int32.toNatClampNeg l5))))))))
def F_Model_note (x0_15 : Int32) (x0_27 : Int32) (x0_28 : Int32) (f1 : (Nat → Int32)) (f3 : (Nat → Int32)) (f4 : (Nat → Int32)) (f5 : (Nat → Int32)) (f7 : (Nat → Int32)) (f10 : (Nat → Int32)) : Nat → Nat → Int32 → Int32 → Int32 → Int32 → Int32 → Int32 → (Nat → Int32) → (Nat → Int32) → (Nat → Int32) → (Nat → Int32) → Option (Int32 × (Nat → Int32) × (Nat → Int32) × (Nat → Int32) × (Nat → Int32))
  | 0 => fun _ _ _ _ _ _ _ _ _ _ _ => none
  | n + 1 => fun hd l1 l2 l3 l4 l5 x0_22 f2 f6 f8 f9 => match hd with
    | 0 => B_Model_note_0 (F_Model_note x0_15 x0_27 x0_28 f1 f3 f4 f5 f7 f10 n) x0_15 x0_27 x0_28 f1 f3 f4 f5 f7 f10 l1 l2 l3 l4 l5 x0_22 f2 f6 f8 f9
    | 1 => B_Model_note_1 (F_Model_note x0_15 x0_27 x0_28 f1 f3 f4 f5 f7 f10 n) x0_15 x0_27 x0_28 f1 f3 f4 f5 f7 f10 l1 l2 l3 l4 l5 x0_22 f2 f6 f8 f9
    | _ => none
set_option maxHeartbeats 4000000 in
set_option maxRecDepth 100000 in
theorem L_Model_note {p : Program} {l : Launch} {e : Env} {s : State} {m : MethodId} {args : Array Value} {below : List Frame} {meth : Method} {c : Code} {A : Nat → Prop} {dC : Nat → ClassId} {dI : Nat → Nat → Nat} {kA : Nat → ClassId} (hx : p.tables.exec = Jvm.exec) (hb : c.code = b_Model_note) (hr : meth.sig.returnType = none) (hlocks : meth.locks = false) (hml : c.maxLocals = 6) (hown : s.vm.findClass R_Model = some m.cls) (hts : ∀ w ∈ w_Model_note, w.before args s = true) (hA : ∀ q : Nat, s.heap.size ≤ q → A q) (hK : va_K (dC, dI) classes (tys_ kA) s) (a0 a1 a2 a3 a4 a5 a6 a7 a8 a9 a10 : Nat) (v0_0 v0_1 v0_2 v0_3 v0_6 v0_7 v0_8 v0_9 v0_10 v0_11 v0_12 v0_16 v0_20 v0_21 v0_23 : Value) (x0_15 : Int32) (x0_27 : Int32) (x0_28 : Int32) (f1 : (Nat → Int32)) (f3 : (Nat → Int32)) (f4 : (Nat → Int32)) (f5 : (Nat → Int32)) (f7 : (Nat → Int32)) (f10 : (Nat → Int32)) (ox0_22 : Int32) (of2 : (Nat → Int32)) (of6 : (Nat → Int32)) (of8 : (Nat → Int32)) (of9 : (Nat → Int32)) : ∀ n : Nat, (∀ (l1 l2 l3 l4 l5 : Int32) (x0_22 : Int32) (f2 : (Nat → Int32)) (f6 : (Nat → Int32)) (f8 : (Nat → Int32)) (f9 : (Nat → Int32)), F_Model_note x0_15 x0_27 x0_28 f1 f3 f4 f5 f7 f10 n 0 l1 l2 l3 l4 l5 x0_22 f2 f6 f8 f9 = some (ox0_22, of2, of6, of8, of9) → ∀ (H : Heap) (locs : List Loc) (ls : Array Slot), va_P (dC, dI) classes (wd_Model_note kA a0 a1 a2 a3 a4 a5 a6 a7 a8 a9 a10 v0_0 v0_1 v0_2 v0_3 v0_6 v0_7 v0_8 v0_9 v0_10 v0_11 v0_12 v0_16 v0_20 v0_21 v0_23 x0_15 x0_22 x0_27 x0_28 f1 f2 f3 f4 f5 f6 f7 f8 f9 f10) H → va_D A (wd_Model_note kA a0 a1 a2 a3 a4 a5 a6 a7 a8 a9 a10 v0_0 v0_1 v0_2 v0_3 v0_6 v0_7 v0_8 v0_9 v0_10 v0_11 v0_12 v0_16 v0_20 v0_21 v0_23 x0_15 x0_22 x0_27 x0_28 f1 f2 f3 f4 f5 f6 f7 f8 f9 f10) → va_S A s.heap H locs → lv_has ls 6 [(0, .ref a0), (1, .int l1), (2, .int l2), (3, .int l3), (4, .int l4)] → W p l e (headSpec w_Model_note rm_Model_note).room s m args below meth c H locs 0 0 (MQ below (va_Qv (fun (_ : Unit) => True) (fun _ t => va_P (dC, dI) classes (wd_Model_note kA a0 a1 a2 a3 a4 a5 a6 a7 a8 a9 a10 v0_0 v0_1 v0_2 v0_3 v0_6 v0_7 v0_8 v0_9 v0_10 v0_11 v0_12 v0_16 v0_20 v0_21 v0_23 x0_15 ox0_22 x0_27 x0_28 f1 of2 f3 f4 f5 of6 f7 of8 of9 f10) t.heap ∧ va_K (dC, dI) classes (tys_ kA) t ∧ va_D A (wd_Model_note kA a0 a1 a2 a3 a4 a5 a6 a7 a8 a9 a10 v0_0 v0_1 v0_2 v0_3 v0_6 v0_7 v0_8 v0_9 v0_10 v0_11 v0_12 v0_16 v0_20 v0_21 v0_23 x0_15 ox0_22 x0_27 x0_28 f1 of2 f3 f4 f5 of6 f7 of8 of9 f10)) A) args s 0 0 A) (F0 m 11 ls [])) ∧ (∀ (l1 l2 l3 l4 l5 : Int32) (x0_22 : Int32) (f2 : (Nat → Int32)) (f6 : (Nat → Int32)) (f8 : (Nat → Int32)) (f9 : (Nat → Int32)), F_Model_note x0_15 x0_27 x0_28 f1 f3 f4 f5 f7 f10 n 1 l1 l2 l3 l4 l5 x0_22 f2 f6 f8 f9 = some (ox0_22, of2, of6, of8, of9) → ∀ (H : Heap) (locs : List Loc) (ls : Array Slot), va_P (dC, dI) classes (wd_Model_note kA a0 a1 a2 a3 a4 a5 a6 a7 a8 a9 a10 v0_0 v0_1 v0_2 v0_3 v0_6 v0_7 v0_8 v0_9 v0_10 v0_11 v0_12 v0_16 v0_20 v0_21 v0_23 x0_15 x0_22 x0_27 x0_28 f1 f2 f3 f4 f5 f6 f7 f8 f9 f10) H → va_D A (wd_Model_note kA a0 a1 a2 a3 a4 a5 a6 a7 a8 a9 a10 v0_0 v0_1 v0_2 v0_3 v0_6 v0_7 v0_8 v0_9 v0_10 v0_11 v0_12 v0_16 v0_20 v0_21 v0_23 x0_15 x0_22 x0_27 x0_28 f1 f2 f3 f4 f5 f6 f7 f8 f9 f10) → va_S A s.heap H locs → lv_has ls 6 [(0, .ref a0), (1, .int l1), (2, .int l2), (3, .int l3), (4, .int l4), (5, .int l5)] → W p l e (headSpec w_Model_note rm_Model_note).room s m args below meth c H locs 0 0 (MQ below (va_Qv (fun (_ : Unit) => True) (fun _ t => va_P (dC, dI) classes (wd_Model_note kA a0 a1 a2 a3 a4 a5 a6 a7 a8 a9 a10 v0_0 v0_1 v0_2 v0_3 v0_6 v0_7 v0_8 v0_9 v0_10 v0_11 v0_12 v0_16 v0_20 v0_21 v0_23 x0_15 ox0_22 x0_27 x0_28 f1 of2 f3 f4 f5 of6 f7 of8 of9 f10) t.heap ∧ va_K (dC, dI) classes (tys_ kA) t ∧ va_D A (wd_Model_note kA a0 a1 a2 a3 a4 a5 a6 a7 a8 a9 a10 v0_0 v0_1 v0_2 v0_3 v0_6 v0_7 v0_8 v0_9 v0_10 v0_11 v0_12 v0_16 v0_20 v0_21 v0_23 x0_15 ox0_22 x0_27 x0_28 f1 of2 f3 f4 f5 of6 f7 of8 of9 f10)) A) args s 0 0 A) (F0 m 79 ls [])) := by
  have hg := fun (w : Cond) (h : w ∈ gw) => hts w (List.mem_cons_of_mem _ h)
  intro n
  induction n with
  | zero =>
    exact ⟨fun _ _ _ _ _ _ _ _ _ _ hF => absurd (show (none : Option _) = some _ from hF) (fun z => by cases z), fun _ _ _ _ _ _ _ _ _ _ hF => absurd (show (none : Option _) = some _ from hF) (fun z => by cases z)⟩
  | succ n ih =>
    refine ⟨?_, ?_⟩
    · intro l1 l2 l3 l4 l5 x0_22 f2 f6 f8 f9 hF H locs ls hP hD hS hl
      have hF : B_Model_note_0 (F_Model_note x0_15 x0_27 x0_28 f1 f3 f4 f5 f7 f10 n) x0_15 x0_27 x0_28 f1 f3 f4 f5 f7 f10 l1 l2 l3 l4 l5 x0_22 f2 f6 f8 f9 = some (ox0_22, of2, of6, of8, of9) := hF
      unfold B_Model_note_0 at hF
      refine lv_iload hx hb d_Model_note_11 (lv_at hl 4 rfl) ?_
      refine lv_aload_n hx hb d_Model_note_13 rfl (lv_at hl 0 rfl) ?_
      refine va_get (D := (dC, dI)) (ci := 9) (v := .int x0_15) (C := R_Model) (T := F_Model) (N := 29) hx hb hg iw_Model hown hK hP 0 rfl rfl 15 (by decide) (hg _ gw_329) (fun _ h9 => h9) rfl d_Model_note_14 ?_
      refine lv_icmp_ge (tgt := 42) hx hb d_Model_note_17 (by decide) (fun c_1 => ?_) (fun c_1 => ?_)
      · rw [if_pos c_1] at hF
        refine lv_aload_n hx hb d_Model_note_42 rfl (lv_at hl 0 rfl) ?_
        refine lv_iload_n hx hb d_Model_note_43 rfl (lv_at hl 3 rfl) ?_
        refine lv_iconst (v := 1) hx hb d_Model_note_44 (by decide) ?_
        obtain ⟨u_2, hS_2, hF⟩ := rd_bind hF
        have hPc := hP.sub (ws' := (wd_Model_wrongAt kA a0 a1 a2 a3 a4 a5 a8 v0_0 v0_1 v0_2 v0_3 v0_6 v0_7 v0_8 v0_9 v0_10 v0_11 v0_12 (.int x0_15) v0_16 (.ref a10) v0_20 v0_21 (.int x0_22) v0_23 (.ref a9) (.ref a6) (.ref a7) (.int x0_27) (.int x0_28) f1 f2 f3 f4 f5 f8)) [0, 1, 2, 3, 4, 5, 8] rfl
        have hDc := hD.sub (ws' := (wd_Model_wrongAt kA a0 a1 a2 a3 a4 a5 a8 v0_0 v0_1 v0_2 v0_3 v0_6 v0_7 v0_8 v0_9 v0_10 v0_11 v0_12 (.int x0_15) v0_16 (.ref a10) v0_20 v0_21 (.int x0_22) v0_23 (.ref a9) (.ref a6) (.ref a7) (.int x0_27) (.int x0_28) f1 f2 f3 f4 f5 f8)) [0, 1, 2, 3, 4, 5, 8] (by decide) rfl
        have hFc := va_free (wc := (wd_Model_wrongAt kA a0 a1 a2 a3 a4 a5 a8 v0_0 v0_1 v0_2 v0_3 v0_6 v0_7 v0_8 v0_9 v0_10 v0_11 v0_12 (.int x0_15) v0_16 (.ref a10) v0_20 v0_21 (.int x0_22) v0_23 (.ref a9) (.ref a6) (.ref a7) (.int x0_27) (.int x0_28) f1 f2 f3 f4 f5 f8)) hD hS hA [0, 1, 2, 3, 4, 5, 8] rfl
        refine va_calli (va_runV (As := [.int l3, .int 1]) (rest := []) ⟨hx, hb, hml, hown, hts⟩ (c_Model_wrongAt l dC dI kA H.size a0 a1 a2 a3 a4 a5 a8 v0_0 v0_1 v0_2 v0_3 v0_6 v0_7 v0_8 v0_9 v0_10 v0_11 v0_12 (.int x0_15) v0_16 (.ref a10) v0_20 v0_21 (.int x0_22) v0_23 (.ref a9) (.ref a6) (.ref a7) (.int x0_27) (.int x0_28) l3 1 f1 f2 f3 f4 f5 f8 u_2.1 u_2.2 hS_2) (cwV 2 hts (gw_V gw_333 gw_334 gw_335 gw_267 gw_336) rfl rfl rfl (by decide +kernel) ⟨Nat.le_of_ble_eq_true rfl, Nat.le_of_ble_eq_true rfl⟩) ⟨fun a U g mk q => by obtain ⟨q0, q1, qP, qK, qD⟩ := q; exact ⟨q0, q1, qP, va_K.moved (u := U) (U := U.calling g mk a) (Vm.Alike.refl U.vm) qK, qD⟩, va_recv hK hP (ci := 9) (q0 := 0) rfl rfl, fun U hU hW => ⟨rfl, by rw [hU], by rw [hU]; exact hPc, va_K.moved hW.alike hK, hDc.weaken (fun _ _ _ _ => trivial)⟩⟩ rfl rfl hl.1 rfl (lv_room (Nat.le_of_ble_eq_true rfl)) d_Model_note_45 ⟨Nat.zero_le _, Nat.zero_le _⟩) hS (fun q _ h => hFc q h) hFc (fun r1 u t H1 locs ht hvm hw hB hz1 hk1 hS => ?_)
        rw [show r1 = _ from hw]
        obtain ⟨hP1, hK1, hD1⟩ := hB
        rw [ht] at hP1
        obtain ⟨hP, hD⟩ := va_join (wr := [(a6, .inl (kA 0, 40, .inl f6)), (a7, .inl (kA 0, 8, .inl f7)), (a9, .inl (kA 0, 280, .inl f9)), (a10, .inl (kA 0, 16, .inl f10))]) (w1 := (wd_Model_wrongAt kA a0 a1 a2 a3 a4 a5 a8 v0_0 v0_1 v0_2 v0_3 v0_6 v0_7 v0_8 v0_9 v0_10 v0_11 v0_12 (.int x0_15) v0_16 (.ref a10) v0_20 v0_21 (.int x0_22) v0_23 (.ref a9) (.ref a6) (.ref a7) (.int x0_27) (.int x0_28) f1 f2 f3 f4 f5 u_2.2)) hP hD [0, 1, 2, 3, 4, 5, 8] [6, 7, 9, 10] rfl rfl (by decide) (by decide) hk1 hFc hP1 hD1
        have hP := hP.sub (ws' := (wd_Model_note kA a0 a1 a2 a3 a4 a5 a6 a7 a8 a9 a10 v0_0 v0_1 v0_2 v0_3 v0_6 v0_7 v0_8 v0_9 v0_10 v0_11 v0_12 v0_16 v0_20 v0_21 v0_23 x0_15 x0_22 x0_27 x0_28 f1 f2 f3 f4 f5 f6 f7 u_2.2 f9 f10)) [4, 5, 6, 7, 8, 9, 0, 1, 10, 2, 3] rfl
        have hD := hD.sub (ws' := (wd_Model_note kA a0 a1 a2 a3 a4 a5 a6 a7 a8 a9 a10 v0_0 v0_1 v0_2 v0_3 v0_6 v0_7 v0_8 v0_9 v0_10 v0_11 v0_12 v0_16 v0_20 v0_21 v0_23 x0_15 x0_22 x0_27 x0_28 f1 f2 f3 f4 f5 f6 f7 u_2.2 f9 f10)) [4, 5, 6, 7, 8, 9, 0, 1, 10, 2, 3] (by decide) rfl
        clear hPc hDc hFc hP1 hK1 hD1
        generalize H1 = H at hP hS ⊢
        refine lv_istore (lv' := [(4, .int u_2.1), (0, .ref a0), (1, .int l1), (2, .int l2), (3, .int l3)]) hx hb d_Model_note_48 hl (by decide) rfl (fun ls hl => ?_)
        refine lv_iload hx hb d_Model_note_50 (lv_at hl 0 rfl) ?_
        refine lv_if_lt (tgt := 67) hx hb d_Model_note_52 (by decide) (fun c_3 => ?_) (fun c_3 => ?_)
        · rw [if_pos c_3] at hF
          refine lv_aload_n hx hb d_Model_note_67 rfl (lv_at hl 1 rfl) ?_
          refine va_get (D := (dC, dI)) (ci := 9) (v := .int x0_22) (C := R_Model) (T := F_Model) (N := 29) hx hb hg iw_Model hown hK hP 0 rfl rfl 22 (by decide) (hg _ gw_262) (fun _ h9 => h9) rfl d_Model_note_68 ?_
          refine lv_bipush (v := 40) hx hb d_Model_note_71 (by decide) ?_
          refine lv_icmp_ge (tgt := 154) hx hb d_Model_note_73 (by decide) (fun c_4 => ?_) (fun c_4 => ?_)
          · rw [if_pos c_4] at hF
            refine lv_aload_n hx hb d_Model_note_154 rfl (lv_at hl 1 rfl) ?_
            refine lv_dup hx hb d_Model_note_155 rfl ?_
            refine va_get (D := (dC, dI)) (ci := 9) (v := .int x0_22) (C := R_Model) (T := F_Model) (N := 29) hx hb hg iw_Model hown hK hP 0 rfl rfl 22 (by decide) (hg _ gw_262) (fun _ h9 => h9) rfl d_Model_note_156 ?_
            refine lv_iconst (v := 1) hx hb d_Model_note_159 (by decide) ?_
            refine lv_iadd hx hb d_Model_note_160 ?_
            refine va_put (D := (dC, dI)) (ci := 9) (v := .int (x0_22 + 1)) (ty := .int) (C := R_Model) (T := F_Model) (N := 29) hx hb hg iw_Model t_Model t_Model_ok n_Model hown hK hP hD hS 0 rfl rfl 22 (by decide) (hg _ gw_262) (fun _ h9 => h9) rfl (by decide +kernel) rfl rfl (Nat.le_of_ble_eq_true rfl) d_Model_note_161 (fun H locs hP hD hS => ?_)
            have hP : va_P (dC, dI) classes (wd_Model_note kA a0 a1 a2 a3 a4 a5 a6 a7 a8 a9 a10 v0_0 v0_1 v0_2 v0_3 v0_6 v0_7 v0_8 v0_9 v0_10 v0_11 v0_12 v0_16 v0_20 v0_21 v0_23 x0_15 (x0_22 + 1) x0_27 x0_28 f1 f2 f3 f4 f5 f6 f7 u_2.2 f9 f10) H := hP
            have hD : va_D A (wd_Model_note kA a0 a1 a2 a3 a4 a5 a6 a7 a8 a9 a10 v0_0 v0_1 v0_2 v0_3 v0_6 v0_7 v0_8 v0_9 v0_10 v0_11 v0_12 v0_16 v0_20 v0_21 v0_23 x0_15 (x0_22 + 1) x0_27 x0_28 f1 f2 f3 f4 f5 f6 f7 u_2.2 f9 f10) := hD
            have e0 := Option.some.inj hF
            have q0 := Prod.mk.inj e0
            have q1 := Prod.mk.inj q0.2
            have q2 := Prod.mk.inj q1.2
            have q3 := Prod.mk.inj q2.2
            exact W.vret hx hb hr (fun t ht hW => ⟨⟨(), rfl, trivial, by rw [ht, ← q0.1, ← q1.1, ← q2.1, ← q3.1, ← q3.2]; exact hP, va_K.moved hW.alike hK, (by rw [← q0.1, ← q1.1, ← q2.1, ← q3.1, ← q3.2]; exact hD)⟩, hS.F ht⟩) hS.2.2 d_Model_note_164 hlocks
          · rw [if_neg c_4] at hF
            refine lv_iconst (v := 0) hx hb d_Model_note_76 (by decide) ?_
            refine lv_istore (lv' := [(5, .int 0), (4, .int u_2.1), (0, .ref a0), (1, .int l1), (2, .int l2), (3, .int l3)]) hx hb d_Model_note_77 hl (by decide) rfl (fun ls hl => ?_)
            exact ih.2 l1 l2 l3 u_2.1 0 x0_22 f2 f6 u_2.2 f9 hF _ _ _ hP hD hS (lv_sub hl [2, 3, 4, 5, 1, 0] rfl)
        · rw [if_neg c_3] at hF
          refine lv_iload hx hb d_Model_note_55 (lv_at hl 0 rfl) ?_
          refine lv_aload_n hx hb d_Model_note_57 rfl (lv_at hl 1 rfl) ?_
          refine va_get (D := (dC, dI)) (ci := 9) (v := .int x0_27) (C := R_Model) (T := F_Model) (N := 29) hx hb hg iw_Model hown hK hP 0 rfl rfl 27 (by decide) (hg _ gw_344) (fun _ h9 => h9) rfl d_Model_note_58 ?_
          refine lv_iload_n hx hb d_Model_note_61 rfl (lv_at hl 3 rfl) ?_
          refine lv_iadd hx hb d_Model_note_62 ?_
          refine lv_icmp_ge (tgt := 67) hx hb d_Model_note_63 (by decide) (fun c_5 => ?_) (fun c_5 => ?_)
          · rw [if_pos c_5] at hF
            refine lv_aload_n hx hb d_Model_note_67 rfl (lv_at hl 1 rfl) ?_
            refine va_get (D := (dC, dI)) (ci := 9) (v := .int x0_22) (C := R_Model) (T := F_Model) (N := 29) hx hb hg iw_Model hown hK hP 0 rfl rfl 22 (by decide) (hg _ gw_262) (fun _ h9 => h9) rfl d_Model_note_68 ?_
            refine lv_bipush (v := 40) hx hb d_Model_note_71 (by decide) ?_
            refine lv_icmp_ge (tgt := 154) hx hb d_Model_note_73 (by decide) (fun c_6 => ?_) (fun c_6 => ?_)
            · rw [if_pos c_6] at hF
              refine lv_aload_n hx hb d_Model_note_154 rfl (lv_at hl 1 rfl) ?_
              refine lv_dup hx hb d_Model_note_155 rfl ?_
              refine va_get (D := (dC, dI)) (ci := 9) (v := .int x0_22) (C := R_Model) (T := F_Model) (N := 29) hx hb hg iw_Model hown hK hP 0 rfl rfl 22 (by decide) (hg _ gw_262) (fun _ h9 => h9) rfl d_Model_note_156 ?_
              refine lv_iconst (v := 1) hx hb d_Model_note_159 (by decide) ?_
              refine lv_iadd hx hb d_Model_note_160 ?_
              refine va_put (D := (dC, dI)) (ci := 9) (v := .int (x0_22 + 1)) (ty := .int) (C := R_Model) (T := F_Model) (N := 29) hx hb hg iw_Model t_Model t_Model_ok n_Model hown hK hP hD hS 0 rfl rfl 22 (by decide) (hg _ gw_262) (fun _ h9 => h9) rfl (by decide +kernel) rfl rfl (Nat.le_of_ble_eq_true rfl) d_Model_note_161 (fun H locs hP hD hS => ?_)
              have hP : va_P (dC, dI) classes (wd_Model_note kA a0 a1 a2 a3 a4 a5 a6 a7 a8 a9 a10 v0_0 v0_1 v0_2 v0_3 v0_6 v0_7 v0_8 v0_9 v0_10 v0_11 v0_12 v0_16 v0_20 v0_21 v0_23 x0_15 (x0_22 + 1) x0_27 x0_28 f1 f2 f3 f4 f5 f6 f7 u_2.2 f9 f10) H := hP
              have hD : va_D A (wd_Model_note kA a0 a1 a2 a3 a4 a5 a6 a7 a8 a9 a10 v0_0 v0_1 v0_2 v0_3 v0_6 v0_7 v0_8 v0_9 v0_10 v0_11 v0_12 v0_16 v0_20 v0_21 v0_23 x0_15 (x0_22 + 1) x0_27 x0_28 f1 f2 f3 f4 f5 f6 f7 u_2.2 f9 f10) := hD
              have e0 := Option.some.inj hF
              have q0 := Prod.mk.inj e0
              have q1 := Prod.mk.inj q0.2
              have q2 := Prod.mk.inj q1.2
              have q3 := Prod.mk.inj q2.2
              exact W.vret hx hb hr (fun t ht hW => ⟨⟨(), rfl, trivial, by rw [ht, ← q0.1, ← q1.1, ← q2.1, ← q3.1, ← q3.2]; exact hP, va_K.moved hW.alike hK, (by rw [← q0.1, ← q1.1, ← q2.1, ← q3.1, ← q3.2]; exact hD)⟩, hS.F ht⟩) hS.2.2 d_Model_note_164 hlocks
            · rw [if_neg c_6] at hF
              refine lv_iconst (v := 0) hx hb d_Model_note_76 (by decide) ?_
              refine lv_istore (lv' := [(5, .int 0), (4, .int u_2.1), (0, .ref a0), (1, .int l1), (2, .int l2), (3, .int l3)]) hx hb d_Model_note_77 hl (by decide) rfl (fun ls hl => ?_)
              exact ih.2 l1 l2 l3 u_2.1 0 x0_22 f2 f6 u_2.2 f9 hF _ _ _ hP hD hS (lv_sub hl [2, 3, 4, 5, 1, 0] rfl)
          · rw [if_neg c_5] at hF
            have e0 := Option.some.inj hF
            have q0 := Prod.mk.inj e0
            have q1 := Prod.mk.inj q0.2
            have q2 := Prod.mk.inj q1.2
            have q3 := Prod.mk.inj q2.2
            exact W.vret hx hb hr (fun t ht hW => ⟨⟨(), rfl, trivial, by rw [ht, ← q0.1, ← q1.1, ← q2.1, ← q3.1, ← q3.2]; exact hP, va_K.moved hW.alike hK, (by rw [← q0.1, ← q1.1, ← q2.1, ← q3.1, ← q3.2]; exact hD)⟩, hS.F ht⟩) hS.2.2 d_Model_note_66 hlocks
      · rw [if_neg c_1] at hF
        refine lv_aload_n hx hb d_Model_note_20 rfl (lv_at hl 0 rfl) ?_
        refine va_get (D := (dC, dI)) (ci := 9) (v := .ref a2) (C := R_Model) (T := F_Model) (N := 29) hx hb hg iw_Model hown hK hP 0 rfl rfl 18 (by decide) (hg _ gw_275) (fun _ h9 => h9) rfl d_Model_note_21 ?_
        refine lv_iload_n hx hb d_Model_note_24 rfl (lv_at hl 3 rfl) ?_
        refine lv_aload_n hx hb d_Model_note_25 rfl (lv_at hl 0 rfl) ?_
        refine va_get (D := (dC, dI)) (ci := 9) (v := .ref a10) (C := R_Model) (T := F_Model) (N := 29) hx hb hg iw_Model hown hK hP 0 rfl rfl 17 (by decide) (hg _ gw_330) (fun _ h9 => h9) rfl d_Model_note_26 ?_
        refine lv_iload hx hb d_Model_note_29 (lv_at hl 4 rfl) ?_
        obtain ⟨h_7, hF⟩ := rd_chk hF
        refine va_iald hx hb hK hP 10 0 rfl rfl h_7 d_Model_note_31 ?_
        obtain ⟨h_8, hF⟩ := rd_chk hF
        refine va_iast hx hb hK hP hD hS 2 0 rfl rfl h_8 d_Model_note_32 (fun H locs hP hD hS => ?_)
        have hP : va_P (dC, dI) classes (wd_Model_note kA a0 a1 a2 a3 a4 a5 a6 a7 a8 a9 a10 v0_0 v0_1 v0_2 v0_3 v0_6 v0_7 v0_8 v0_9 v0_10 v0_11 v0_12 v0_16 v0_20 v0_21 v0_23 x0_15 x0_22 x0_27 x0_28 f1 (upd f2 (Int32.toNatClampNeg l3) (f10 (Int32.toNatClampNeg l4))) f3 f4 f5 f6 f7 f8 f9 f10) H := hP
        have hD : va_D A (wd_Model_note kA a0 a1 a2 a3 a4 a5 a6 a7 a8 a9 a10 v0_0 v0_1 v0_2 v0_3 v0_6 v0_7 v0_8 v0_9 v0_10 v0_11 v0_12 v0_16 v0_20 v0_21 v0_23 x0_15 x0_22 x0_27 x0_28 f1 (upd f2 (Int32.toNatClampNeg l3) (f10 (Int32.toNatClampNeg l4))) f3 f4 f5 f6 f7 f8 f9 f10) := hD
        refine lv_iinc (v := (l3 + 1)) (lv' := [(3, .int (l3 + 1)), (0, .ref a0), (1, .int l1), (2, .int l2), (4, .int l4)]) hx hb d_Model_note_33 hl (k := 3) rfl (by rfl) (by decide) rfl (fun ls hl => ?_)
        refine lv_iinc (v := (l4 + 1)) (lv' := [(4, .int (l4 + 1)), (3, .int (l3 + 1)), (0, .ref a0), (1, .int l1), (2, .int l2)]) hx hb d_Model_note_36 hl (k := 4) rfl (by rfl) (by decide) rfl (fun ls hl => ?_)
        refine lv_goto (tgt := 11) hx hb d_Model_note_39 (by decide) ?_
        exact ih.1 l1 l2 (l3 + 1) (l4 + 1) 0 x0_22 (upd f2 (Int32.toNatClampNeg l3) (f10 (Int32.toNatClampNeg l4))) f6 f8 f9 hF _ _ _ hP hD hS (lv_sub hl [2, 3, 4, 1, 0] rfl)
    · intro l1 l2 l3 l4 l5 x0_22 f2 f6 f8 f9 hF H locs ls hP hD hS hl
      have hF : B_Model_note_1 (F_Model_note x0_15 x0_27 x0_28 f1 f3 f4 f5 f7 f10 n) x0_15 x0_27 x0_28 f1 f3 f4 f5 f7 f10 l1 l2 l3 l4 l5 x0_22 f2 f6 f8 f9 = some (ox0_22, of2, of6, of8, of9) := hF
      unfold B_Model_note_1 at hF
      refine lv_iload hx hb d_Model_note_79 (lv_at hl 5 rfl) ?_
      refine lv_bipush (v := 7) hx hb d_Model_note_81 (by decide) ?_
      refine lv_icmp_ge (tgt := 124) hx hb d_Model_note_83 (by decide) (fun c_9 => ?_) (fun c_9 => ?_)
      · rw [if_pos c_9] at hF
        refine lv_aload_n hx hb d_Model_note_124 rfl (lv_at hl 0 rfl) ?_
        refine va_get (D := (dC, dI)) (ci := 9) (v := .ref a6) (C := R_Model) (T := F_Model) (N := 29) hx hb hg iw_Model hown hK hP 0 rfl rfl 25 (by decide) (hg _ gw_345) (fun _ h9 => h9) rfl d_Model_note_125 ?_
        refine lv_aload_n hx hb d_Model_note_128 rfl (lv_at hl 0 rfl) ?_
        refine va_get (D := (dC, dI)) (ci := 9) (v := .int x0_22) (C := R_Model) (T := F_Model) (N := 29) hx hb hg iw_Model hown hK hP 0 rfl rfl 22 (by decide) (hg _ gw_262) (fun _ h9 => h9) rfl d_Model_note_129 ?_
        refine lv_iload hx hb d_Model_note_132 (lv_at hl 4 rfl) ?_
        refine lv_if_ge (tgt := 146) hx hb d_Model_note_134 (by decide) (fun c_10 => ?_) (fun c_10 => ?_)
        · rw [if_pos c_10] at hF
          refine lv_iload hx hb d_Model_note_146 (lv_at hl 4 rfl) ?_
          refine lv_aload_n hx hb d_Model_note_148 rfl (lv_at hl 0 rfl) ?_
          refine va_get (D := (dC, dI)) (ci := 9) (v := .int x0_27) (C := R_Model) (T := F_Model) (N := 29) hx hb hg iw_Model hown hK hP 0 rfl rfl 27 (by decide) (hg _ gw_344) (fun _ h9 => h9) rfl d_Model_note_149 ?_
          refine lv_isub hx hb d_Model_note_152 ?_
          obtain ⟨h_11, hF⟩ := rd_chk hF
          refine va_iast hx hb hK hP hD hS 6 0 rfl rfl h_11 d_Model_note_153 (fun H locs hP hD hS => ?_)
          have hP : va_P (dC, dI) classes (wd_Model_note kA a0 a1 a2 a3 a4 a5 a6 a7 a8 a9 a10 v0_0 v0_1 v0_2 v0_3 v0_6 v0_7 v0_8 v0_9 v0_10 v0_11 v0_12 v0_16 v0_20 v0_21 v0_23 x0_15 x0_22 x0_27 x0_28 f1 f2 f3 f4 f5 (upd f6 (Int32.toNatClampNeg x0_22) (l4 - x0_27)) f7 f8 f9 f10) H := hP
          have hD : va_D A (wd_Model_note kA a0 a1 a2 a3 a4 a5 a6 a7 a8 a9 a10 v0_0 v0_1 v0_2 v0_3 v0_6 v0_7 v0_8 v0_9 v0_10 v0_11 v0_12 v0_16 v0_20 v0_21 v0_23 x0_15 x0_22 x0_27 x0_28 f1 f2 f3 f4 f5 (upd f6 (Int32.toNatClampNeg x0_22) (l4 - x0_27)) f7 f8 f9 f10) := hD
          refine lv_aload_n hx hb d_Model_note_154 rfl (lv_at hl 0 rfl) ?_
          refine lv_dup hx hb d_Model_note_155 rfl ?_
          refine va_get (D := (dC, dI)) (ci := 9) (v := .int x0_22) (C := R_Model) (T := F_Model) (N := 29) hx hb hg iw_Model hown hK hP 0 rfl rfl 22 (by decide) (hg _ gw_262) (fun _ h9 => h9) rfl d_Model_note_156 ?_
          refine lv_iconst (v := 1) hx hb d_Model_note_159 (by decide) ?_
          refine lv_iadd hx hb d_Model_note_160 ?_
          refine va_put (D := (dC, dI)) (ci := 9) (v := .int (x0_22 + 1)) (ty := .int) (C := R_Model) (T := F_Model) (N := 29) hx hb hg iw_Model t_Model t_Model_ok n_Model hown hK hP hD hS 0 rfl rfl 22 (by decide) (hg _ gw_262) (fun _ h9 => h9) rfl (by decide +kernel) rfl rfl (Nat.le_of_ble_eq_true rfl) d_Model_note_161 (fun H locs hP hD hS => ?_)
          have hP : va_P (dC, dI) classes (wd_Model_note kA a0 a1 a2 a3 a4 a5 a6 a7 a8 a9 a10 v0_0 v0_1 v0_2 v0_3 v0_6 v0_7 v0_8 v0_9 v0_10 v0_11 v0_12 v0_16 v0_20 v0_21 v0_23 x0_15 (x0_22 + 1) x0_27 x0_28 f1 f2 f3 f4 f5 (upd f6 (Int32.toNatClampNeg x0_22) (l4 - x0_27)) f7 f8 f9 f10) H := hP
          have hD : va_D A (wd_Model_note kA a0 a1 a2 a3 a4 a5 a6 a7 a8 a9 a10 v0_0 v0_1 v0_2 v0_3 v0_6 v0_7 v0_8 v0_9 v0_10 v0_11 v0_12 v0_16 v0_20 v0_21 v0_23 x0_15 (x0_22 + 1) x0_27 x0_28 f1 f2 f3 f4 f5 (upd f6 (Int32.toNatClampNeg x0_22) (l4 - x0_27)) f7 f8 f9 f10) := hD
          have e0 := Option.some.inj hF
          have q0 := Prod.mk.inj e0
          have q1 := Prod.mk.inj q0.2
          have q2 := Prod.mk.inj q1.2
          have q3 := Prod.mk.inj q2.2
          exact W.vret hx hb hr (fun t ht hW => ⟨⟨(), rfl, trivial, by rw [ht, ← q0.1, ← q1.1, ← q2.1, ← q3.1, ← q3.2]; exact hP, va_K.moved hW.alike hK, (by rw [← q0.1, ← q1.1, ← q2.1, ← q3.1, ← q3.2]; exact hD)⟩, hS.F ht⟩) hS.2.2 d_Model_note_164 hlocks
        · rw [if_neg c_10] at hF
          refine lv_iload_n hx hb d_Model_note_137 rfl (lv_at hl 3 rfl) ?_
          refine lv_aload_n hx hb d_Model_note_138 rfl (lv_at hl 0 rfl) ?_
          refine va_get (D := (dC, dI)) (ci := 9) (v := .int x0_27) (C := R_Model) (T := F_Model) (N := 29) hx hb hg iw_Model hown hK hP 0 rfl rfl 27 (by decide) (hg _ gw_344) (fun _ h9 => h9) rfl d_Model_note_139 ?_
          refine lv_isub hx hb d_Model_note_142 ?_
          refine lv_goto (tgt := 153) hx hb d_Model_note_143 (by decide) ?_
          obtain ⟨h_12, hF⟩ := rd_chk hF
          refine va_iast hx hb hK hP hD hS 6 0 rfl rfl h_12 d_Model_note_153 (fun H locs hP hD hS => ?_)
          have hP : va_P (dC, dI) classes (wd_Model_note kA a0 a1 a2 a3 a4 a5 a6 a7 a8 a9 a10 v0_0 v0_1 v0_2 v0_3 v0_6 v0_7 v0_8 v0_9 v0_10 v0_11 v0_12 v0_16 v0_20 v0_21 v0_23 x0_15 x0_22 x0_27 x0_28 f1 f2 f3 f4 f5 (upd f6 (Int32.toNatClampNeg x0_22) (l3 - x0_27)) f7 f8 f9 f10) H := hP
          have hD : va_D A (wd_Model_note kA a0 a1 a2 a3 a4 a5 a6 a7 a8 a9 a10 v0_0 v0_1 v0_2 v0_3 v0_6 v0_7 v0_8 v0_9 v0_10 v0_11 v0_12 v0_16 v0_20 v0_21 v0_23 x0_15 x0_22 x0_27 x0_28 f1 f2 f3 f4 f5 (upd f6 (Int32.toNatClampNeg x0_22) (l3 - x0_27)) f7 f8 f9 f10) := hD
          refine lv_aload_n hx hb d_Model_note_154 rfl (lv_at hl 0 rfl) ?_
          refine lv_dup hx hb d_Model_note_155 rfl ?_
          refine va_get (D := (dC, dI)) (ci := 9) (v := .int x0_22) (C := R_Model) (T := F_Model) (N := 29) hx hb hg iw_Model hown hK hP 0 rfl rfl 22 (by decide) (hg _ gw_262) (fun _ h9 => h9) rfl d_Model_note_156 ?_
          refine lv_iconst (v := 1) hx hb d_Model_note_159 (by decide) ?_
          refine lv_iadd hx hb d_Model_note_160 ?_
          refine va_put (D := (dC, dI)) (ci := 9) (v := .int (x0_22 + 1)) (ty := .int) (C := R_Model) (T := F_Model) (N := 29) hx hb hg iw_Model t_Model t_Model_ok n_Model hown hK hP hD hS 0 rfl rfl 22 (by decide) (hg _ gw_262) (fun _ h9 => h9) rfl (by decide +kernel) rfl rfl (Nat.le_of_ble_eq_true rfl) d_Model_note_161 (fun H locs hP hD hS => ?_)
          have hP : va_P (dC, dI) classes (wd_Model_note kA a0 a1 a2 a3 a4 a5 a6 a7 a8 a9 a10 v0_0 v0_1 v0_2 v0_3 v0_6 v0_7 v0_8 v0_9 v0_10 v0_11 v0_12 v0_16 v0_20 v0_21 v0_23 x0_15 (x0_22 + 1) x0_27 x0_28 f1 f2 f3 f4 f5 (upd f6 (Int32.toNatClampNeg x0_22) (l3 - x0_27)) f7 f8 f9 f10) H := hP
          have hD : va_D A (wd_Model_note kA a0 a1 a2 a3 a4 a5 a6 a7 a8 a9 a10 v0_0 v0_1 v0_2 v0_3 v0_6 v0_7 v0_8 v0_9 v0_10 v0_11 v0_12 v0_16 v0_20 v0_21 v0_23 x0_15 (x0_22 + 1) x0_27 x0_28 f1 f2 f3 f4 f5 (upd f6 (Int32.toNatClampNeg x0_22) (l3 - x0_27)) f7 f8 f9 f10) := hD
          have e0 := Option.some.inj hF
          have q0 := Prod.mk.inj e0
          have q1 := Prod.mk.inj q0.2
          have q2 := Prod.mk.inj q1.2
          have q3 := Prod.mk.inj q2.2
          exact W.vret hx hb hr (fun t ht hW => ⟨⟨(), rfl, trivial, by rw [ht, ← q0.1, ← q1.1, ← q2.1, ← q3.1, ← q3.2]; exact hP, va_K.moved hW.alike hK, (by rw [← q0.1, ← q1.1, ← q2.1, ← q3.1, ← q3.2]; exact hD)⟩, hS.F ht⟩) hS.2.2 d_Model_note_164 hlocks
      · rw [if_neg c_9] at hF
        refine lv_aload_n hx hb d_Model_note_86 rfl (lv_at hl 0 rfl) ?_
        refine va_get (D := (dC, dI)) (ci := 9) (v := .ref a9) (C := R_Model) (T := F_Model) (N := 29) hx hb hg iw_Model hown hK hP 0 rfl rfl 24 (by decide) (hg _ gw_346) (fun _ h9 => h9) rfl d_Model_note_87 ?_
        refine lv_bipush (v := 7) hx hb d_Model_note_90 (by decide) ?_
        refine lv_aload_n hx hb d_Model_note_92 rfl (lv_at hl 0 rfl) ?_
        refine va_get (D := (dC, dI)) (ci := 9) (v := .int x0_22) (C := R_Model) (T := F_Model) (N := 29) hx hb hg iw_Model hown hK hP 0 rfl rfl 22 (by decide) (hg _ gw_262) (fun _ h9 => h9) rfl d_Model_note_93 ?_
        refine lv_imul hx hb d_Model_note_96 ?_
        refine lv_iload hx hb d_Model_note_97 (lv_at hl 5 rfl) ?_
        refine lv_iadd hx hb d_Model_note_99 ?_
        refine lv_iload hx hb d_Model_note_100 (lv_at hl 5 rfl) ?_
        refine lv_iload_n hx hb d_Model_note_102 rfl (lv_at hl 1 rfl) ?_
        refine lv_icmp_ge (tgt := 116) hx hb d_Model_note_103 (by decide) (fun c_13 => ?_) (fun c_13 => ?_)
        · rw [if_pos c_13] at hF
          refine lv_iconst (v := (-1)) hx hb d_Model_note_116 (by decide) ?_
          obtain ⟨h_14, hF⟩ := rd_chk hF
          refine va_iast hx hb hK hP hD hS 9 0 rfl rfl h_14 d_Model_note_117 (fun H locs hP hD hS => ?_)
          have hP : va_P (dC, dI) classes (wd_Model_note kA a0 a1 a2 a3 a4 a5 a6 a7 a8 a9 a10 v0_0 v0_1 v0_2 v0_3 v0_6 v0_7 v0_8 v0_9 v0_10 v0_11 v0_12 v0_16 v0_20 v0_21 v0_23 x0_15 x0_22 x0_27 x0_28 f1 f2 f3 f4 f5 f6 f7 f8 (upd f9 (Int32.toNatClampNeg ((7 * x0_22) + l5)) (-1)) f10) H := hP
          have hD : va_D A (wd_Model_note kA a0 a1 a2 a3 a4 a5 a6 a7 a8 a9 a10 v0_0 v0_1 v0_2 v0_3 v0_6 v0_7 v0_8 v0_9 v0_10 v0_11 v0_12 v0_16 v0_20 v0_21 v0_23 x0_15 x0_22 x0_27 x0_28 f1 f2 f3 f4 f5 f6 f7 f8 (upd f9 (Int32.toNatClampNeg ((7 * x0_22) + l5)) (-1)) f10) := hD
          refine lv_iinc (v := (l5 + 1)) (lv' := [(5, .int (l5 + 1)), (0, .ref a0), (1, .int l1), (2, .int l2), (3, .int l3), (4, .int l4)]) hx hb d_Model_note_118 hl (k := 5) rfl (by rfl) (by decide) rfl (fun ls hl => ?_)
          refine lv_goto (tgt := 79) hx hb d_Model_note_121 (by decide) ?_
          exact ih.2 l1 l2 l3 l4 (l5 + 1) x0_22 f2 f6 f8 (upd f9 (Int32.toNatClampNeg ((7 * x0_22) + l5)) (-1)) hF _ _ _ hP hD hS (lv_sub hl [1, 2, 3, 4, 5, 0] rfl)
        · rw [if_neg c_13] at hF
          refine lv_aload_n hx hb d_Model_note_106 rfl (lv_at hl 0 rfl) ?_
          refine va_get (D := (dC, dI)) (ci := 9) (v := .ref a7) (C := R_Model) (T := F_Model) (N := 29) hx hb hg iw_Model hown hK hP 0 rfl rfl 26 (by decide) (hg _ gw_342) (fun _ h9 => h9) rfl d_Model_note_107 ?_
          refine lv_iload hx hb d_Model_note_110 (lv_at hl 5 rfl) ?_
          obtain ⟨h_15, hF⟩ := rd_chk hF
          refine va_iald hx hb hK hP 7 0 rfl rfl h_15 d_Model_note_112 ?_
          refine lv_goto (tgt := 117) hx hb d_Model_note_113 (by decide) ?_
          obtain ⟨h_16, hF⟩ := rd_chk hF
          refine va_iast hx hb hK hP hD hS 9 0 rfl rfl h_16 d_Model_note_117 (fun H locs hP hD hS => ?_)
          have hP : va_P (dC, dI) classes (wd_Model_note kA a0 a1 a2 a3 a4 a5 a6 a7 a8 a9 a10 v0_0 v0_1 v0_2 v0_3 v0_6 v0_7 v0_8 v0_9 v0_10 v0_11 v0_12 v0_16 v0_20 v0_21 v0_23 x0_15 x0_22 x0_27 x0_28 f1 f2 f3 f4 f5 f6 f7 f8 (upd f9 (Int32.toNatClampNeg ((7 * x0_22) + l5)) (f7 (Int32.toNatClampNeg l5))) f10) H := hP
          have hD : va_D A (wd_Model_note kA a0 a1 a2 a3 a4 a5 a6 a7 a8 a9 a10 v0_0 v0_1 v0_2 v0_3 v0_6 v0_7 v0_8 v0_9 v0_10 v0_11 v0_12 v0_16 v0_20 v0_21 v0_23 x0_15 x0_22 x0_27 x0_28 f1 f2 f3 f4 f5 f6 f7 f8 (upd f9 (Int32.toNatClampNeg ((7 * x0_22) + l5)) (f7 (Int32.toNatClampNeg l5))) f10) := hD
          refine lv_iinc (v := (l5 + 1)) (lv' := [(5, .int (l5 + 1)), (0, .ref a0), (1, .int l1), (2, .int l2), (3, .int l3), (4, .int l4)]) hx hb d_Model_note_118 hl (k := 5) rfl (by rfl) (by decide) rfl (fun ls hl => ?_)
          refine lv_goto (tgt := 79) hx hb d_Model_note_121 (by decide) ?_
          exact ih.2 l1 l2 l3 l4 (l5 + 1) x0_22 f2 f6 f8 (upd f9 (Int32.toNatClampNeg ((7 * x0_22) + l5)) (f7 (Int32.toNatClampNeg l5))) hF _ _ _ hP hD hS (lv_sub hl [1, 2, 3, 4, 5, 0] rfl)
def S_Model_note (p1 : Int32) (p2 : Int32) (x0_15 : Int32) (x0_22 : Int32) (x0_27 : Int32) (x0_28 : Int32) (f1 : (Nat → Int32)) (f2 : (Nat → Int32)) (f3 : (Nat → Int32)) (f4 : (Nat → Int32)) (f5 : (Nat → Int32)) (f6 : (Nat → Int32)) (f7 : (Nat → Int32)) (f8 : (Nat → Int32)) (f9 : (Nat → Int32)) (f10 : (Nat → Int32)) : Option (Int32 × (Nat → Int32) × (Nat → Int32) × (Nat → Int32) × (Nat → Int32)) := (F_Model_note x0_15 x0_27 x0_28 f1 f3 f4 f5 f7 f10 fuel_ 0 p1 p2 x0_27 x0_28 0 x0_22 f2 f6 f8 f9)
set_option maxHeartbeats 4000000 in
set_option maxRecDepth 100000 in
theorem c_Model_note (l : Launch) (dC : Nat → ClassId) (dI : Nat → Nat → Nat) (kA : Nat → ClassId) (sz : Nat) (a0 a1 a2 a3 a4 a5 a6 a7 a8 a9 a10 : Nat) (v0_0 v0_1 v0_2 v0_3 v0_6 v0_7 v0_8 v0_9 v0_10 v0_11 v0_12 v0_16 v0_20 v0_21 v0_23 : Value) (p1 : Int32) (p2 : Int32) (x0_15 : Int32) (x0_22 : Int32) (x0_27 : Int32) (x0_28 : Int32) (f1 : (Nat → Int32)) (f2 : (Nat → Int32)) (f3 : (Nat → Int32)) (f4 : (Nat → Int32)) (f5 : (Nat → Int32)) (f6 : (Nat → Int32)) (f7 : (Nat → Int32)) (f8 : (Nat → Int32)) (f9 : (Nat → Int32)) (f10 : (Nat → Int32)) (ox0_22 : Int32) (of2 : (Nat → Int32)) (of6 : (Nat → Int32)) (of8 : (Nat → Int32)) (of9 : (Nat → Int32)) (hF : S_Model_note p1 p2 x0_15 x0_22 x0_27 x0_28 f1 f2 f3 f4 f5 f6 f7 f8 f9 f10 = some (ox0_22, of2, of6, of8, of9)) : Met l y_Model_note w_Model_note rm_Model_note (va_Pc [.ref a0, .int p1, .int p2] (fun U => U.heap.size = sz ∧ va_P (dC, dI) classes (wd_Model_note kA a0 a1 a2 a3 a4 a5 a6 a7 a8 a9 a10 v0_0 v0_1 v0_2 v0_3 v0_6 v0_7 v0_8 v0_9 v0_10 v0_11 v0_12 v0_16 v0_20 v0_21 v0_23 x0_15 x0_22 x0_27 x0_28 f1 f2 f3 f4 f5 f6 f7 f8 f9 f10) U.heap ∧ va_K (dC, dI) classes (tys_ kA) U ∧ va_D (fun _ => True) (wd_Model_note kA a0 a1 a2 a3 a4 a5 a6 a7 a8 a9 a10 v0_0 v0_1 v0_2 v0_3 v0_6 v0_7 v0_8 v0_9 v0_10 v0_11 v0_12 v0_16 v0_20 v0_21 v0_23 x0_15 x0_22 x0_27 x0_28 f1 f2 f3 f4 f5 f6 f7 f8 f9 f10))) (va_Qv (fun (_ : Unit) => True) (fun _ t => va_P (dC, dI) classes (wd_Model_note kA a0 a1 a2 a3 a4 a5 a6 a7 a8 a9 a10 v0_0 v0_1 v0_2 v0_3 v0_6 v0_7 v0_8 v0_9 v0_10 v0_11 v0_12 v0_16 v0_20 v0_21 v0_23 x0_15 ox0_22 x0_27 x0_28 f1 of2 f3 f4 f5 of6 f7 of8 of9 f10) t.heap ∧ va_K (dC, dI) classes (tys_ kA) t ∧ va_D (va_A (wd_Model_note kA a0 a1 a2 a3 a4 a5 a6 a7 a8 a9 a10 v0_0 v0_1 v0_2 v0_3 v0_6 v0_7 v0_8 v0_9 v0_10 v0_11 v0_12 v0_16 v0_20 v0_21 v0_23 x0_15 x0_22 x0_27 x0_28 f1 f2 f3 f4 f5 f6 f7 f8 f9 f10) sz) (wd_Model_note kA a0 a1 a2 a3 a4 a5 a6 a7 a8 a9 a10 v0_0 v0_1 v0_2 v0_3 v0_6 v0_7 v0_8 v0_9 v0_10 v0_11 v0_12 v0_16 v0_20 v0_21 v0_23 x0_15 ox0_22 x0_27 x0_28 f1 of2 f3 f4 f5 of6 f7 of8 of9 f10)) (va_A (wd_Model_note kA a0 a1 a2 a3 a4 a5 a6 a7 a8 a9 a10 v0_0 v0_1 v0_2 v0_3 v0_6 v0_7 v0_8 v0_9 v0_10 v0_11 v0_12 v0_16 v0_20 v0_21 v0_23 x0_15 x0_22 x0_27 x0_28 f1 f2 f3 f4 f5 f6 f7 f8 f9 f10) sz)) 0 0 (va_A (wd_Model_note kA a0 a1 a2 a3 a4 a5 a6 a7 a8 a9 a10 v0_0 v0_1 v0_2 v0_3 v0_6 v0_7 v0_8 v0_9 v0_10 v0_11 v0_12 v0_16 v0_20 v0_21 v0_23 x0_15 x0_22 x0_27 x0_28 f1 f2 f3 f4 f5 f6 f7 f8 f9 f10) sz) := by
  refine Met.ofW (cc := b_Model_note) (maxL := 6) (ret := none) (by decide) rfl ?_
  intro p e s m args below meth c s₁ B hml hv
  obtain ⟨rfl, hsz, hP, hK, hD0⟩ := hv
  have hx := B.exec
  have hb := B.bytes
  have hr := B.returns
  have hts := atoms_spec (ws := w_Model_note) B.pre
  have hown : s.vm.findClass R_Model = some m.cls := findClass_of_methodNamed B.named
  have hg := fun (w : Cond) (h : w ∈ gw) => hts w (List.mem_cons_of_mem _ h)
  have hlocks := B.notSynchronized
  subst hsz
  have hD := hD0.self (sz := s.heap.size)
  generalize hAe : va_A (wd_Model_note kA a0 a1 a2 a3 a4 a5 a6 a7 a8 a9 a10 v0_0 v0_1 v0_2 v0_3 v0_6 v0_7 v0_8 v0_9 v0_10 v0_11 v0_12 v0_16 v0_20 v0_21 v0_23 x0_15 x0_22 x0_27 x0_28 f1 f2 f3 f4 f5 f6 f7 f8 f9 f10) s.heap.size = A at hD ⊢
  have hA : ∀ q : Nat, s.heap.size ≤ q → A q := fun q h => by rw [← hAe]; exact Or.inr h
  have hS : va_S A s.heap s.heap [] := va_S.rf
  have hl := lv_entry ([.ref a0, .int p1, .int p2]) (n := 6) (Nat.le_of_ble_eq_true rfl)
  rw [lg_entry_eq]
  generalize (lg_sl ([.ref a0, .int p1, .int p2]) ++ List.replicate (6 - (lg_sl ([.ref a0, .int p1, .int p2])).length) Slot.unset).toArray = ls at hl ⊢
  have hl : lv_has ls 6 [(0, .ref a0), (1, .int p1), (2, .int p2)] := hl
  unfold S_Model_note at hF
  have ih := L_Model_note (l := l) (e := e) (below := below) hx hb hr hlocks hml hown hts hA hK a0 a1 a2 a3 a4 a5 a6 a7 a8 a9 a10 v0_0 v0_1 v0_2 v0_3 v0_6 v0_7 v0_8 v0_9 v0_10 v0_11 v0_12 v0_16 v0_20 v0_21 v0_23 x0_15 x0_27 x0_28 f1 f3 f4 f5 f7 f10 ox0_22 of2 of6 of8 of9 fuel_
  refine lv_aload_n hx hb d_Model_note_0 rfl (lv_at hl 0 rfl) ?_
  refine va_get (D := (dC, dI)) (ci := 9) (v := .int x0_27) (C := R_Model) (T := F_Model) (N := 29) hx hb hg iw_Model hown hK hP 0 rfl rfl 27 (by decide) (hg _ gw_344) (fun _ h9 => h9) rfl d_Model_note_1 ?_
  refine lv_istore_n (lv' := [(3, .int x0_27), (0, .ref a0), (1, .int p1), (2, .int p2)]) hx hb d_Model_note_4 rfl hl (by decide) rfl (fun ls hl => ?_)
  refine lv_aload_n hx hb d_Model_note_5 rfl (lv_at hl 1 rfl) ?_
  refine va_get (D := (dC, dI)) (ci := 9) (v := .int x0_28) (C := R_Model) (T := F_Model) (N := 29) hx hb hg iw_Model hown hK hP 0 rfl rfl 28 (by decide) (hg _ gw_343) (fun _ h9 => h9) rfl d_Model_note_6 ?_
  refine lv_istore (lv' := [(4, .int x0_28), (3, .int x0_27), (0, .ref a0), (1, .int p1), (2, .int p2)]) hx hb d_Model_note_9 hl (by decide) rfl (fun ls hl => ?_)
  exact ih.1 p1 p2 x0_27 x0_28 0 x0_22 f2 f6 f8 f9 hF _ _ _ hP hD hS (lv_sub hl [2, 3, 4, 1, 0] rfl)
-- ===== RepairDeskModel.search(II)V
abbrev wd_Model_search (kA : Nat → ClassId) (a0 a1 a2 a3 a4 a5 a6 a7 a8 a9 a10 a11 a12 : Nat) (v0_0 v0_1 v0_2 v0_3 v0_6 v0_7 v0_8 v0_9 v0_10 v0_11 v0_12 v0_23 : Value) (x0_15 : Int32) (x0_16 : Int32) (x0_22 : Int32) (x0_27 : Int32) (x0_28 : Int32) (f1 : (Nat → Int32)) (f2 : (Nat → Int32)) (f3 : (Nat → Int32)) (f4 : (Nat → Int32)) (f5 : (Nat → Int32)) (f6 : (Nat → Int32)) (f7 : (Nat → Int32)) (f8 : (Nat → Int32)) (f9 : (Nat → Int32)) (f10 : (Nat → Int32)) (f11 : (Nat → Int32)) (f12 : (Nat → Int32)) : va_W := [(a0, .inr (9, [v0_0, v0_1, v0_2, v0_3, .ref a3, .ref a4, v0_6, v0_7, v0_8, v0_9, v0_10, v0_11, v0_12, .ref a1, .ref a5, .int x0_15, .int x0_16, .ref a12, .ref a2, .ref a9, .ref a6, .ref a11, .int x0_22, v0_23, .ref a10, .ref a7, .ref a8, .int x0_27, .int x0_28])), (a1, .inl (kA 0, 2310, .inl f1)), (a2, .inl (kA 0, 24, .inl f2)), (a3, .inl (kA 0, 11, .inl f3)), (a4, .inl (kA 0, 11, .inl f4)), (a5, .inl (kA 0, 492, .inl f5)), (a6, .inl (kA 0, 6, .inl f6)), (a7, .inl (kA 0, 40, .inl f7)), (a8, .inl (kA 0, 8, .inl f8)), (a9, .inl (kA 0, 400, .inl f9)), (a10, .inl (kA 0, 280, .inl f10)), (a11, .inl (kA 0, 6, .inl f11)), (a12, .inl (kA 0, 16, .inl f12))]
abbrev rm_Model_search : Room := { frames := 3, cells := 0, slots := 0, locals := 76 }
def B_Model_search_0 (K : Nat → Int32 → Int32 → Int32 → Int32 → Int32 → Int32 → Int32 → Int32 → (Nat → Int32) → (Nat → Int32) → (Nat → Int32) → (Nat → Int32) → (Nat → Int32) → Option (Int32 × Int32 × Int32 × (Nat → Int32) × (Nat → Int32) × (Nat → Int32) × (Nat → Int32) × (Nat → Int32))) (x0_15 : Int32) (x0_16 : Int32) (f1 : (Nat → Int32)) (f3 : (Nat → Int32)) (f4 : (Nat → Int32)) (f5 : (Nat → Int32)) (f6 : (Nat → Int32)) (f11 : (Nat → Int32)) (f12 : (Nat → Int32)) (l1 : Int32) (l2 : Int32) (l3 : Int32) (l4 : Int32) (s0 : Int32) (x0_22 : Int32) (x0_27 : Int32) (x0_28 : Int32) (f2 : (Nat → Int32)) (f7 : (Nat → Int32)) (f8 : (Nat → Int32)) (f9 : (Nat → Int32)) (f10 : (Nat → Int32)) : Option (Int32 × Int32 × Int32 × (Nat → Int32) × (Nat → Int32) × (Nat → Int32) × (Nat → Int32) × (Nat → Int32)) := (if l3 ≤ 0 then (some (x0_22, x0_27, x0_28, f2, f7, f8, f9, f10)) else (if ((l3 - 1) : Int32) < 0 ∨ 8 ≤ (Int32.toNatClampNeg (l3 - 1)) then none else (if ((l3 - 1) : Int32) < 0 ∨ 8 ≤ (Int32.toNatClampNeg (l3 - 1)) then none else (if ((l3 - 1) : Int32) < 0 ∨ 8 ≤ (Int32.toNatClampNeg (l3 - 1)) then none else (if ((upd f8 (Int32.toNatClampNeg (l3 - 1)) ((f8 (Int32.toNatClampNeg (l3 - 1))) + 1)) (Int32.toNatClampNeg (l3 - 1))) ≤ 7 then ((S_Model_follows l3 x0_15 x0_16 x0_27 x0_28 f2 f6 (upd f8 (Int32.toNatClampNeg (l3 - 1)) ((f8 (Int32.toNatClampNeg (l3 - 1))) + 1)) f11 f12).bind fun u_6 => (if u_6.1 < 0 then (K 2 l1 l2 l3 u_6.1 0 x0_22 u_6.2.1 u_6.2.2.1 u_6.2.2.2 f7 (upd f8 (Int32.toNatClampNeg (l3 - 1)) ((f8 (Int32.toNatClampNeg (l3 - 1))) + 1)) f9 f10) else (if l1 < u_6.1 then (K 2 l1 l2 l3 u_6.1 0 x0_22 u_6.2.1 u_6.2.2.1 u_6.2.2.2 f7 (upd f8 (Int32.toNatClampNeg (l3 - 1)) ((f8 (Int32.toNatClampNeg (l3 - 1))) + 1)) f9 f10) else (if ((l3 - 1) : Int32) < 0 ∨ 8 ≤ (Int32.toNatClampNeg (l3 - 1)) then none else (if ((upd f8 (Int32.toNatClampNeg (l3 - 1)) ((f8 (Int32.toNatClampNeg (l3 - 1))) + 1)) (Int32.toNatClampNeg (l3 - 1))) = 6 then (K 1 l1 l2 l3 u_6.1 0 x0_22 u_6.2.1 u_6.2.2.1 u_6.2.2.2 f7 (upd f8 (Int32.toNatClampNeg (l3 - 1)) ((f8 (Int32.toNatClampNeg (l3 - 1))) + 1)) f9 f10) else ((S_Model_wrongAt u_6.2.1 0 f1 u_6.2.2.2 f3 f4 f5 f9).bind fun u_11 => (if ¬ u_11.1 = u_6.2.1 then (K 2 l1 l2 l3 u_6.1 0 x0_22 u_6.2.1 u_6.2.2.1 u_6.2.2.2 f7 (upd f8 (Int32.toNatClampNeg (l3 - 1)) ((f8 (Int32.toNatClampNeg (l3 - 1))) + 1)) u_11.2 f10) else (K 1 l1 l2 l3 u_6.1 0 x0_22 u_6.2.1 u_6.2.2.1 u_6.2.2.2 f7 (upd f8 (Int32.toNatClampNeg (l3 - 1)) ((f8 (Int32.toNatClampNeg (l3 - 1))) + 1)) u_11.2 f10)))))))) else (K 0 l1 l2 (l3 + (-1)) 0 0 x0_22 x0_27 x0_28 f2 f7 (upd f8 (Int32.toNatClampNeg (l3 - 1)) ((f8 (Int32.toNatClampNeg (l3 - 1))) + 1)) f9 f10))))))
def B_Model_search_1 (K : Nat → Int32 → Int32 → Int32 → Int32 → Int32 → Int32 → Int32 → Int32 → (Nat → Int32) → (Nat → Int32) → (Nat → Int32) → (Nat → Int32) → (Nat → Int32) → Option (Int32 × Int32 × Int32 × (Nat → Int32) × (Nat → Int32) × (Nat → Int32) × (Nat → Int32) × (Nat → Int32))) (x0_15 : Int32) (x0_16 : Int32) (f1 : (Nat → Int32)) (f3 : (Nat → Int32)) (f4 : (Nat → Int32)) (f5 : (Nat → Int32)) (f6 : (Nat → Int32)) (f11 : (Nat → Int32)) (f12 : (Nat → Int32)) (l1 : Int32) (l2 : Int32) (l3 : Int32) (l4 : Int32) (s0 : Int32) (x0_22 : Int32) (x0_27 : Int32) (x0_28 : Int32) (f2 : (Nat → Int32)) (f7 : (Nat → Int32)) (f8 : (Nat → Int32)) (f9 : (Nat → Int32)) (f10 : (Nat → Int32)) : Option (Int32 × Int32 × Int32 × (Nat → Int32) × (Nat → Int32) × (Nat → Int32) × (Nat → Int32) × (Nat → Int32)) := (K 3 l1 l2 l3 l4 1 x0_22 x0_27 x0_28 f2 f7 f8 f9 f10)
def B_Model_search_2 (K : Nat → Int32 → Int32 → Int32 → Int32 → Int32 → Int32 → Int32 → Int32 → (Nat → Int32) → (Nat → Int32) → (Nat → Int32) → (Nat → Int32) → (Nat → Int32) → Option (Int32 × Int32 × Int32 × (Nat → Int32) × (Nat → Int32) × (Nat → Int32) × (Nat → Int32) × (Nat → Int32))) (x0_15 : Int32) (x0_16 : Int32) (f1 : (Nat → Int32)) (f3 : (Nat → Int32)) (f4 : (Nat → Int32)) (f5 : (Nat → Int32)) (f6 : (Nat → Int32)) (f11 : (Nat → Int32)) (f12 : (Nat → Int32)) (l1 : Int32) (l2 : Int32) (l3 : Int32) (l4 : Int32) (s0 : Int32) (x0_22 : Int32) (x0_27 : Int32) (x0_28 : Int32) (f2 : (Nat → Int32)) (f7 : (Nat → Int32)) (f8 : (Nat → Int32)) (f9 : (Nat → Int32)) (f10 : (Nat → Int32)) : Option (Int32 × Int32 × Int32 × (Nat → Int32) × (Nat → Int32) × (Nat → Int32) × (Nat → Int32) × (Nat → Int32)) := (K 3 l1 l2 l3 l4 0 x0_22 x0_27 x0_28 f2 f7 f8 f9 f10)
def B_Model_search_3 (K : Nat → Int32 → Int32 → Int32 → Int32 → Int32 → Int32 → Int32 → Int32 → (Nat → Int32) → (Nat → Int32) → (Nat → Int32) → (Nat → Int32) → (Nat → Int32) → Option (Int32 × Int32 × Int32 × (Nat → Int32) × (Nat → Int32) × (Nat → Int32) × (Nat → Int32) × (Nat → Int32))) (x0_15 : Int32) (x0_16 : Int32) (f1 : (Nat → Int32)) (f3 : (Nat → Int32)) (f4 : (Nat → Int32)) (f5 : (Nat → Int32)) (f6 : (Nat → Int32)) (f11 : (Nat → Int32)) (f12 : (Nat → Int32)) (l1 : Int32) (l2 : Int32) (l3 : Int32) (l4 : Int32) (s0 : Int32) (x0_22 : Int32) (x0_27 : Int32) (x0_28 : Int32) (f2 : (Nat → Int32)) (f7 : (Nat → Int32)) (f8 : (Nat → Int32)) (f9 : (Nat → Int32)) (f10 : (Nat → Int32)) : Option (Int32 × Int32 × Int32 × (Nat → Int32) × (Nat → Int32) × (Nat → Int32) × (Nat → Int32) × (Nat → Int32)) := (if s0 = 0 then (if s0 = 0 then (K 0 l1 l2 l3 0 0 x0_22 x0_27 x0_28 f2 f7 f8 f9 f10) else (if 7 ≤ l3 then (K 0 l1 l2 l3 0 0 x0_22 x0_27 x0_28 f2 f7 f8 f9 f10) else (if (l3 : Int32) < 0 ∨ 8 ≤ (Int32.toNatClampNeg l3) then none else (K 0 l1 l2 (l3 + 1) 0 0 x0_22 x0_27 x0_28 f2 f7 (upd f8 (Int32.toNatClampNeg l3) (-1)) f9 f10)))) else (if ¬ l4 = l1 then (if s0 = 0 then (K 0 l1 l2 l3 0 0 x0_22 x0_27 x0_28 f2 f7 f8 f9 f10) else (if 7 ≤ l3 then (K 0 l1 l2 l3 0 0 x0_22 x0_27 x0_28 f2 f7 f8 f9 f10) else (if (l3 : Int32) < 0 ∨ 8 ≤ (Int32.toNatClampNeg l3) then none else (K 0 l1 l2 (l3 + 1) 0 0 x0_22 x0_27 x0_28 f2 f7 (upd f8 (Int32.toNatClampNeg l3) (-1)) f9 f10)))) else (if ((l3 - 1) : Int32) < 0 ∨ 8 ≤ (Int32.toNatClampNeg (l3 - 1)) then none else (if (f8 (Int32.toNatClampNeg (l3 - 1))) = 7 then (K 0 l1 l2 l3 0 0 x0_22 x0_27 x0_28 f2 f7 f8 f9 f10) else ((S_Model_note l3 l2 x0_15 x0_22 x0_27 x0_28 f1 f2 f3 f4 f5 f7 f8 f9 f10 f12).bind fun u_23 => (K 0 l1 l2 l3 0 0 u_23.1 x0_27 x0_28 u_23.2.1 u_23.2.2.1 f8 u_23.2.2.2.1 u_23.2.2.2.2))))))
def F_Model_search (x0_15 : Int32) (x0_16 : Int32) (f1 : (Nat → Int32)) (f3 : (Nat → Int32)) (f4 : (Nat → Int32)) (f5 : (Nat → Int32)) (f6 : (Nat → Int32)) (f11 : (Nat → Int32)) (f12 : (Nat → Int32)) : Nat → Nat → Int32 → Int32 → Int32 → Int32 → Int32 → Int32 → Int32 → Int32 → (Nat → Int32) → (Nat → Int32) → (Nat → Int32) → (Nat → Int32) → (Nat → Int32) → Option (Int32 × Int32 × Int32 × (Nat → Int32) × (Nat → Int32) × (Nat → Int32) × (Nat → Int32) × (Nat → Int32))
  | 0 => fun _ _ _ _ _ _ _ _ _ _ _ _ _ _ => none
  | n + 1 => fun hd l1 l2 l3 l4 s0 x0_22 x0_27 x0_28 f2 f7 f8 f9 f10 => match hd with
    | 0 => B_Model_search_0 (F_Model_search x0_15 x0_16 f1 f3 f4 f5 f6 f11 f12 n) x0_15 x0_16 f1 f3 f4 f5 f6 f11 f12 l1 l2 l3 l4 s0 x0_22 x0_27 x0_28 f2 f7 f8 f9 f10
    | 1 => B_Model_search_1 (F_Model_search x0_15 x0_16 f1 f3 f4 f5 f6 f11 f12 n) x0_15 x0_16 f1 f3 f4 f5 f6 f11 f12 l1 l2 l3 l4 s0 x0_22 x0_27 x0_28 f2 f7 f8 f9 f10
    | 2 => B_Model_search_2 (F_Model_search x0_15 x0_16 f1 f3 f4 f5 f6 f11 f12 n) x0_15 x0_16 f1 f3 f4 f5 f6 f11 f12 l1 l2 l3 l4 s0 x0_22 x0_27 x0_28 f2 f7 f8 f9 f10
    | 3 => B_Model_search_3 (F_Model_search x0_15 x0_16 f1 f3 f4 f5 f6 f11 f12 n) x0_15 x0_16 f1 f3 f4 f5 f6 f11 f12 l1 l2 l3 l4 s0 x0_22 x0_27 x0_28 f2 f7 f8 f9 f10
    | _ => none
set_option maxHeartbeats 4000000 in
set_option maxRecDepth 100000 in
theorem L_Model_search {p : Program} {l : Launch} {e : Env} {s : State} {m : MethodId} {args : Array Value} {below : List Frame} {meth : Method} {c : Code} {A : Nat → Prop} {dC : Nat → ClassId} {dI : Nat → Nat → Nat} {kA : Nat → ClassId} (hx : p.tables.exec = Jvm.exec) (hb : c.code = b_Model_search) (hr : meth.sig.returnType = none) (hlocks : meth.locks = false) (hml : c.maxLocals = 6) (hown : s.vm.findClass R_Model = some m.cls) (hts : ∀ w ∈ w_Model_search, w.before args s = true) (hA : ∀ q : Nat, s.heap.size ≤ q → A q) (hK : va_K (dC, dI) classes (tys_ kA) s) (a0 a1 a2 a3 a4 a5 a6 a7 a8 a9 a10 a11 a12 : Nat) (v0_0 v0_1 v0_2 v0_3 v0_6 v0_7 v0_8 v0_9 v0_10 v0_11 v0_12 v0_23 : Value) (x0_15 : Int32) (x0_16 : Int32) (f1 : (Nat → Int32)) (f3 : (Nat → Int32)) (f4 : (Nat → Int32)) (f5 : (Nat → Int32)) (f6 : (Nat → Int32)) (f11 : (Nat → Int32)) (f12 : (Nat → Int32)) (ox0_22 : Int32) (ox0_27 : Int32) (ox0_28 : Int32) (of2 : (Nat → Int32)) (of7 : (Nat → Int32)) (of8 : (Nat → Int32)) (of9 : (Nat → Int32)) (of10 : (Nat → Int32)) : ∀ n : Nat, (∀ (l1 l2 l3 l4 s0 : Int32) (x0_22 : Int32) (x0_27 : Int32) (x0_28 : Int32) (f2 : (Nat → Int32)) (f7 : (Nat → Int32)) (f8 : (Nat → Int32)) (f9 : (Nat → Int32)) (f10 : (Nat → Int32)), F_Model_search x0_15 x0_16 f1 f3 f4 f5 f6 f11 f12 n 0 l1 l2 l3 l4 s0 x0_22 x0_27 x0_28 f2 f7 f8 f9 f10 = some (ox0_22, ox0_27, ox0_28, of2, of7, of8, of9, of10) → ∀ (H : Heap) (locs : List Loc) (ls : Array Slot), va_P (dC, dI) classes (wd_Model_search kA a0 a1 a2 a3 a4 a5 a6 a7 a8 a9 a10 a11 a12 v0_0 v0_1 v0_2 v0_3 v0_6 v0_7 v0_8 v0_9 v0_10 v0_11 v0_12 v0_23 x0_15 x0_16 x0_22 x0_27 x0_28 f1 f2 f3 f4 f5 f6 f7 f8 f9 f10 f11 f12) H → va_D A (wd_Model_search kA a0 a1 a2 a3 a4 a5 a6 a7 a8 a9 a10 a11 a12 v0_0 v0_1 v0_2 v0_3 v0_6 v0_7 v0_8 v0_9 v0_10 v0_11 v0_12 v0_23 x0_15 x0_16 x0_22 x0_27 x0_28 f1 f2 f3 f4 f5 f6 f7 f8 f9 f10 f11 f12) → va_S A s.heap H locs → lv_has ls 6 [(0, .ref a0), (1, .int l1), (2, .int l2), (3, .int l3)] → W p l e (headSpec w_Model_search rm_Model_search).room s m args below meth c H locs 0 0 (MQ below (va_Qv (fun (_ : Unit) => True) (fun _ t => va_P (dC, dI) classes (wd_Model_search kA a0 a1 a2 a3 a4 a5 a6 a7 a8 a9 a10 a11 a12 v0_0 v0_1 v0_2 v0_3 v0_6 v0_7 v0_8 v0_9 v0_10 v0_11 v0_12 v0_23 x0_15 x0_16 ox0_22 ox0_27 ox0_28 f1 of2 f3 f4 f5 f6 of7 of8 of9 of10 f11 f12) t.heap ∧ va_K (dC, dI) classes (tys_ kA) t ∧ va_D A (wd_Model_search kA a0 a1 a2 a3 a4 a5 a6 a7 a8 a9 a10 a11 a12 v0_0 v0_1 v0_2 v0_3 v0_6 v0_7 v0_8 v0_9 v0_10 v0_11 v0_12 v0_23 x0_15 x0_16 ox0_22 ox0_27 ox0_28 f1 of2 f3 f4 f5 f6 of7 of8 of9 of10 f11 f12)) A) args s 0 0 A) (F0 m 9 ls [])) ∧ (∀ (l1 l2 l3 l4 s0 : Int32) (x0_22 : Int32) (x0_27 : Int32) (x0_28 : Int32) (f2 : (Nat → Int32)) (f7 : (Nat → Int32)) (f8 : (Nat → Int32)) (f9 : (Nat → Int32)) (f10 : (Nat → Int32)), F_Model_search x0_15 x0_16 f1 f3 f4 f5 f6 f11 f12 n 1 l1 l2 l3 l4 s0 x0_22 x0_27 x0_28 f2 f7 f8 f9 f10 = some (ox0_22, ox0_27, ox0_28, of2, of7, of8, of9, of10) → ∀ (H : Heap) (locs : List Loc) (ls : Array Slot), va_P (dC, dI) classes (wd_Model_search kA a0 a1 a2 a3 a4 a5 a6 a7 a8 a9 a10 a11 a12 v0_0 v0_1 v0_2 v0_3 v0_6 v0_7 v0_8 v0_9 v0_10 v0_11 v0_12 v0_23 x0_15 x0_16 x0_22 x0_27 x0_28 f1 f2 f3 f4 f5 f6 f7 f8 f9 f10 f11 f12) H → va_D A (wd_Model_search kA a0 a1 a2 a3 a4 a5 a6 a7 a8 a9 a10 a11 a12 v0_0 v0_1 v0_2 v0_3 v0_6 v0_7 v0_8 v0_9 v0_10 v0_11 v0_12 v0_23 x0_15 x0_16 x0_22 x0_27 x0_28 f1 f2 f3 f4 f5 f6 f7 f8 f9 f10 f11 f12) → va_S A s.heap H locs → lv_has ls 6 [(0, .ref a0), (1, .int l1), (2, .int l2), (3, .int l3), (4, .int l4)] → W p l e (headSpec w_Model_search rm_Model_search).room s m args below meth c H locs 0 0 (MQ below (va_Qv (fun (_ : Unit) => True) (fun _ t => va_P (dC, dI) classes (wd_Model_search kA a0 a1 a2 a3 a4 a5 a6 a7 a8 a9 a10 a11 a12 v0_0 v0_1 v0_2 v0_3 v0_6 v0_7 v0_8 v0_9 v0_10 v0_11 v0_12 v0_23 x0_15 x0_16 ox0_22 ox0_27 ox0_28 f1 of2 f3 f4 f5 f6 of7 of8 of9 of10 f11 f12) t.heap ∧ va_K (dC, dI) classes (tys_ kA) t ∧ va_D A (wd_Model_search kA a0 a1 a2 a3 a4 a5 a6 a7 a8 a9 a10 a11 a12 v0_0 v0_1 v0_2 v0_3 v0_6 v0_7 v0_8 v0_9 v0_10 v0_11 v0_12 v0_23 x0_15 x0_16 ox0_22 ox0_27 ox0_28 f1 of2 f3 f4 f5 f6 of7 of8 of9 of10 f11 f12)) A) args s 0 0 A) (F0 m 91 ls [])) ∧ (∀ (l1 l2 l3 l4 s0 : Int32) (x0_22 : Int32) (x0_27 : Int32) (x0_28 : Int32) (f2 : (Nat → Int32)) (f7 : (Nat → Int32)) (f8 : (Nat → Int32)) (f9 : (Nat → Int32)) (f10 : (Nat → Int32)), F_Model_search x0_15 x0_16 f1 f3 f4 f5 f6 f11 f12 n 2 l1 l2 l3 l4 s0 x0_22 x0_27 x0_28 f2 f7 f8 f9 f10 = some (ox0_22, ox0_27, ox0_28, of2, of7, of8, of9, of10) → ∀ (H : Heap) (locs : List Loc) (ls : Array Slot), va_P (dC, dI) classes (wd_Model_search kA a0 a1 a2 a3 a4 a5 a6 a7 a8 a9 a10 a11 a12 v0_0 v0_1 v0_2 v0_3 v0_6 v0_7 v0_8 v0_9 v0_10 v0_11 v0_12 v0_23 x0_15 x0_16 x0_22 x0_27 x0_28 f1 f2 f3 f4 f5 f6 f7 f8 f9 f10 f11 f12) H → va_D A (wd_Model_search kA a0 a1 a2 a3 a4 a5 a6 a7 a8 a9 a10 a11 a12 v0_0 v0_1 v0_2 v0_3 v0_6 v0_7 v0_8 v0_9 v0_10 v0_11 v0_12 v0_23 x0_15 x0_16 x0_22 x0_27 x0_28 f1 f2 f3 f4 f5 f6 f7 f8 f9 f10 f11 f12) → va_S A s.heap H locs → lv_has ls 6 [(0, .ref a0), (1, .int l1), (2, .int l2), (3, .int l3), (4, .int l4)] → W p l e (headSpec w_Model_search rm_Model_search).room s m args below meth c H locs 0 0 (MQ below (va_Qv (fun (_ : Unit) => True) (fun _ t => va_P (dC, dI) classes (wd_Model_search kA a0 a1 a2 a3 a4 a5 a6 a7 a8 a9 a10 a11 a12 v0_0 v0_1 v0_2 v0_3 v0_6 v0_7 v0_8 v0_9 v0_10 v0_11 v0_12 v0_23 x0_15 x0_16 ox0_22 ox0_27 ox0_28 f1 of2 f3 f4 f5 f6 of7 of8 of9 of10 f11 f12) t.heap ∧ va_K (dC, dI) classes (tys_ kA) t ∧ va_D A (wd_Model_search kA a0 a1 a2 a3 a4 a5 a6 a7 a8 a9 a10 a11 a12 v0_0 v0_1 v0_2 v0_3 v0_6 v0_7 v0_8 v0_9 v0_10 v0_11 v0_12 v0_23 x0_15 x0_16 ox0_22 ox0_27 ox0_28 f1 of2 f3 f4 f5 f6 of7 of8 of9 of10 f11 f12)) A) args s 0 0 A) (F0 m 95 ls [])) ∧ (∀ (l1 l2 l3 l4 s0 : Int32) (x0_22 : Int32) (x0_27 : Int32) (x0_28 : Int32) (f2 : (Nat → Int32)) (f7 : (Nat → Int32)) (f8 : (Nat → Int32)) (f9 : (Nat → Int32)) (f10 : (Nat → Int32)), F_Model_search x0_15 x0_16 f1 f3 f4 f5 f6 f11 f12 n 3 l1 l2 l3 l4 s0 x0_22 x0_27 x0_28 f2 f7 f8 f9 f10 = some (ox0_22, ox0_27, ox0_28, of2, of7, of8, of9, of10) → ∀ (H : Heap) (locs : List Loc) (ls : Array Slot), va_P (dC, dI) classes (wd_Model_search kA a0 a1 a2 a3 a4 a5 a6 a7 a8 a9 a10 a11 a12 v0_0 v0_1 v0_2 v0_3 v0_6 v0_7 v0_8 v0_9 v0_10 v0_11 v0_12 v0_23 x0_15 x0_16 x0_22 x0_27 x0_28 f1 f2 f3 f4 f5 f6 f7 f8 f9 f10 f11 f12) H → va_D A (wd_Model_search kA a0 a1 a2 a3 a4 a5 a6 a7 a8 a9 a10 a11 a12 v0_0 v0_1 v0_2 v0_3 v0_6 v0_7 v0_8 v0_9 v0_10 v0_11 v0_12 v0_23 x0_15 x0_16 x0_22 x0_27 x0_28 f1 f2 f3 f4 f5 f6 f7 f8 f9 f10 f11 f12) → va_S A s.heap H locs → lv_has ls 6 [(0, .ref a0), (1, .int l1), (2, .int l2), (3, .int l3), (4, .int l4)] → W p l e (headSpec w_Model_search rm_Model_search).room s m args below meth c H locs 0 0 (MQ below (va_Qv (fun (_ : Unit) => True) (fun _ t => va_P (dC, dI) classes (wd_Model_search kA a0 a1 a2 a3 a4 a5 a6 a7 a8 a9 a10 a11 a12 v0_0 v0_1 v0_2 v0_3 v0_6 v0_7 v0_8 v0_9 v0_10 v0_11 v0_12 v0_23 x0_15 x0_16 ox0_22 ox0_27 ox0_28 f1 of2 f3 f4 f5 f6 of7 of8 of9 of10 f11 f12) t.heap ∧ va_K (dC, dI) classes (tys_ kA) t ∧ va_D A (wd_Model_search kA a0 a1 a2 a3 a4 a5 a6 a7 a8 a9 a10 a11 a12 v0_0 v0_1 v0_2 v0_3 v0_6 v0_7 v0_8 v0_9 v0_10 v0_11 v0_12 v0_23 x0_15 x0_16 ox0_22 ox0_27 ox0_28 f1 of2 f3 f4 f5 f6 of7 of8 of9 of10 f11 f12)) A) args s 0 0 A) (F0 m 96 ls [.int s0])) := by
  have hg := fun (w : Cond) (h : w ∈ gw) => hts w (List.mem_cons_of_mem _ h)
  intro n
  induction n with
  | zero =>
    exact ⟨fun _ _ _ _ _ _ _ _ _ _ _ _ _ hF => absurd (show (none : Option _) = some _ from hF) (fun z => by cases z), fun _ _ _ _ _ _ _ _ _ _ _ _ _ hF => absurd (show (none : Option _) = some _ from hF) (fun z => by cases z), fun _ _ _ _ _ _ _ _ _ _ _ _ _ hF => absurd (show (none : Option _) = some _ from hF) (fun z => by cases z), fun _ _ _ _ _ _ _ _ _ _ _ _ _ hF => absurd (show (none : Option _) = some _ from hF) (fun z => by cases z)⟩
  | succ n ih =>
    refine ⟨?_, ?_, ?_, ?_⟩
    · intro l1 l2 l3 l4 s0 x0_22 x0_27 x0_28 f2 f7 f8 f9 f10 hF H locs ls hP hD hS hl
      have hF : B_Model_search_0 (F_Model_search x0_15 x0_16 f1 f3 f4 f5 f6 f11 f12 n) x0_15 x0_16 f1 f3 f4 f5 f6 f11 f12 l1 l2 l3 l4 s0 x0_22 x0_27 x0_28 f2 f7 f8 f9 f10 = some (ox0_22, ox0_27, ox0_28, of2, of7, of8, of9, of10) := hF
      unfold B_Model_search_0 at hF
      refine lv_iload_n hx hb d_Model_search_9 rfl (lv_at hl 3 rfl) ?_
      refine lv_if_le (tgt := 155) hx hb d_Model_search_10 (by decide) (fun c_1 => ?_) (fun c_1 => ?_)
      · rw [if_pos c_1] at hF
        have e0 := Option.some.inj hF
        have q0 := Prod.mk.inj e0
        have q1 := Prod.mk.inj q0.2
        have q2 := Prod.mk.inj q1.2
        have q3 := Prod.mk.inj q2.2
        have q4 := Prod.mk.inj q3.2
        have q5 := Prod.mk.inj q4.2
        have q6 := Prod.mk.inj q5.2
        exact W.vret hx hb hr (fun t ht hW => ⟨⟨(), rfl, trivial, by rw [ht, ← q0.1, ← q1.1, ← q2.1, ← q3.1, ← q4.1, ← q5.1, ← q6.1, ← q6.2]; exact hP, va_K.moved hW.alike hK, (by rw [← q0.1, ← q1.1, ← q2.1, ← q3.1, ← q4.1, ← q5.1, ← q6.1, ← q6.2]; exact hD)⟩, hS.F ht⟩) hS.2.2 d_Model_search_155 hlocks
      · rw [if_neg c_1] at hF
        refine lv_aload_n hx hb d_Model_search_13 rfl (lv_at hl 0 rfl) ?_
        refine va_get (D := (dC, dI)) (ci := 9) (v := .ref a8) (C := R_Model) (T := F_Model) (N := 29) hx hb hg iw_Model hown hK hP 0 rfl rfl 26 (by decide) (hg _ gw_342) (fun _ h9 => h9) rfl d_Model_search_14 ?_
        refine lv_iload_n hx hb d_Model_search_17 rfl (lv_at hl 3 rfl) ?_
        refine lv_iconst (v := 1) hx hb d_Model_search_18 (by decide) ?_
        refine lv_isub hx hb d_Model_search_19 ?_
        refine lv_dup2_11 hx hb d_Model_search_20 rfl rfl ?_
        obtain ⟨h_2, hF⟩ := rd_chk hF
        refine va_iald hx hb hK hP 8 0 rfl rfl h_2 d_Model_search_21 ?_
        refine lv_iconst (v := 1) hx hb d_Model_search_22 (by decide) ?_
        refine lv_iadd hx hb d_Model_search_23 ?_
        obtain ⟨h_3, hF⟩ := rd_chk hF
        refine va_iast hx hb hK hP hD hS 8 0 rfl rfl h_3 d_Model_search_24 (fun H locs hP hD hS => ?_)
        have hP : va_P (dC, dI) classes (wd_Model_search kA a0 a1 a2 a3 a4 a5 a6 a7 a8 a9 a10 a11 a12 v0_0 v0_1 v0_2 v0_3 v0_6 v0_7 v0_8 v0_9 v0_10 v0_11 v0_12 v0_23 x0_15 x0_16 x0_22 x0_27 x0_28 f1 f2 f3 f4 f5 f6 f7 (upd f8 (Int32.toNatClampNeg (l3 - 1)) ((f8 (Int32.toNatClampNeg (l3 - 1))) + 1)) f9 f10 f11 f12) H := hP
        have hD : va_D A (wd_Model_search kA a0 a1 a2 a3 a4 a5 a6 a7 a8 a9 a10 a11 a12 v0_0 v0_1 v0_2 v0_3 v0_6 v0_7 v0_8 v0_9 v0_10 v0_11 v0_12 v0_23 x0_15 x0_16 x0_22 x0_27 x0_28 f1 f2 f3 f4 f5 f6 f7 (upd f8 (Int32.toNatClampNeg (l3 - 1)) ((f8 (Int32.toNatClampNeg (l3 - 1))) + 1)) f9 f10 f11 f12) := hD
        refine lv_aload_n hx hb d_Model_search_25 rfl (lv_at hl 0 rfl) ?_
        refine va_get (D := (dC, dI)) (ci := 9) (v := .ref a8) (C := R_Model) (T := F_Model) (N := 29) hx hb hg iw_Model hown hK hP 0 rfl rfl 26 (by decide) (hg _ gw_342) (fun _ h9 => h9) rfl d_Model_search_26 ?_
        refine lv_iload_n hx hb d_Model_search_29 rfl (lv_at hl 3 rfl) ?_
        refine lv_iconst (v := 1) hx hb d_Model_search_30 (by decide) ?_
        refine lv_isub hx hb d_Model_search_31 ?_
        obtain ⟨h_4, hF⟩ := rd_chk hF
        refine va_iald hx hb hK hP 8 0 rfl rfl h_4 d_Model_search_32 ?_
        refine lv_bipush (v := 7) hx hb d_Model_search_33 (by decide) ?_
        refine lv_icmp_le (tgt := 44) hx hb d_Model_search_35 (by decide) (fun c_5 => ?_) (fun c_5 => ?_)
        · rw [if_pos c_5] at hF
          refine lv_aload_n hx hb d_Model_search_44 rfl (lv_at hl 0 rfl) ?_
          refine lv_iload_n hx hb d_Model_search_45 rfl (lv_at hl 3 rfl) ?_
          obtain ⟨u_6, hS_6, hF⟩ := rd_bind hF
          have hPc := hP.sub (ws' := (wd_Model_follows kA a0 a2 a6 a8 a11 a12 v0_0 v0_1 v0_2 v0_3 (.ref a3) (.ref a4) v0_6 v0_7 v0_8 v0_9 v0_10 v0_11 v0_12 (.ref a1) (.ref a5) (.ref a9) (.int x0_22) v0_23 (.ref a10) (.ref a7) x0_15 x0_16 x0_27 x0_28 f2 f6 (upd f8 (Int32.toNatClampNeg (l3 - 1)) ((f8 (Int32.toNatClampNeg (l3 - 1))) + 1)) f11 f12)) [0, 2, 6, 8, 11, 12] rfl
          have hDc := hD.sub (ws' := (wd_Model_follows kA a0 a2 a6 a8 a11 a12 v0_0 v0_1 v0_2 v0_3 (.ref a3) (.ref a4) v0_6 v0_7 v0_8 v0_9 v0_10 v0_11 v0_12 (.ref a1) (.ref a5) (.ref a9) (.int x0_22) v0_23 (.ref a10) (.ref a7) x0_15 x0_16 x0_27 x0_28 f2 f6 (upd f8 (Int32.toNatClampNeg (l3 - 1)) ((f8 (Int32.toNatClampNeg (l3 - 1))) + 1)) f11 f12)) [0, 2, 6, 8, 11, 12] (by decide) rfl
          have hFc := va_free (wc := (wd_Model_follows kA a0 a2 a6 a8 a11 a12 v0_0 v0_1 v0_2 v0_3 (.ref a3) (.ref a4) v0_6 v0_7 v0_8 v0_9 v0_10 v0_11 v0_12 (.ref a1) (.ref a5) (.ref a9) (.int x0_22) v0_23 (.ref a10) (.ref a7) x0_15 x0_16 x0_27 x0_28 f2 f6 (upd f8 (Int32.toNatClampNeg (l3 - 1)) ((f8 (Int32.toNatClampNeg (l3 - 1))) + 1)) f11 f12)) hD hS hA [0, 2, 6, 8, 11, 12] rfl
          refine va_calli (va_runV (As := [.int l3]) (rest := []) ⟨hx, hb, hml, hown, hts⟩ (c_Model_follows l dC dI kA H.size a0 a2 a6 a8 a11 a12 v0_0 v0_1 v0_2 v0_3 (.ref a3) (.ref a4) v0_6 v0_7 v0_8 v0_9 v0_10 v0_11 v0_12 (.ref a1) (.ref a5) (.ref a9) (.int x0_22) v0_23 (.ref a10) (.ref a7) l3 x0_15 x0_16 x0_27 x0_28 f2 f6 (upd f8 (Int32.toNatClampNeg (l3 - 1)) ((f8 (Int32.toNatClampNeg (l3 - 1))) + 1)) f11 f12 u_6.1 u_6.2.1 u_6.2.2.1 u_6.2.2.2 hS_6) (cwV 1 hts (gw_V gw_347 gw_348 gw_349 gw_267 gw_350) rfl rfl rfl (by decide +kernel) ⟨Nat.le_of_ble_eq_true rfl, Nat.le_of_ble_eq_true rfl⟩) ⟨fun a U g mk q => by obtain ⟨q0, q1, qP, qK, qD⟩ := q; exact ⟨q0, q1, qP, va_K.moved (u := U) (U := U.calling g mk a) (Vm.Alike.refl U.vm) qK, qD⟩, va_recv hK hP (ci := 9) (q0 := 0) rfl rfl, fun U hU hW => ⟨rfl, by rw [hU], by rw [hU]; exact hPc, va_K.moved hW.alike hK, hDc.weaken (fun _ _ _ _ => trivial)⟩⟩ rfl rfl hl.1 rfl (lv_room (Nat.le_of_ble_eq_true rfl)) d_Model_search_46 ⟨Nat.zero_le _, Nat.zero_le _⟩) hS (fun q _ h => hFc q h) hFc (fun r1 u t H1 locs ht hvm hw hB hz1 hk1 hS => ?_)
          rw [show r1 = _ from hw]
          obtain ⟨hP1, hK1, hD1⟩ := hB
          rw [ht] at hP1
          obtain ⟨hP, hD⟩ := va_join (wr := [(a1, .inl (kA 0, 2310, .inl f1)), (a3, .inl (kA 0, 11, .inl f3)), (a4, .inl (kA 0, 11, .inl f4)), (a5, .inl (kA 0, 492, .inl f5)), (a7, .inl (kA 0, 40, .inl f7)), (a9, .inl (kA 0, 400, .inl f9)), (a10, .inl (kA 0, 280, .inl f10))]) (w1 := (wd_Model_follows kA a0 a2 a6 a8 a11 a12 v0_0 v0_1 v0_2 v0_3 (.ref a3) (.ref a4) v0_6 v0_7 v0_8 v0_9 v0_10 v0_11 v0_12 (.ref a1) (.ref a5) (.ref a9) (.int x0_22) v0_23 (.ref a10) (.ref a7) x0_15 x0_16 u_6.2.1 u_6.2.2.1 u_6.2.2.2 f6 (upd f8 (Int32.toNatClampNeg (l3 - 1)) ((f8 (Int32.toNatClampNeg (l3 - 1))) + 1)) f11 f12)) hP hD [0, 2, 6, 8, 11, 12] [1, 3, 4, 5, 7, 9, 10] rfl rfl (by decide) (by decide) hk1 hFc hP1 hD1
          have hP := hP.sub (ws' := (wd_Model_search kA a0 a1 a2 a3 a4 a5 a6 a7 a8 a9 a10 a11 a12 v0_0 v0_1 v0_2 v0_3 v0_6 v0_7 v0_8 v0_9 v0_10 v0_11 v0_12 v0_23 x0_15 x0_16 x0_22 u_6.2.1 u_6.2.2.1 f1 u_6.2.2.2 f3 f4 f5 f6 f7 (upd f8 (Int32.toNatClampNeg (l3 - 1)) ((f8 (Int32.toNatClampNeg (l3 - 1))) + 1)) f9 f10 f11 f12)) [7, 0, 8, 1, 2, 3, 9, 4, 10, 5, 6, 11, 12] rfl
          have hD := hD.sub (ws' := (wd_Model_search kA a0 a1 a2 a3 a4 a5 a6 a7 a8 a9 a10 a11 a12 v0_0 v0_1 v0_2 v0_3 v0_6 v0_7 v0_8 v0_9 v0_10 v0_11 v0_12 v0_23 x0_15 x0_16 x0_22 u_6.2.1 u_6.2.2.1 f1 u_6.2.2.2 f3 f4 f5 f6 f7 (upd f8 (Int32.toNatClampNeg (l3 - 1)) ((f8 (Int32.toNatClampNeg (l3 - 1))) + 1)) f9 f10 f11 f12)) [7, 0, 8, 1, 2, 3, 9, 4, 10, 5, 6, 11, 12] (by decide) rfl
          clear hPc hDc hFc hP1 hK1 hD1
          generalize H1 = H at hP hS ⊢
          refine lv_istore (lv' := [(4, .int u_6.1), (0, .ref a0), (1, .int l1), (2, .int l2), (3, .int l3)]) hx hb d_Model_search_49 hl (by decide) rfl (fun ls hl => ?_)
          refine lv_iload hx hb d_Model_search_51 (lv_at hl 0 rfl) ?_
          refine lv_if_lt (tgt := 95) hx hb d_Model_search_53 (by decide) (fun c_7 => ?_) (fun c_7 => ?_)
          · rw [if_pos c_7] at hF
            exact ih.2.2.1 l1 l2 l3 u_6.1 0 x0_22 u_6.2.1 u_6.2.2.1 u_6.2.2.2 f7 (upd f8 (Int32.toNatClampNeg (l3 - 1)) ((f8 (Int32.toNatClampNeg (l3 - 1))) + 1)) f9 f10 hF _ _ _ hP hD hS (lv_sub hl [1, 2, 3, 4, 0] rfl)
          · rw [if_neg c_7] at hF
            refine lv_iload hx hb d_Model_search_56 (lv_at hl 0 rfl) ?_
            refine lv_iload_n hx hb d_Model_search_58 rfl (lv_at hl 2 rfl) ?_
            refine lv_icmp_gt (tgt := 95) hx hb d_Model_search_59 (by decide) (fun c_8 => ?_) (fun c_8 => ?_)
            · rw [if_pos c_8] at hF
              exact ih.2.2.1 l1 l2 l3 u_6.1 0 x0_22 u_6.2.1 u_6.2.2.1 u_6.2.2.2 f7 (upd f8 (Int32.toNatClampNeg (l3 - 1)) ((f8 (Int32.toNatClampNeg (l3 - 1))) + 1)) f9 f10 hF _ _ _ hP hD hS (lv_sub hl [1, 2, 3, 4, 0] rfl)
            · rw [if_neg c_8] at hF
              refine lv_aload_n hx hb d_Model_search_62 rfl (lv_at hl 1 rfl) ?_
              refine va_get (D := (dC, dI)) (ci := 9) (v := .ref a8) (C := R_Model) (T := F_Model) (N := 29) hx hb hg iw_Model hown hK hP 0 rfl rfl 26 (by decide) (hg _ gw_342) (fun _ h9 => h9) rfl d_Model_search_63 ?_
              refine lv_iload_n hx hb d_Model_search_66 rfl (lv_at hl 4 rfl) ?_
              refine lv_iconst (v := 1) hx hb d_Model_search_67 (by decide) ?_
              refine lv_isub hx hb d_Model_search_68 ?_
              obtain ⟨h_9, hF⟩ := rd_chk hF
              refine va_iald hx hb hK hP 8 0 rfl rfl h_9 d_Model_search_69 ?_
              refine lv_bipush (v := 6) hx hb d_Model_search_70 (by decide) ?_
              refine lv_icmp_eq (tgt := 91) hx hb d_Model_search_72 (by decide) (fun c_10 => ?_) (fun c_10 => ?_)
              · rw [if_pos c_10] at hF
                exact ih.2.1 l1 l2 l3 u_6.1 0 x0_22 u_6.2.1 u_6.2.2.1 u_6.2.2.2 f7 (upd f8 (Int32.toNatClampNeg (l3 - 1)) ((f8 (Int32.toNatClampNeg (l3 - 1))) + 1)) f9 f10 hF _ _ _ hP hD hS (lv_sub hl [1, 2, 3, 4, 0] rfl)
              · rw [if_neg c_10] at hF
                refine lv_aload_n hx hb d_Model_search_75 rfl (lv_at hl 1 rfl) ?_
                refine lv_aload_n hx hb d_Model_search_76 rfl (lv_at hl 1 rfl) ?_
                refine va_get (D := (dC, dI)) (ci := 9) (v := .int u_6.2.1) (C := R_Model) (T := F_Model) (N := 29) hx hb hg iw_Model hown hK hP 0 rfl rfl 27 (by decide) (hg _ gw_344) (fun _ h9 => h9) rfl d_Model_search_77 ?_
                refine lv_iconst (v := 0) hx hb d_Model_search_80 (by decide) ?_
                obtain ⟨u_11, hS_11, hF⟩ := rd_bind hF
                have hPc := hP.sub (ws' := (wd_Model_wrongAt kA a0 a1 a2 a3 a4 a5 a9 v0_0 v0_1 v0_2 v0_3 v0_6 v0_7 v0_8 v0_9 v0_10 v0_11 v0_12 (.int x0_15) (.int x0_16) (.ref a12) (.ref a6) (.ref a11) (.int x0_22) v0_23 (.ref a10) (.ref a7) (.ref a8) (.int u_6.2.1) (.int u_6.2.2.1) f1 u_6.2.2.2 f3 f4 f5 f9)) [0, 1, 2, 3, 4, 5, 9] rfl
                have hDc := hD.sub (ws' := (wd_Model_wrongAt kA a0 a1 a2 a3 a4 a5 a9 v0_0 v0_1 v0_2 v0_3 v0_6 v0_7 v0_8 v0_9 v0_10 v0_11 v0_12 (.int x0_15) (.int x0_16) (.ref a12) (.ref a6) (.ref a11) (.int x0_22) v0_23 (.ref a10) (.ref a7) (.ref a8) (.int u_6.2.1) (.int u_6.2.2.1) f1 u_6.2.2.2 f3 f4 f5 f9)) [0, 1, 2, 3, 4, 5, 9] (by decide) rfl
                have hFc := va_free (wc := (wd_Model_wrongAt kA a0 a1 a2 a3 a4 a5 a9 v0_0 v0_1 v0_2 v0_3 v0_6 v0_7 v0_8 v0_9 v0_10 v0_11 v0_12 (.int x0_15) (.int x0_16) (.ref a12) (.ref a6) (.ref a11) (.int x0_22) v0_23 (.ref a10) (.ref a7) (.ref a8) (.int u_6.2.1) (.int u_6.2.2.1) f1 u_6.2.2.2 f3 f4 f5 f9)) hD hS hA [0, 1, 2, 3, 4, 5, 9] rfl
                refine va_calli (va_runV (As := [.int u_6.2.1, .int 0]) (rest := []) ⟨hx, hb, hml, hown, hts⟩ (c_Model_wrongAt l dC dI kA H.size a0 a1 a2 a3 a4 a5 a9 v0_0 v0_1 v0_2 v0_3 v0_6 v0_7 v0_8 v0_9 v0_10 v0_11 v0_12 (.int x0_15) (.int x0_16) (.ref a12) (.ref a6) (.ref a11) (.int x0_22) v0_23 (.ref a10) (.ref a7) (.ref a8) (.int u_6.2.1) (.int u_6.2.2.1) u_6.2.1 0 f1 u_6.2.2.2 f3 f4 f5 f9 u_11.1 u_11.2 hS_11) (cwV 2 hts (gw_V gw_333 gw_334 gw_335 gw_267 gw_336) rfl rfl rfl (by decide +kernel) ⟨Nat.le_of_ble_eq_true rfl, Nat.le_of_ble_eq_true rfl⟩) ⟨fun a U g mk q => by obtain ⟨q0, q1, qP, qK, qD⟩ := q; exact ⟨q0, q1, qP, va_K.moved (u := U) (U := U.calling g mk a) (Vm.Alike.refl U.vm) qK, qD⟩, va_recv hK hP (ci := 9) (q0 := 0) rfl rfl, fun U hU hW => ⟨rfl, by rw [hU], by rw [hU]; exact hPc, va_K.moved hW.alike hK, hDc.weaken (fun _ _ _ _ => trivial)⟩⟩ rfl rfl hl.1 rfl (lv_room (Nat.le_of_ble_eq_true rfl)) d_Model_search_81 ⟨Nat.zero_le _, Nat.zero_le _⟩) hS (fun q _ h => hFc q h) hFc (fun r1 u t H1 locs ht hvm hw hB hz1 hk1 hS => ?_)
                rw [show r1 = _ from hw]
                obtain ⟨hP1, hK1, hD1⟩ := hB
                rw [ht] at hP1
                obtain ⟨hP, hD⟩ := va_join (wr := [(a6, .inl (kA 0, 6, .inl f6)), (a7, .inl (kA 0, 40, .inl f7)), (a8, .inl (kA 0, 8, .inl (upd f8 (Int32.toNatClampNeg (l3 - 1)) ((f8 (Int32.toNatClampNeg (l3 - 1))) + 1)))), (a10, .inl (kA 0, 280, .inl f10)), (a11, .inl (kA 0, 6, .inl f11)), (a12, .inl (kA 0, 16, .inl f12))]) (w1 := (wd_Model_wrongAt kA a0 a1 a2 a3 a4 a5 a9 v0_0 v0_1 v0_2 v0_3 v0_6 v0_7 v0_8 v0_9 v0_10 v0_11 v0_12 (.int x0_15) (.int x0_16) (.ref a12) (.ref a6) (.ref a11) (.int x0_22) v0_23 (.ref a10) (.ref a7) (.ref a8) (.int u_6.2.1) (.int u_6.2.2.1) f1 u_6.2.2.2 f3 f4 f5 u_11.2)) hP hD [0, 1, 2, 3, 4, 5, 9] [6, 7, 8, 10, 11, 12] rfl rfl (by decide) (by decide) hk1 hFc hP1 hD1
                have hP := hP.sub (ws' := (wd_Model_search kA a0 a1 a2 a3 a4 a5 a6 a7 a8 a9 a10 a11 a12 v0_0 v0_1 v0_2 v0_3 v0_6 v0_7 v0_8 v0_9 v0_10 v0_11 v0_12 v0_23 x0_15 x0_16 x0_22 u_6.2.1 u_6.2.2.1 f1 u_6.2.2.2 f3 f4 f5 f6 f7 (upd f8 (Int32.toNatClampNeg (l3 - 1)) ((f8 (Int32.toNatClampNeg (l3 - 1))) + 1)) u_11.2 f10 f11 f12)) [6, 7, 8, 9, 10, 11, 0, 1, 2, 12, 3, 4, 5] rfl
                have hD := hD.sub (ws' := (wd_Model_search kA a0 a1 a2 a3 a4 a5 a6 a7 a8 a9 a10 a11 a12 v0_0 v0_1 v0_2 v0_3 v0_6 v0_7 v0_8 v0_9 v0_10 v0_11 v0_12 v0_23 x0_15 x0_16 x0_22 u_6.2.1 u_6.2.2.1 f1 u_6.2.2.2 f3 f4 f5 f6 f7 (upd f8 (Int32.toNatClampNeg (l3 - 1)) ((f8 (Int32.toNatClampNeg (l3 - 1))) + 1)) u_11.2 f10 f11 f12)) [6, 7, 8, 9, 10, 11, 0, 1, 2, 12, 3, 4, 5] (by decide) rfl
                clear hPc hDc hFc hP1 hK1 hD1
                generalize H1 = H at hP hS ⊢
                refine lv_aload_n hx hb d_Model_search_84 rfl (lv_at hl 1 rfl) ?_
                refine va_get (D := (dC, dI)) (ci := 9) (v := .int u_6.2.1) (C := R_Model) (T := F_Model) (N := 29) hx hb hg iw_Model hown hK hP 0 rfl rfl 27 (by decide) (hg _ gw_344) (fun _ h9 => h9) rfl d_Model_search_85 ?_
                refine lv_icmp_ne (tgt := 95) hx hb d_Model_search_88 (by decide) (fun c_12 => ?_) (fun c_12 => ?_)
                · rw [if_pos c_12] at hF
                  exact ih.2.2.1 l1 l2 l3 u_6.1 0 x0_22 u_6.2.1 u_6.2.2.1 u_6.2.2.2 f7 (upd f8 (Int32.toNatClampNeg (l3 - 1)) ((f8 (Int32.toNatClampNeg (l3 - 1))) + 1)) u_11.2 f10 hF _ _ _ hP hD hS (lv_sub hl [1, 2, 3, 4, 0] rfl)
                · rw [if_neg (fun z => z c_12)] at hF
                  exact ih.2.1 l1 l2 l3 u_6.1 0 x0_22 u_6.2.1 u_6.2.2.1 u_6.2.2.2 f7 (upd f8 (Int32.toNatClampNeg (l3 - 1)) ((f8 (Int32.toNatClampNeg (l3 - 1))) + 1)) u_11.2 f10 hF _ _ _ hP hD hS (lv_sub hl [1, 2, 3, 4, 0] rfl)
        · rw [if_neg c_5] at hF
          refine lv_iinc (v := (l3 + (-1))) (lv' := [(3, .int (l3 + (-1))), (0, .ref a0), (1, .int l1), (2, .int l2)]) hx hb d_Model_search_38 hl (k := 3) rfl (by rfl) (by decide) rfl (fun ls hl => ?_)
          refine lv_goto (tgt := 9) hx hb d_Model_search_41 (by decide) ?_
          exact ih.1 l1 l2 (l3 + (-1)) 0 0 x0_22 x0_27 x0_28 f2 f7 (upd f8 (Int32.toNatClampNeg (l3 - 1)) ((f8 (Int32.toNatClampNeg (l3 - 1))) + 1)) f9 f10 hF _ _ _ hP hD hS (lv_sub hl [1, 2, 3, 0] rfl)
    · intro l1 l2 l3 l4 s0 x0_22 x0_27 x0_28 f2 f7 f8 f9 f10 hF H locs ls hP hD hS hl
      have hF : B_Model_search_1 (F_Model_search x0_15 x0_16 f1 f3 f4 f5 f6 f11 f12 n) x0_15 x0_16 f1 f3 f4 f5 f6 f11 f12 l1 l2 l3 l4 s0 x0_22 x0_27 x0_28 f2 f7 f8 f9 f10 = some (ox0_22, ox0_27, ox0_28, of2, of7, of8, of9, of10) := hF
      unfold B_Model_search_1 at hF
      refine lv_iconst (v := 1) hx hb d_Model_search_91 (by decide) ?_
      refine lv_goto (tgt := 96) hx hb d_Model_search_92 (by decide) ?_
      exact ih.2.2.2 l1 l2 l3 l4 1 x0_22 x0_27 x0_28 f2 f7 f8 f9 f10 hF _ _ _ hP hD hS (lv_sub hl [0, 1, 2, 3, 4] rfl)
    · intro l1 l2 l3 l4 s0 x0_22 x0_27 x0_28 f2 f7 f8 f9 f10 hF H locs ls hP hD hS hl
      have hF : B_Model_search_2 (F_Model_search x0_15 x0_16 f1 f3 f4 f5 f6 f11 f12 n) x0_15 x0_16 f1 f3 f4 f5 f6 f11 f12 l1 l2 l3 l4 s0 x0_22 x0_27 x0_28 f2 f7 f8 f9 f10 = some (ox0_22, ox0_27, ox0_28, of2, of7, of8, of9, of10) := hF
      unfold B_Model_search_2 at hF
      refine lv_iconst (v := 0) hx hb d_Model_search_95 (by decide) ?_
      exact ih.2.2.2 l1 l2 l3 l4 0 x0_22 x0_27 x0_28 f2 f7 f8 f9 f10 hF _ _ _ hP hD hS (lv_sub hl [0, 1, 2, 3, 4] rfl)
    · intro l1 l2 l3 l4 s0 x0_22 x0_27 x0_28 f2 f7 f8 f9 f10 hF H locs ls hP hD hS hl
      have hF : B_Model_search_3 (F_Model_search x0_15 x0_16 f1 f3 f4 f5 f6 f11 f12 n) x0_15 x0_16 f1 f3 f4 f5 f6 f11 f12 l1 l2 l3 l4 s0 x0_22 x0_27 x0_28 f2 f7 f8 f9 f10 = some (ox0_22, ox0_27, ox0_28, of2, of7, of8, of9, of10) := hF
      unfold B_Model_search_3 at hF
      refine lv_istore (lv' := [(5, .int s0), (0, .ref a0), (1, .int l1), (2, .int l2), (3, .int l3), (4, .int l4)]) hx hb d_Model_search_96 hl (by decide) rfl (fun ls hl => ?_)
      refine lv_iload hx hb d_Model_search_98 (lv_at hl 0 rfl) ?_
      refine lv_if_eq (tgt := 131) hx hb d_Model_search_100 (by decide) (fun c_13 => ?_) (fun c_13 => ?_)
      · rw [if_pos c_13] at hF
        refine lv_iload hx hb d_Model_search_131 (lv_at hl 0 rfl) ?_
        refine lv_if_eq (tgt := 152) hx hb d_Model_search_133 (by decide) (fun c_14 => ?_) (fun c_14 => ?_)
        · rw [if_pos c_14] at hF
          refine lv_goto (tgt := 9) hx hb d_Model_search_152 (by decide) ?_
          exact ih.1 l1 l2 l3 0 0 x0_22 x0_27 x0_28 f2 f7 f8 f9 f10 hF _ _ _ hP hD hS (lv_sub hl [1, 2, 3, 4] rfl)
        · rw [if_neg c_14] at hF
          refine lv_iload_n hx hb d_Model_search_136 rfl (lv_at hl 4 rfl) ?_
          refine lv_bipush (v := 7) hx hb d_Model_search_137 (by decide) ?_
          refine lv_icmp_ge (tgt := 152) hx hb d_Model_search_139 (by decide) (fun c_15 => ?_) (fun c_15 => ?_)
          · rw [if_pos c_15] at hF
            refine lv_goto (tgt := 9) hx hb d_Model_search_152 (by decide) ?_
            exact ih.1 l1 l2 l3 0 0 x0_22 x0_27 x0_28 f2 f7 f8 f9 f10 hF _ _ _ hP hD hS (lv_sub hl [1, 2, 3, 4] rfl)
          · rw [if_neg c_15] at hF
            refine lv_aload_n hx hb d_Model_search_142 rfl (lv_at hl 1 rfl) ?_
            refine va_get (D := (dC, dI)) (ci := 9) (v := .ref a8) (C := R_Model) (T := F_Model) (N := 29) hx hb hg iw_Model hown hK hP 0 rfl rfl 26 (by decide) (hg _ gw_342) (fun _ h9 => h9) rfl d_Model_search_143 ?_
            refine lv_iload_n hx hb d_Model_search_146 rfl (lv_at hl 4 rfl) ?_
            refine lv_iconst (v := (-1)) hx hb d_Model_search_147 (by decide) ?_
            obtain ⟨h_16, hF⟩ := rd_chk hF
            refine va_iast hx hb hK hP hD hS 8 0 rfl rfl h_16 d_Model_search_148 (fun H locs hP hD hS => ?_)
            have hP : va_P (dC, dI) classes (wd_Model_search kA a0 a1 a2 a3 a4 a5 a6 a7 a8 a9 a10 a11 a12 v0_0 v0_1 v0_2 v0_3 v0_6 v0_7 v0_8 v0_9 v0_10 v0_11 v0_12 v0_23 x0_15 x0_16 x0_22 x0_27 x0_28 f1 f2 f3 f4 f5 f6 f7 (upd f8 (Int32.toNatClampNeg l3) (-1)) f9 f10 f11 f12) H := hP
            have hD : va_D A (wd_Model_search kA a0 a1 a2 a3 a4 a5 a6 a7 a8 a9 a10 a11 a12 v0_0 v0_1 v0_2 v0_3 v0_6 v0_7 v0_8 v0_9 v0_10 v0_11 v0_12 v0_23 x0_15 x0_16 x0_22 x0_27 x0_28 f1 f2 f3 f4 f5 f6 f7 (upd f8 (Int32.toNatClampNeg l3) (-1)) f9 f10 f11 f12) := hD
            refine lv_iinc (v := (l3 + 1)) (lv' := [(3, .int (l3 + 1)), (5, .int s0), (0, .ref a0), (1, .int l1), (2, .int l2), (4, .int l4)]) hx hb d_Model_search_149 hl (k := 4) rfl (by rfl) (by decide) rfl (fun ls hl => ?_)
            refine lv_goto (tgt := 9) hx hb d_Model_search_152 (by decide) ?_
            exact ih.1 l1 l2 (l3 + 1) 0 0 x0_22 x0_27 x0_28 f2 f7 (upd f8 (Int32.toNatClampNeg l3) (-1)) f9 f10 hF _ _ _ hP hD hS (lv_sub hl [2, 3, 4, 0] rfl)
      · rw [if_neg c_13] at hF
        refine lv_iload hx hb d_Model_search_103 (lv_at hl 5 rfl) ?_
        refine lv_iload_n hx hb d_Model_search_105 rfl (lv_at hl 2 rfl) ?_
        refine lv_icmp_ne (tgt := 131) hx hb d_Model_search_106 (by decide) (fun c_17 => ?_) (fun c_17 => ?_)
        · rw [if_pos c_17] at hF
          refine lv_iload hx hb d_Model_search_131 (lv_at hl 0 rfl) ?_
          refine lv_if_eq (tgt := 152) hx hb d_Model_search_133 (by decide) (fun c_18 => ?_) (fun c_18 => ?_)
          · rw [if_pos c_18] at hF
            refine lv_goto (tgt := 9) hx hb d_Model_search_152 (by decide) ?_
            exact ih.1 l1 l2 l3 0 0 x0_22 x0_27 x0_28 f2 f7 f8 f9 f10 hF _ _ _ hP hD hS (lv_sub hl [1, 2, 3, 4] rfl)
          · rw [if_neg c_18] at hF
            refine lv_iload_n hx hb d_Model_search_136 rfl (lv_at hl 4 rfl) ?_
            refine lv_bipush (v := 7) hx hb d_Model_search_137 (by decide) ?_
            refine lv_icmp_ge (tgt := 152) hx hb d_Model_search_139 (by decide) (fun c_19 => ?_) (fun c_19 => ?_)
            · rw [if_pos c_19] at hF
              refine lv_goto (tgt := 9) hx hb d_Model_search_152 (by decide) ?_
              exact ih.1 l1 l2 l3 0 0 x0_22 x0_27 x0_28 f2 f7 f8 f9 f10 hF _ _ _ hP hD hS (lv_sub hl [1, 2, 3, 4] rfl)
            · rw [if_neg c_19] at hF
              refine lv_aload_n hx hb d_Model_search_142 rfl (lv_at hl 1 rfl) ?_
              refine va_get (D := (dC, dI)) (ci := 9) (v := .ref a8) (C := R_Model) (T := F_Model) (N := 29) hx hb hg iw_Model hown hK hP 0 rfl rfl 26 (by decide) (hg _ gw_342) (fun _ h9 => h9) rfl d_Model_search_143 ?_
              refine lv_iload_n hx hb d_Model_search_146 rfl (lv_at hl 4 rfl) ?_
              refine lv_iconst (v := (-1)) hx hb d_Model_search_147 (by decide) ?_
              obtain ⟨h_20, hF⟩ := rd_chk hF
              refine va_iast hx hb hK hP hD hS 8 0 rfl rfl h_20 d_Model_search_148 (fun H locs hP hD hS => ?_)
              have hP : va_P (dC, dI) classes (wd_Model_search kA a0 a1 a2 a3 a4 a5 a6 a7 a8 a9 a10 a11 a12 v0_0 v0_1 v0_2 v0_3 v0_6 v0_7 v0_8 v0_9 v0_10 v0_11 v0_12 v0_23 x0_15 x0_16 x0_22 x0_27 x0_28 f1 f2 f3 f4 f5 f6 f7 (upd f8 (Int32.toNatClampNeg l3) (-1)) f9 f10 f11 f12) H := hP
              have hD : va_D A (wd_Model_search kA a0 a1 a2 a3 a4 a5 a6 a7 a8 a9 a10 a11 a12 v0_0 v0_1 v0_2 v0_3 v0_6 v0_7 v0_8 v0_9 v0_10 v0_11 v0_12 v0_23 x0_15 x0_16 x0_22 x0_27 x0_28 f1 f2 f3 f4 f5 f6 f7 (upd f8 (Int32.toNatClampNeg l3) (-1)) f9 f10 f11 f12) := hD
              refine lv_iinc (v := (l3 + 1)) (lv' := [(3, .int (l3 + 1)), (5, .int s0), (0, .ref a0), (1, .int l1), (2, .int l2), (4, .int l4)]) hx hb d_Model_search_149 hl (k := 4) rfl (by rfl) (by decide) rfl (fun ls hl => ?_)
              refine lv_goto (tgt := 9) hx hb d_Model_search_152 (by decide) ?_
              exact ih.1 l1 l2 (l3 + 1) 0 0 x0_22 x0_27 x0_28 f2 f7 (upd f8 (Int32.toNatClampNeg l3) (-1)) f9 f10 hF _ _ _ hP hD hS (lv_sub hl [2, 3, 4, 0] rfl)
        · rw [if_neg (fun z => z c_17)] at hF
          refine lv_aload_n hx hb d_Model_search_109 rfl (lv_at hl 1 rfl) ?_
          refine va_get (D := (dC, dI)) (ci := 9) (v := .ref a8) (C := R_Model) (T := F_Model) (N := 29) hx hb hg iw_Model hown hK hP 0 rfl rfl 26 (by decide) (hg _ gw_342) (fun _ h9 => h9) rfl d_Model_search_110 ?_
          refine lv_iload_n hx hb d_Model_search_113 rfl (lv_at hl 4 rfl) ?_
          refine lv_iconst (v := 1) hx hb d_Model_search_114 (by decide) ?_
          refine lv_isub hx hb d_Model_search_115 ?_
          obtain ⟨h_21, hF⟩ := rd_chk hF
          refine va_iald hx hb hK hP 8 0 rfl rfl h_21 d_Model_search_116 ?_
          refine lv_bipush (v := 7) hx hb d_Model_search_117 (by decide) ?_
          refine lv_icmp_eq (tgt := 152) hx hb d_Model_search_119 (by decide) (fun c_22 => ?_) (fun c_22 => ?_)
          · rw [if_pos c_22] at hF
            refine lv_goto (tgt := 9) hx hb d_Model_search_152 (by decide) ?_
            exact ih.1 l1 l2 l3 0 0 x0_22 x0_27 x0_28 f2 f7 f8 f9 f10 hF _ _ _ hP hD hS (lv_sub hl [1, 2, 3, 4] rfl)
          · rw [if_neg c_22] at hF
            refine lv_aload_n hx hb d_Model_search_122 rfl (lv_at hl 1 rfl) ?_
            refine lv_iload_n hx hb d_Model_search_123 rfl (lv_at hl 4 rfl) ?_
            refine lv_iload_n hx hb d_Model_search_124 rfl (lv_at hl 3 rfl) ?_
            obtain ⟨u_23, hS_23, hF⟩ := rd_bind hF
            have hPc := hP.sub (ws' := (wd_Model_note kA a0 a1 a2 a3 a4 a5 a7 a8 a9 a10 a12 v0_0 v0_1 v0_2 v0_3 v0_6 v0_7 v0_8 v0_9 v0_10 v0_11 v0_12 (.int x0_16) (.ref a6) (.ref a11) v0_23 x0_15 x0_22 x0_27 x0_28 f1 f2 f3 f4 f5 f7 f8 f9 f10 f12)) [0, 1, 2, 3, 4, 5, 7, 8, 9, 10, 12] rfl
            have hDc := hD.sub (ws' := (wd_Model_note kA a0 a1 a2 a3 a4 a5 a7 a8 a9 a10 a12 v0_0 v0_1 v0_2 v0_3 v0_6 v0_7 v0_8 v0_9 v0_10 v0_11 v0_12 (.int x0_16) (.ref a6) (.ref a11) v0_23 x0_15 x0_22 x0_27 x0_28 f1 f2 f3 f4 f5 f7 f8 f9 f10 f12)) [0, 1, 2, 3, 4, 5, 7, 8, 9, 10, 12] (by decide) rfl
            have hFc := va_free (wc := (wd_Model_note kA a0 a1 a2 a3 a4 a5 a7 a8 a9 a10 a12 v0_0 v0_1 v0_2 v0_3 v0_6 v0_7 v0_8 v0_9 v0_10 v0_11 v0_12 (.int x0_16) (.ref a6) (.ref a11) v0_23 x0_15 x0_22 x0_27 x0_28 f1 f2 f3 f4 f5 f7 f8 f9 f10 f12)) hD hS hA [0, 1, 2, 3, 4, 5, 7, 8, 9, 10, 12] rfl
            refine va_callv (va_runV (As := [.int l3, .int l2]) (rest := []) ⟨hx, hb, hml, hown, hts⟩ (c_Model_note l dC dI kA H.size a0 a1 a2 a3 a4 a5 a7 a8 a9 a10 a12 v0_0 v0_1 v0_2 v0_3 v0_6 v0_7 v0_8 v0_9 v0_10 v0_11 v0_12 (.int x0_16) (.ref a6) (.ref a11) v0_23 l3 l2 x0_15 x0_22 x0_27 x0_28 f1 f2 f3 f4 f5 f7 f8 f9 f10 f12 u_23.1 u_23.2.1 u_23.2.2.1 u_23.2.2.2.1 u_23.2.2.2.2 hS_23) (cwV 2 hts (gw_V gw_351 gw_352 gw_353 gw_267 gw_354) rfl rfl rfl (by decide +kernel) ⟨Nat.le_of_ble_eq_true rfl, Nat.le_of_ble_eq_true rfl⟩) ⟨fun a U g mk q => by obtain ⟨q0, q1, qP, qK, qD⟩ := q; exact ⟨q0, q1, qP, va_K.moved (u := U) (U := U.calling g mk a) (Vm.Alike.refl U.vm) qK, qD⟩, va_recv hK hP (ci := 9) (q0 := 0) rfl rfl, fun U hU hW => ⟨rfl, by rw [hU], by rw [hU]; exact hPc, va_K.moved hW.alike hK, hDc.weaken (fun _ _ _ _ => trivial)⟩⟩ rfl rfl hl.1 rfl (lv_room (Nat.le_of_ble_eq_true rfl)) d_Model_search_125 ⟨Nat.zero_le _, Nat.zero_le _⟩) hS (fun q _ h => hFc q h) hFc (fun u t H1 locs ht hvm hw hB hz1 hk1 hS => ?_)
            obtain ⟨hP1, hK1, hD1⟩ := hB
            rw [ht] at hP1
            obtain ⟨hP, hD⟩ := va_join (wr := [(a6, .inl (kA 0, 6, .inl f6)), (a11, .inl (kA 0, 6, .inl f11))]) (w1 := (wd_Model_note kA a0 a1 a2 a3 a4 a5 a7 a8 a9 a10 a12 v0_0 v0_1 v0_2 v0_3 v0_6 v0_7 v0_8 v0_9 v0_10 v0_11 v0_12 (.int x0_16) (.ref a6) (.ref a11) v0_23 x0_15 u_23.1 x0_27 x0_28 f1 u_23.2.1 f3 f4 f5 u_23.2.2.1 f8 u_23.2.2.2.1 u_23.2.2.2.2 f12)) hP hD [0, 1, 2, 3, 4, 5, 7, 8, 9, 10, 12] [6, 11] rfl rfl (by decide) (by decide) hk1 hFc hP1 hD1
            have hP := hP.sub (ws' := (wd_Model_search kA a0 a1 a2 a3 a4 a5 a6 a7 a8 a9 a10 a11 a12 v0_0 v0_1 v0_2 v0_3 v0_6 v0_7 v0_8 v0_9 v0_10 v0_11 v0_12 v0_23 x0_15 x0_16 u_23.1 x0_27 x0_28 f1 u_23.2.1 f3 f4 f5 f6 u_23.2.2.1 f8 u_23.2.2.2.1 u_23.2.2.2.2 f11 f12)) [2, 3, 4, 5, 6, 7, 0, 8, 9, 10, 11, 1, 12] rfl
            have hD := hD.sub (ws' := (wd_Model_search kA a0 a1 a2 a3 a4 a5 a6 a7 a8 a9 a10 a11 a12 v0_0 v0_1 v0_2 v0_3 v0_6 v0_7 v0_8 v0_9 v0_10 v0_11 v0_12 v0_23 x0_15 x0_16 u_23.1 x0_27 x0_28 f1 u_23.2.1 f3 f4 f5 f6 u_23.2.2.1 f8 u_23.2.2.2.1 u_23.2.2.2.2 f11 f12)) [2, 3, 4, 5, 6, 7, 0, 8, 9, 10, 11, 1, 12] (by decide) rfl
            clear hPc hDc hFc hP1 hK1 hD1
            generalize H1 = H at hP hS ⊢
            refine lv_goto (tgt := 152) hx hb d_Model_search_128 (by decide) ?_
            refine lv_goto (tgt := 9) hx hb d_Model_search_152 (by decide) ?_
            exact ih.1 l1 l2 l3 0 0 u_23.1 x0_27 x0_28 u_23.2.1 u_23.2.2.1 f8 u_23.2.2.2.1 u_23.2.2.2.2 hF _ _ _ hP hD hS (lv_sub hl [1, 2, 3, 4] rfl)
def S_Model_search (p1 : Int32) (p2 : Int32) (x0_15 : Int32) (x0_16 : Int32) (x0_22 : Int32) (x0_27 : Int32) (x0_28 : Int32) (f1 : (Nat → Int32)) (f2 : (Nat → Int32)) (f3 : (Nat → Int32)) (f4 : (Nat → Int32)) (f5 : (Nat → Int32)) (f6 : (Nat → Int32)) (f7 : (Nat → Int32)) (f8 : (Nat → Int32)) (f9 : (Nat → Int32)) (f10 : (Nat → Int32)) (f11 : (Nat → Int32)) (f12 : (Nat → Int32)) : Option (Int32 × Int32 × Int32 × (Nat → Int32) × (Nat → Int32) × (Nat → Int32) × (Nat → Int32) × (Nat → Int32)) := (if (0 : Int32) < 0 ∨ 8 ≤ (Int32.toNatClampNeg 0) then none else (F_Model_search x0_15 x0_16 f1 f3 f4 f5 f6 f11 f12 fuel_ 0 p1 p2 1 0 0 x0_22 x0_27 x0_28 f2 f7 (upd f8 (Int32.toNatClampNeg 0) (-1)) f9 f10))
set_option maxHeartbeats 4000000 in
set_option maxRecDepth 100000 in
theorem c_Model_search (l : Launch) (dC : Nat → ClassId) (dI : Nat → Nat → Nat) (kA : Nat → ClassId) (sz : Nat) (a0 a1 a2 a3 a4 a5 a6 a7 a8 a9 a10 a11 a12 : Nat) (v0_0 v0_1 v0_2 v0_3 v0_6 v0_7 v0_8 v0_9 v0_10 v0_11 v0_12 v0_23 : Value) (p1 : Int32) (p2 : Int32) (x0_15 : Int32) (x0_16 : Int32) (x0_22 : Int32) (x0_27 : Int32) (x0_28 : Int32) (f1 : (Nat → Int32)) (f2 : (Nat → Int32)) (f3 : (Nat → Int32)) (f4 : (Nat → Int32)) (f5 : (Nat → Int32)) (f6 : (Nat → Int32)) (f7 : (Nat → Int32)) (f8 : (Nat → Int32)) (f9 : (Nat → Int32)) (f10 : (Nat → Int32)) (f11 : (Nat → Int32)) (f12 : (Nat → Int32)) (ox0_22 : Int32) (ox0_27 : Int32) (ox0_28 : Int32) (of2 : (Nat → Int32)) (of7 : (Nat → Int32)) (of8 : (Nat → Int32)) (of9 : (Nat → Int32)) (of10 : (Nat → Int32)) (hF : S_Model_search p1 p2 x0_15 x0_16 x0_22 x0_27 x0_28 f1 f2 f3 f4 f5 f6 f7 f8 f9 f10 f11 f12 = some (ox0_22, ox0_27, ox0_28, of2, of7, of8, of9, of10)) : Met l y_Model_search w_Model_search rm_Model_search (va_Pc [.ref a0, .int p1, .int p2] (fun U => U.heap.size = sz ∧ va_P (dC, dI) classes (wd_Model_search kA a0 a1 a2 a3 a4 a5 a6 a7 a8 a9 a10 a11 a12 v0_0 v0_1 v0_2 v0_3 v0_6 v0_7 v0_8 v0_9 v0_10 v0_11 v0_12 v0_23 x0_15 x0_16 x0_22 x0_27 x0_28 f1 f2 f3 f4 f5 f6 f7 f8 f9 f10 f11 f12) U.heap ∧ va_K (dC, dI) classes (tys_ kA) U ∧ va_D (fun _ => True) (wd_Model_search kA a0 a1 a2 a3 a4 a5 a6 a7 a8 a9 a10 a11 a12 v0_0 v0_1 v0_2 v0_3 v0_6 v0_7 v0_8 v0_9 v0_10 v0_11 v0_12 v0_23 x0_15 x0_16 x0_22 x0_27 x0_28 f1 f2 f3 f4 f5 f6 f7 f8 f9 f10 f11 f12))) (va_Qv (fun (_ : Unit) => True) (fun _ t => va_P (dC, dI) classes (wd_Model_search kA a0 a1 a2 a3 a4 a5 a6 a7 a8 a9 a10 a11 a12 v0_0 v0_1 v0_2 v0_3 v0_6 v0_7 v0_8 v0_9 v0_10 v0_11 v0_12 v0_23 x0_15 x0_16 ox0_22 ox0_27 ox0_28 f1 of2 f3 f4 f5 f6 of7 of8 of9 of10 f11 f12) t.heap ∧ va_K (dC, dI) classes (tys_ kA) t ∧ va_D (va_A (wd_Model_search kA a0 a1 a2 a3 a4 a5 a6 a7 a8 a9 a10 a11 a12 v0_0 v0_1 v0_2 v0_3 v0_6 v0_7 v0_8 v0_9 v0_10 v0_11 v0_12 v0_23 x0_15 x0_16 x0_22 x0_27 x0_28 f1 f2 f3 f4 f5 f6 f7 f8 f9 f10 f11 f12) sz) (wd_Model_search kA a0 a1 a2 a3 a4 a5 a6 a7 a8 a9 a10 a11 a12 v0_0 v0_1 v0_2 v0_3 v0_6 v0_7 v0_8 v0_9 v0_10 v0_11 v0_12 v0_23 x0_15 x0_16 ox0_22 ox0_27 ox0_28 f1 of2 f3 f4 f5 f6 of7 of8 of9 of10 f11 f12)) (va_A (wd_Model_search kA a0 a1 a2 a3 a4 a5 a6 a7 a8 a9 a10 a11 a12 v0_0 v0_1 v0_2 v0_3 v0_6 v0_7 v0_8 v0_9 v0_10 v0_11 v0_12 v0_23 x0_15 x0_16 x0_22 x0_27 x0_28 f1 f2 f3 f4 f5 f6 f7 f8 f9 f10 f11 f12) sz)) 0 0 (va_A (wd_Model_search kA a0 a1 a2 a3 a4 a5 a6 a7 a8 a9 a10 a11 a12 v0_0 v0_1 v0_2 v0_3 v0_6 v0_7 v0_8 v0_9 v0_10 v0_11 v0_12 v0_23 x0_15 x0_16 x0_22 x0_27 x0_28 f1 f2 f3 f4 f5 f6 f7 f8 f9 f10 f11 f12) sz) := by
  refine Met.ofW (cc := b_Model_search) (maxL := 6) (ret := none) (by decide) rfl ?_
  intro p e s m args below meth c s₁ B hml hv
  obtain ⟨rfl, hsz, hP, hK, hD0⟩ := hv
  have hx := B.exec
  have hb := B.bytes
  have hr := B.returns
  have hts := atoms_spec (ws := w_Model_search) B.pre
  have hown : s.vm.findClass R_Model = some m.cls := findClass_of_methodNamed B.named
  have hg := fun (w : Cond) (h : w ∈ gw) => hts w (List.mem_cons_of_mem _ h)
  have hlocks := B.notSynchronized
  subst hsz
  have hD := hD0.self (sz := s.heap.size)
  generalize hAe : va_A (wd_Model_search kA a0 a1 a2 a3 a4 a5 a6 a7 a8 a9 a10 a11 a12 v0_0 v0_1 v0_2 v0_3 v0_6 v0_7 v0_8 v0_9 v0_10 v0_11 v0_12 v0_23 x0_15 x0_16 x0_22 x0_27 x0_28 f1 f2 f3 f4 f5 f6 f7 f8 f9 f10 f11 f12) s.heap.size = A at hD ⊢
  have hA : ∀ q : Nat, s.heap.size ≤ q → A q := fun q h => by rw [← hAe]; exact Or.inr h
  have hS : va_S A s.heap s.heap [] := va_S.rf
  have hl := lv_entry ([.ref a0, .int p1, .int p2]) (n := 6) (Nat.le_of_ble_eq_true rfl)
  rw [lg_entry_eq]
  generalize (lg_sl ([.ref a0, .int p1, .int p2]) ++ List.replicate (6 - (lg_sl ([.ref a0, .int p1, .int p2])).length) Slot.unset).toArray = ls at hl ⊢
  have hl : lv_has ls 6 [(0, .ref a0), (1, .int p1), (2, .int p2)] := hl
  unfold S_Model_search at hF
  have ih := L_Model_search (l := l) (e := e) (below := below) hx hb hr hlocks hml hown hts hA hK a0 a1 a2 a3 a4 a5 a6 a7 a8 a9 a10 a11 a12 v0_0 v0_1 v0_2 v0_3 v0_6 v0_7 v0_8 v0_9 v0_10 v0_11 v0_12 v0_23 x0_15 x0_16 f1 f3 f4 f5 f6 f11 f12 ox0_22 ox0_27 ox0_28 of2 of7 of8 of9 of10 fuel_
  refine lv_iconst (v := 1) hx hb d_Model_search_0 (by decide) ?_
  refine lv_istore_n (lv' := [(3, .int 1), (0, .ref a0), (1, .int p1), (2, .int p2)]) hx hb d_Model_search_1 rfl hl (by decide) rfl (fun ls hl => ?_)
  refine lv_aload_n hx hb d_Model_search_2 rfl (lv_at hl 1 rfl) ?_
  refine va_get (D := (dC, dI)) (ci := 9) (v := .ref a8) (C := R_Model) (T := F_Model) (N := 29) hx hb hg iw_Model hown hK hP 0 rfl rfl 26 (by decide) (hg _ gw_342) (fun _ h9 => h9) rfl d_Model_search_3 ?_
  refine lv_iconst (v := 0) hx hb d_Model_search_6 (by decide) ?_
  refine lv_iconst (v := (-1)) hx hb d_Model_search_7 (by decide) ?_
  obtain ⟨h_24, hF⟩ := rd_chk hF
  refine va_iast hx hb hK hP hD hS 8 0 rfl rfl h_24 d_Model_search_8 (fun H locs hP hD hS => ?_)
  have hP : va_P (dC, dI) classes (wd_Model_search kA a0 a1 a2 a3 a4 a5 a6 a7 a8 a9 a10 a11 a12 v0_0 v0_1 v0_2 v0_3 v0_6 v0_7 v0_8 v0_9 v0_10 v0_11 v0_12 v0_23 x0_15 x0_16 x0_22 x0_27 x0_28 f1 f2 f3 f4 f5 f6 f7 (upd f8 (Int32.toNatClampNeg 0) (-1)) f9 f10 f11 f12) H := hP
  have hD : va_D A (wd_Model_search kA a0 a1 a2 a3 a4 a5 a6 a7 a8 a9 a10 a11 a12 v0_0 v0_1 v0_2 v0_3 v0_6 v0_7 v0_8 v0_9 v0_10 v0_11 v0_12 v0_23 x0_15 x0_16 x0_22 x0_27 x0_28 f1 f2 f3 f4 f5 f6 f7 (upd f8 (Int32.toNatClampNeg 0) (-1)) f9 f10 f11 f12) := hD
  exact ih.1 p1 p2 1 0 0 x0_22 x0_27 x0_28 f2 f7 (upd f8 (Int32.toNatClampNeg 0) (-1)) f9 f10 hF _ _ _ hP hD hS (lv_sub hl [1, 2, 3, 0] rfl)
-- ===== RepairDeskModel.repair(I)I
abbrev wd_Model_repair (kA : Nat → ClassId) (a0 a1 a2 a3 a4 a5 a6 a7 a8 a9 a10 a11 a12 : Nat) (v0_1 v0_2 v0_3 v0_6 v0_7 v0_8 v0_9 v0_10 v0_11 : Value) (x0_0 : Int32) (x0_12 : Int32) (x0_15 : Int32) (x0_16 : Int32) (x0_22 : Int32) (x0_23 : Int32) (x0_27 : Int32) (x0_28 : Int32) (f1 : (Nat → Int32)) (f2 : (Nat → Int32)) (f3 : (Nat → Int32)) (f4 : (Nat → Int32)) (f5 : (Nat → Int32)) (f6 : (Nat → Int32)) (f7 : (Nat → Int32)) (f8 : (Nat → Int32)) (f9 : (Nat → Int32)) (f10 : (Nat → Int32)) (f11 : (Nat → Int32)) (f12 : (Nat → Int32)) : va_W := [(a0, .inr (9, [.int x0_0, v0_1, v0_2, v0_3, .ref a3, .ref a4, v0_6, v0_7, v0_8, v0_9, v0_10, v0_11, .int x0_12, .ref a1, .ref a5, .int x0_15, .int x0_16, .ref a12, .ref a2, .ref a9, .ref a6, .ref a11, .int x0_22, .int x0_23, .ref a10, .ref a7, .ref a8, .int x0_27, .int x0_28])), (a1, .inl (kA 0, 2310, .inl f1)), (a2, .inl (kA 0, 24, .inl f2)), (a3, .inl (kA 0, 11, .inl f3)), (a4, .inl (kA 0, 11, .inl f4)), (a5, .inl (kA 0, 492, .inl f5)), (a6, .inl (kA 0, 6, .inl f6)), (a7, .inl (kA 0, 40, .inl f7)), (a8, .inl (kA 0, 8, .inl f8)), (a9, .inl (kA 0, 400, .inl f9)), (a10, .inl (kA 0, 280, .inl f10)), (a11, .inl (kA 0, 6, .inl f11)), (a12, .inl (kA 0, 16, .inl f12))]
abbrev rm_Model_repair : Room := { frames := 4, cells := 0, slots := 0, locals := 101 }
def B_Model_repair_0 (K : Nat → Int32 → Int32 → Int32 → Int32 → Int32 → Int32 → Int32 → Int32 → Int32 → (Nat → Int32) → (Nat → Int32) → (Nat → Int32) → (Nat → Int32) → (Nat → Int32) → Option (Int32 × Int32 × Int32 × Int32 × Int32 × Int32 × Int32 × (Nat → Int32) × (Nat → Int32) × (Nat → Int32) × (Nat → Int32) × (Nat → Int32))) (x0_12 : Int32) (x0_15 : Int32) (f1 : (Nat → Int32)) (f3 : (Nat → Int32)) (f4 : (Nat → Int32)) (f5 : (Nat → Int32)) (f6 : (Nat → Int32)) (f11 : (Nat → Int32)) (f12 : (Nat → Int32)) (l1 : Int32) (l2 : Int32) (s0 : Int32) (x0_0 : Int32) (x0_16 : Int32) (x0_22 : Int32) (x0_23 : Int32) (x0_27 : Int32) (x0_28 : Int32) (f2 : (Nat → Int32)) (f7 : (Nat → Int32)) (f8 : (Nat → Int32)) (f9 : (Nat → Int32)) (f10 : (Nat → Int32)) : Option (Int32 × Int32 × Int32 × Int32 × Int32 × Int32 × Int32 × (Nat → Int32) × (Nat → Int32) × (Nat → Int32) × (Nat → Int32) × (Nat → Int32)) := ((S_Model_forget x0_22 x0_23).bind fun u_1 => (if s0 ≤ 0 then ((S_Model_parsed x0_15 f1 f2 f3 f4 f5 f9 f12).bind fun u_3 => (if 0 ≤ u_3.1 then (K 1 l1 1 0 s0 u_3.1 u_1.1 u_1.2 x0_27 x0_28 u_3.2.1 f7 f8 u_3.2.2 f10) else (some (0, s0, u_3.1, u_1.1, u_1.2, x0_27, x0_28, u_3.2.1, f7, f8, u_3.2.2, f10)))) else (some (0, s0, x0_16, u_1.1, u_1.2, x0_27, x0_28, f2, f7, f8, f9, f10))))
def B_Model_repair_1 (K : Nat → Int32 → Int32 → Int32 → Int32 → Int32 → Int32 → Int32 → Int32 → Int32 → (Nat → Int32) → (Nat → Int32) → (Nat → Int32) → (Nat → Int32) → (Nat → Int32) → Option (Int32 × Int32 × Int32 × Int32 × Int32 × Int32 × Int32 × (Nat → Int32) × (Nat → Int32) × (Nat → Int32) × (Nat → Int32) × (Nat → Int32))) (x0_12 : Int32) (x0_15 : Int32) (f1 : (Nat → Int32)) (f3 : (Nat → Int32)) (f4 : (Nat → Int32)) (f5 : (Nat → Int32)) (f6 : (Nat → Int32)) (f11 : (Nat → Int32)) (f12 : (Nat → Int32)) (l1 : Int32) (l2 : Int32) (s0 : Int32) (x0_0 : Int32) (x0_16 : Int32) (x0_22 : Int32) (x0_23 : Int32) (x0_27 : Int32) (x0_28 : Int32) (f2 : (Nat → Int32)) (f7 : (Nat → Int32)) (f8 : (Nat → Int32)) (f9 : (Nat → Int32)) (f10 : (Nat → Int32)) : Option (Int32 × Int32 × Int32 × Int32 × Int32 × Int32 × Int32 × (Nat → Int32) × (Nat → Int32) × (Nat → Int32) × (Nat → Int32) × (Nat → Int32)) := (if 4 ≤ l2 then (if x0_22 ≤ 40 then (some (x0_22, x0_0, x0_16, x0_22, x0_23, x0_27, x0_28, f2, f7, f8, f9, f10)) else ((S_Model_forget x0_22 x0_23).bind fun u_7 => ((S_Model_fails 3 x0_0).bind fun u_8 => (some (u_8.1, u_8.2, x0_16, u_7.1, u_7.2, x0_27, x0_28, f2, f7, f8, f9, f10))))) else (if ¬ x0_22 = 0 then (if x0_22 ≤ 40 then (some (x0_22, x0_0, x0_16, x0_22, x0_23, x0_27, x0_28, f2, f7, f8, f9, f10)) else ((S_Model_forget x0_22 x0_23).bind fun u_11 => ((S_Model_fails 3 x0_0).bind fun u_12 => (some (u_12.1, u_12.2, x0_16, u_11.1, u_11.2, x0_27, x0_28, f2, f7, f8, f9, f10))))) else ((S_Model_search l2 l1 x0_15 x0_16 x0_22 x0_27 x0_28 f1 f2 f3 f4 f5 f6 f7 f8 f9 f10 f11 f12).bind fun u_13 => (if u_13.1 ≤ 0 then (K 1 l1 (l2 + 1) 0 x0_0 x0_16 u_13.1 0 u_13.2.1 u_13.2.2.1 u_13.2.2.2.1 u_13.2.2.2.2.1 u_13.2.2.2.2.2.1 u_13.2.2.2.2.2.2.1 u_13.2.2.2.2.2.2.2) else (K 1 l1 (l2 + 1) 0 x0_0 x0_16 u_13.1 l2 u_13.2.1 u_13.2.2.1 u_13.2.2.2.1 u_13.2.2.2.2.1 u_13.2.2.2.2.2.1 u_13.2.2.2.2.2.2.1 u_13.2.2.2.2.2.2.2)))))
def F_Model_repair (x0_12 : Int32) (x0_15 : Int32) (f1 : (Nat → Int32)) (f3 : (Nat → Int32)) (f4 : (Nat → Int32)) (f5 : (Nat → Int32)) (f6 : (Nat → Int32)) (f11 : (Nat → Int32)) (f12 : (Nat → Int32)) : Nat → Nat → Int32 → Int32 → Int32 → Int32 → Int32 → Int32 → Int32 → Int32 → Int32 → (Nat → Int32) → (Nat → Int32) → (Nat → Int32) → (Nat → Int32) → (Nat → Int32) → Option (Int32 × Int32 × Int32 × Int32 × Int32 × Int32 × Int32 × (Nat → Int32) × (Nat → Int32) × (Nat → Int32) × (Nat → Int32) × (Nat → Int32))
  | 0 => fun _ _ _ _ _ _ _ _ _ _ _ _ _ _ _ => none
  | n + 1 => fun hd l1 l2 s0 x0_0 x0_16 x0_22 x0_23 x0_27 x0_28 f2 f7 f8 f9 f10 => match hd with
    | 0 => B_Model_repair_0 (F_Model_repair x0_12 x0_15 f1 f3 f4 f5 f6 f11 f12 n) x0_12 x0_15 f1 f3 f4 f5 f6 f11 f12 l1 l2 s0 x0_0 x0_16 x0_22 x0_23 x0_27 x0_28 f2 f7 f8 f9 f10
    | 1 => B_Model_repair_1 (F_Model_repair x0_12 x0_15 f1 f3 f4 f5 f6 f11 f12 n) x0_12 x0_15 f1 f3 f4 f5 f6 f11 f12 l1 l2 s0 x0_0 x0_16 x0_22 x0_23 x0_27 x0_28 f2 f7 f8 f9 f10
    | _ => none
set_option maxHeartbeats 4000000 in
set_option maxRecDepth 100000 in
theorem L_Model_repair {p : Program} {l : Launch} {e : Env} {s : State} {m : MethodId} {args : Array Value} {below : List Frame} {meth : Method} {c : Code} {A : Nat → Prop} {dC : Nat → ClassId} {dI : Nat → Nat → Nat} {kA : Nat → ClassId} (hx : p.tables.exec = Jvm.exec) (hb : c.code = b_Model_repair) (hr : meth.sig.returnType = some .int) (hlocks : meth.locks = false) (hml : c.maxLocals = 3) (hown : s.vm.findClass R_Model = some m.cls) (hts : ∀ w ∈ w_Model_repair, w.before args s = true) (hA : ∀ q : Nat, s.heap.size ≤ q → A q) (hK : va_K (dC, dI) classes (tys_ kA) s) (a0 a1 a2 a3 a4 a5 a6 a7 a8 a9 a10 a11 a12 : Nat) (v0_1 v0_2 v0_3 v0_6 v0_7 v0_8 v0_9 v0_10 v0_11 : Value) (x0_12 : Int32) (x0_15 : Int32) (f1 : (Nat → Int32)) (f3 : (Nat → Int32)) (f4 : (Nat → Int32)) (f5 : (Nat → Int32)) (f6 : (Nat → Int32)) (f11 : (Nat → Int32)) (f12 : (Nat → Int32)) (r : Int32) (ox0_0 : Int32) (ox0_16 : Int32) (ox0_22 : Int32) (ox0_23 : Int32) (ox0_27 : Int32) (ox0_28 : Int32) (of2 : (Nat → Int32)) (of7 : (Nat → Int32)) (of8 : (Nat → Int32)) (of9 : (Nat → Int32)) (of10 : (Nat → Int32)) : ∀ n : Nat, (∀ (l1 l2 s0 : Int32) (x0_0 : Int32) (x0_16 : Int32) (x0_22 : Int32) (x0_23 : Int32) (x0_27 : Int32) (x0_28 : Int32) (f2 : (Nat → Int32)) (f7 : (Nat → Int32)) (f8 : (Nat → Int32)) (f9 : (Nat → Int32)) (f10 : (Nat → Int32)), F_Model_repair x0_12 x0_15 f1 f3 f4 f5 f6 f11 f12 n 0 l1 l2 s0 x0_0 x0_16 x0_22 x0_23 x0_27 x0_28 f2 f7 f8 f9 f10 = some (r, ox0_0, ox0_16, ox0_22, ox0_23, ox0_27, ox0_28, of2, of7, of8, of9, of10) → ∀ (H : Heap) (locs : List Loc) (ls : Array Slot), va_P (dC, dI) classes (wd_Model_repair kA a0 a1 a2 a3 a4 a5 a6 a7 a8 a9 a10 a11 a12 v0_1 v0_2 v0_3 v0_6 v0_7 v0_8 v0_9 v0_10 v0_11 x0_0 x0_12 x0_15 x0_16 x0_22 x0_23 x0_27 x0_28 f1 f2 f3 f4 f5 f6 f7 f8 f9 f10 f11 f12) H → va_D A (wd_Model_repair kA a0 a1 a2 a3 a4 a5 a6 a7 a8 a9 a10 a11 a12 v0_1 v0_2 v0_3 v0_6 v0_7 v0_8 v0_9 v0_10 v0_11 x0_0 x0_12 x0_15 x0_16 x0_22 x0_23 x0_27 x0_28 f1 f2 f3 f4 f5 f6 f7 f8 f9 f10 f11 f12) → va_S A s.heap H locs → lv_has ls 3 [(0, .ref a0), (1, .int l1)] → W p l e (headSpec w_Model_repair rm_Model_repair).room s m args below meth c H locs 0 0 (MQ below (va_Qi (fun (r1 : Int32) (_ : Unit) => r1 = r) (fun _ t => va_P (dC, dI) classes (wd_Model_repair kA a0 a1 a2 a3 a4 a5 a6 a7 a8 a9 a10 a11 a12 v0_1 v0_2 v0_3 v0_6 v0_7 v0_8 v0_9 v0_10 v0_11 ox0_0 x0_12 x0_15 ox0_16 ox0_22 ox0_23 ox0_27 ox0_28 f1 of2 f3 f4 f5 f6 of7 of8 of9 of10 f11 f12) t.heap ∧ va_K (dC, dI) classes (tys_ kA) t ∧ va_D A (wd_Model_repair kA a0 a1 a2 a3 a4 a5 a6 a7 a8 a9 a10 a11 a12 v0_1 v0_2 v0_3 v0_6 v0_7 v0_8 v0_9 v0_10 v0_11 ox0_0 x0_12 x0_15 ox0_16 ox0_22 ox0_23 ox0_27 ox0_28 f1 of2 f3 f4 f5 f6 of7 of8 of9 of10 f11 f12)) A) args s 0 0 A) (F0 m 26 ls [.int s0, .ref a0])) ∧ (∀ (l1 l2 s0 : Int32) (x0_0 : Int32) (x0_16 : Int32) (x0_22 : Int32) (x0_23 : Int32) (x0_27 : Int32) (x0_28 : Int32) (f2 : (Nat → Int32)) (f7 : (Nat → Int32)) (f8 : (Nat → Int32)) (f9 : (Nat → Int32)) (f10 : (Nat → Int32)), F_Model_repair x0_12 x0_15 f1 f3 f4 f5 f6 f11 f12 n 1 l1 l2 s0 x0_0 x0_16 x0_22 x0_23 x0_27 x0_28 f2 f7 f8 f9 f10 = some (r, ox0_0, ox0_16, ox0_22, ox0_23, ox0_27, ox0_28, of2, of7, of8, of9, of10) → ∀ (H : Heap) (locs : List Loc) (ls : Array Slot), va_P (dC, dI) classes (wd_Model_repair kA a0 a1 a2 a3 a4 a5 a6 a7 a8 a9 a10 a11 a12 v0_1 v0_2 v0_3 v0_6 v0_7 v0_8 v0_9 v0_10 v0_11 x0_0 x0_12 x0_15 x0_16 x0_22 x0_23 x0_27 x0_28 f1 f2 f3 f4 f5 f6 f7 f8 f9 f10 f11 f12) H → va_D A (wd_Model_repair kA a0 a1 a2 a3 a4 a5 a6 a7 a8 a9 a10 a11 a12 v0_1 v0_2 v0_3 v0_6 v0_7 v0_8 v0_9 v0_10 v0_11 x0_0 x0_12 x0_15 x0_16 x0_22 x0_23 x0_27 x0_28 f1 f2 f3 f4 f5 f6 f7 f8 f9 f10 f11 f12) → va_S A s.heap H locs → lv_has ls 3 [(0, .ref a0), (1, .int l1), (2, .int l2)] → W p l e (headSpec w_Model_repair rm_Model_repair).room s m args below meth c H locs 0 0 (MQ below (va_Qi (fun (r1 : Int32) (_ : Unit) => r1 = r) (fun _ t => va_P (dC, dI) classes (wd_Model_repair kA a0 a1 a2 a3 a4 a5 a6 a7 a8 a9 a10 a11 a12 v0_1 v0_2 v0_3 v0_6 v0_7 v0_8 v0_9 v0_10 v0_11 ox0_0 x0_12 x0_15 ox0_16 ox0_22 ox0_23 ox0_27 ox0_28 f1 of2 f3 f4 f5 f6 of7 of8 of9 of10 f11 f12) t.heap ∧ va_K (dC, dI) classes (tys_ kA) t ∧ va_D A (wd_Model_repair kA a0 a1 a2 a3 a4 a5 a6 a7 a8 a9 a10 a11 a12 v0_1 v0_2 v0_3 v0_6 v0_7 v0_8 v0_9 v0_10 v0_11 ox0_0 x0_12 x0_15 ox0_16 ox0_22 ox0_23 ox0_27 ox0_28 f1 of2 f3 f4 f5 f6 of7 of8 of9 of10 f11 f12)) A) args s 0 0 A) (F0 m 61 ls [])) := by
  have hg := fun (w : Cond) (h : w ∈ gw) => hts w (List.mem_cons_of_mem _ h)
  intro n
  induction n with
  | zero =>
    exact ⟨fun _ _ _ _ _ _ _ _ _ _ _ _ _ _ hF => absurd (show (none : Option _) = some _ from hF) (fun z => by cases z), fun _ _ _ _ _ _ _ _ _ _ _ _ _ _ hF => absurd (show (none : Option _) = some _ from hF) (fun z => by cases z)⟩
  | succ n ih =>
    refine ⟨?_, ?_⟩
    · intro l1 l2 s0 x0_0 x0_16 x0_22 x0_23 x0_27 x0_28 f2 f7 f8 f9 f10 hF H locs ls hP hD hS hl
      have hF : B_Model_repair_0 (F_Model_repair x0_12 x0_15 f1 f3 f4 f5 f6 f11 f12 n) x0_12 x0_15 f1 f3 f4 f5 f6 f11 f12 l1 l2 s0 x0_0 x0_16 x0_22 x0_23 x0_27 x0_28 f2 f7 f8 f9 f10 = some (r, ox0_0, ox0_16, ox0_22, ox0_23, ox0_27, ox0_28, of2, of7, of8, of9, of10) := hF
      unfold B_Model_repair_0 at hF
      refine va_put (D := (dC, dI)) (ci := 9) (v := .int s0) (ty := .int) (C := R_Model) (T := F_Model) (N := 29) hx hb hg iw_Model t_Model t_Model_ok n_Model hown hK hP hD hS 0 rfl rfl 0 (by decide) (hg _ gw_259) (fun _ h9 => h9) rfl (by decide +kernel) rfl rfl (Nat.le_of_ble_eq_true rfl) d_Model_repair_26 (fun H locs hP hD hS => ?_)
      have hP : va_P (dC, dI) classes (wd_Model_repair kA a0 a1 a2 a3 a4 a5 a6 a7 a8 a9 a10 a11 a12 v0_1 v0_2 v0_3 v0_6 v0_7 v0_8 v0_9 v0_10 v0_11 s0 x0_12 x0_15 x0_16 x0_22 x0_23 x0_27 x0_28 f1 f2 f3 f4 f5 f6 f7 f8 f9 f10 f11 f12) H := hP
      have hD : va_D A (wd_Model_repair kA a0 a1 a2 a3 a4 a5 a6 a7 a8 a9 a10 a11 a12 v0_1 v0_2 v0_3 v0_6 v0_7 v0_8 v0_9 v0_10 v0_11 s0 x0_12 x0_15 x0_16 x0_22 x0_23 x0_27 x0_28 f1 f2 f3 f4 f5 f6 f7 f8 f9 f10 f11 f12) := hD
      refine lv_aload_n hx hb d_Model_repair_29 rfl (lv_at hl 0 rfl) ?_
      obtain ⟨u_1, hS_1, hF⟩ := rd_bind hF
      have hPc := hP.sub (ws' := (wd_Model_forget kA a0 (.int s0) v0_1 v0_2 v0_3 (.ref a3) (.ref a4) v0_6 v0_7 v0_8 v0_9 v0_10 v0_11 (.int x0_12) (.ref a1) (.ref a5) (.int x0_15) (.int x0_16) (.ref a12) (.ref a2) (.ref a9) (.ref a6) (.ref a11) (.ref a10) (.ref a7) (.ref a8) (.int x0_27) (.int x0_28) x0_22 x0_23)) [0] rfl
      have hDc := hD.sub (ws' := (wd_Model_forget kA a0 (.int s0) v0_1 v0_2 v0_3 (.ref a3) (.ref a4) v0_6 v0_7 v0_8 v0_9 v0_10 v0_11 (.int x0_12) (.ref a1) (.ref a5) (.int x0_15) (.int x0_16) (.ref a12) (.ref a2) (.ref a9) (.ref a6) (.ref a11) (.ref a10) (.ref a7) (.ref a8) (.int x0_27) (.int x0_28) x0_22 x0_23)) [0] (by decide) rfl
      have hFc := va_free (wc := (wd_Model_forget kA a0 (.int s0) v0_1 v0_2 v0_3 (.ref a3) (.ref a4) v0_6 v0_7 v0_8 v0_9 v0_10 v0_11 (.int x0_12) (.ref a1) (.ref a5) (.int x0_15) (.int x0_16) (.ref a12) (.ref a2) (.ref a9) (.ref a6) (.ref a11) (.ref a10) (.ref a7) (.ref a8) (.int x0_27) (.int x0_28) x0_22 x0_23)) hD hS hA [0] rfl
      refine va_callv (va_runV (As := []) (rest := []) ⟨hx, hb, hml, hown, hts⟩ (c_Model_forget l dC dI kA H.size a0 (.int s0) v0_1 v0_2 v0_3 (.ref a3) (.ref a4) v0_6 v0_7 v0_8 v0_9 v0_10 v0_11 (.int x0_12) (.ref a1) (.ref a5) (.int x0_15) (.int x0_16) (.ref a12) (.ref a2) (.ref a9) (.ref a6) (.ref a11) (.ref a10) (.ref a7) (.ref a8) (.int x0_27) (.int x0_28) x0_22 x0_23 u_1.1 u_1.2 hS_1) (cwV 0 hts (gw_V gw_281 gw_282 gw_283 gw_267 gw_284) rfl rfl rfl (by decide +kernel) ⟨Nat.le_of_ble_eq_true rfl, Nat.le_of_ble_eq_true rfl⟩) ⟨fun a U g mk q => by obtain ⟨q0, q1, qP, qK, qD⟩ := q; exact ⟨q0, q1, qP, va_K.moved (u := U) (U := U.calling g mk a) (Vm.Alike.refl U.vm) qK, qD⟩, va_recv hK hP (ci := 9) (q0 := 0) rfl rfl, fun U hU hW => ⟨rfl, by rw [hU], by rw [hU]; exact hPc, va_K.moved hW.alike hK, hDc.weaken (fun _ _ _ _ => trivial)⟩⟩ rfl rfl hl.1 rfl (lv_room (Nat.le_of_ble_eq_true rfl)) d_Model_repair_30 ⟨Nat.zero_le _, Nat.zero_le _⟩) hS (fun q _ h => hFc q h) hFc (fun u t H1 locs ht hvm hw hB hz1 hk1 hS => ?_)
      obtain ⟨hP1, hK1, hD1⟩ := hB
      rw [ht] at hP1
      obtain ⟨hP, hD⟩ := va_join (wr := [(a1, .inl (kA 0, 2310, .inl f1)), (a2, .inl (kA 0, 24, .inl f2)), (a3, .inl (kA 0, 11, .inl f3)), (a4, .inl (kA 0, 11, .inl f4)), (a5, .inl (kA 0, 492, .inl f5)), (a6, .inl (kA 0, 6, .inl f6)), (a7, .inl (kA 0, 40, .inl f7)), (a8, .inl (kA 0, 8, .inl f8)), (a9, .inl (kA 0, 400, .inl f9)), (a10, .inl (kA 0, 280, .inl f10)), (a11, .inl (kA 0, 6, .inl f11)), (a12, .inl (kA 0, 16, .inl f12))]) (w1 := (wd_Model_forget kA a0 (.int s0) v0_1 v0_2 v0_3 (.ref a3) (.ref a4) v0_6 v0_7 v0_8 v0_9 v0_10 v0_11 (.int x0_12) (.ref a1) (.ref a5) (.int x0_15) (.int x0_16) (.ref a12) (.ref a2) (.ref a9) (.ref a6) (.ref a11) (.ref a10) (.ref a7) (.ref a8) (.int x0_27) (.int x0_28) u_1.1 u_1.2)) hP hD [0] [1, 2, 3, 4, 5, 6, 7, 8, 9, 10, 11, 12] rfl rfl (by decide) (by decide) hk1 hFc hP1 hD1
      have hP := hP.sub (ws' := (wd_Model_repair kA a0 a1 a2 a3 a4 a5 a6 a7 a8 a9 a10 a11 a12 v0_1 v0_2 v0_3 v0_6 v0_7 v0_8 v0_9 v0_10 v0_11 s0 x0_12 x0_15 x0_16 u_1.1 u_1.2 x0_27 x0_28 f1 f2 f3 f4 f5 f6 f7 f8 f9 f10 f11 f12)) [12, 0, 1, 2, 3, 4, 5, 6, 7, 8, 9, 10, 11] rfl
      have hD := hD.sub (ws' := (wd_Model_repair kA a0 a1 a2 a3 a4 a5 a6 a7 a8 a9 a10 a11 a12 v0_1 v0_2 v0_3 v0_6 v0_7 v0_8 v0_9 v0_10 v0_11 s0 x0_12 x0_15 x0_16 u_1.1 u_1.2 x0_27 x0_28 f1 f2 f3 f4 f5 f6 f7 f8 f9 f10 f11 f12)) [12, 0, 1, 2, 3, 4, 5, 6, 7, 8, 9, 10, 11] (by decide) rfl
      clear hPc hDc hFc hP1 hK1 hD1
      generalize H1 = H at hP hS ⊢
      refine lv_aload_n hx hb d_Model_repair_33 rfl (lv_at hl 0 rfl) ?_
      refine va_get (D := (dC, dI)) (ci := 9) (v := .int s0) (C := R_Model) (T := F_Model) (N := 29) hx hb hg iw_Model hown hK hP 0 rfl rfl 0 (by decide) (hg _ gw_259) (fun _ h9 => h9) rfl d_Model_repair_34 ?_
      refine lv_if_le (tgt := 42) hx hb d_Model_repair_37 (by decide) (fun c_2 => ?_) (fun c_2 => ?_)
      · rw [if_pos c_2] at hF
        refine lv_aload_n hx hb d_Model_repair_42 rfl (lv_at hl 0 rfl) ?_
        refine lv_aload_n hx hb d_Model_repair_43 rfl (lv_at hl 0 rfl) ?_
        obtain ⟨u_3, hS_3, hF⟩ := rd_bind hF
        have hPc := hP.sub (ws' := (wd_Model_parsed kA a0 a1 a2 a3 a4 a5 a9 a12 (.int s0) v0_1 v0_2 v0_3 v0_6 v0_7 v0_8 v0_9 v0_10 v0_11 (.int x0_12) (.int x0_16) (.ref a6) (.ref a11) (.int u_1.1) (.int u_1.2) (.ref a10) (.ref a7) (.ref a8) (.int x0_27) (.int x0_28) x0_15 f1 f2 f3 f4 f5 f9 f12)) [0, 1, 2, 3, 4, 5, 9, 12] rfl
        have hDc := hD.sub (ws' := (wd_Model_parsed kA a0 a1 a2 a3 a4 a5 a9 a12 (.int s0) v0_1 v0_2 v0_3 v0_6 v0_7 v0_8 v0_9 v0_10 v0_11 (.int x0_12) (.int x0_16) (.ref a6) (.ref a11) (.int u_1.1) (.int u_1.2) (.ref a10) (.ref a7) (.ref a8) (.int x0_27) (.int x0_28) x0_15 f1 f2 f3 f4 f5 f9 f12)) [0, 1, 2, 3, 4, 5, 9, 12] (by decide) rfl
        have hFc := va_free (wc := (wd_Model_parsed kA a0 a1 a2 a3 a4 a5 a9 a12 (.int s0) v0_1 v0_2 v0_3 v0_6 v0_7 v0_8 v0_9 v0_10 v0_11 (.int x0_12) (.int x0_16) (.ref a6) (.ref a11) (.int u_1.1) (.int u_1.2) (.ref a10) (.ref a7) (.ref a8) (.int x0_27) (.int x0_28) x0_15 f1 f2 f3 f4 f5 f9 f12)) hD hS hA [0, 1, 2, 3, 4, 5, 9, 12] rfl
        refine va_calli (va_runV (As := []) (rest := [.ref a0]) ⟨hx, hb, hml, hown, hts⟩ (c_Model_parsed l dC dI kA H.size a0 a1 a2 a3 a4 a5 a9 a12 (.int s0) v0_1 v0_2 v0_3 v0_6 v0_7 v0_8 v0_9 v0_10 v0_11 (.int x0_12) (.int x0_16) (.ref a6) (.ref a11) (.int u_1.1) (.int u_1.2) (.ref a10) (.ref a7) (.ref a8) (.int x0_27) (.int x0_28) x0_15 f1 f2 f3 f4 f5 f9 f12 u_3.1 u_3.2.1 u_3.2.2 hS_3) (cwV 0 hts (gw_V gw_337 gw_338 gw_339 gw_267 gw_340) rfl rfl rfl (by decide +kernel) ⟨Nat.le_of_ble_eq_true rfl, Nat.le_of_ble_eq_true rfl⟩) ⟨fun a U g mk q => by obtain ⟨q0, q1, qP, qK, qD⟩ := q; exact ⟨q0, q1, qP, va_K.moved (u := U) (U := U.calling g mk a) (Vm.Alike.refl U.vm) qK, qD⟩, va_recv hK hP (ci := 9) (q0 := 0) rfl rfl, fun U hU hW => ⟨rfl, by rw [hU], by rw [hU]; exact hPc, va_K.moved hW.alike hK, hDc.weaken (fun _ _ _ _ => trivial)⟩⟩ rfl rfl hl.1 rfl (lv_room (Nat.le_of_ble_eq_true rfl)) d_Model_repair_44 ⟨Nat.zero_le _, Nat.zero_le _⟩) hS (fun q _ h => hFc q h) hFc (fun r1 u t H1 locs ht hvm hw hB hz1 hk1 hS => ?_)
        rw [show r1 = _ from hw]
        obtain ⟨hP1, hK1, hD1⟩ := hB
        rw [ht] at hP1
        obtain ⟨hP, hD⟩ := va_join (wr := [(a6, .inl (kA 0, 6, .inl f6)), (a7, .inl (kA 0, 40, .inl f7)), (a8, .inl (kA 0, 8, .inl f8)), (a10, .inl (kA 0, 280, .inl f10)), (a11, .inl (kA 0, 6, .inl f11))]) (w1 := (wd_Model_parsed kA a0 a1 a2 a3 a4 a5 a9 a12 (.int s0) v0_1 v0_2 v0_3 v0_6 v0_7 v0_8 v0_9 v0_10 v0_11 (.int x0_12) (.int x0_16) (.ref a6) (.ref a11) (.int u_1.1) (.int u_1.2) (.ref a10) (.ref a7) (.ref a8) (.int x0_27) (.int x0_28) x0_15 f1 u_3.2.1 f3 f4 f5 u_3.2.2 f12)) hP hD [0, 1, 2, 3, 4, 5, 9, 12] [6, 7, 8, 10, 11] rfl rfl (by decide) (by decide) hk1 hFc hP1 hD1
        have hP := hP.sub (ws' := (wd_Model_repair kA a0 a1 a2 a3 a4 a5 a6 a7 a8 a9 a10 a11 a12 v0_1 v0_2 v0_3 v0_6 v0_7 v0_8 v0_9 v0_10 v0_11 s0 x0_12 x0_15 x0_16 u_1.1 u_1.2 x0_27 x0_28 f1 u_3.2.1 f3 f4 f5 f6 f7 f8 u_3.2.2 f10 f11 f12)) [5, 6, 7, 8, 9, 10, 0, 1, 2, 11, 3, 4, 12] rfl
        have hD := hD.sub (ws' := (wd_Model_repair kA a0 a1 a2 a3 a4 a5 a6 a7 a8 a9 a10 a11 a12 v0_1 v0_2 v0_3 v0_6 v0_7 v0_8 v0_9 v0_10 v0_11 s0 x0_12 x0_15 x0_16 u_1.1 u_1.2 x0_27 x0_28 f1 u_3.2.1 f3 f4 f5 f6 f7 f8 u_3.2.2 f10 f11 f12)) [5, 6, 7, 8, 9, 10, 0, 1, 2, 11, 3, 4, 12] (by decide) rfl
        clear hPc hDc hFc hP1 hK1 hD1
        generalize H1 = H at hP hS ⊢
        refine va_put (D := (dC, dI)) (ci := 9) (v := .int u_3.1) (ty := .int) (C := R_Model) (T := F_Model) (N := 29) hx hb hg iw_Model t_Model t_Model_ok n_Model hown hK hP hD hS 0 rfl rfl 16 (by decide) (hg _ gw_341) (fun _ h9 => h9) rfl (by decide +kernel) rfl rfl (Nat.le_of_ble_eq_true rfl) d_Model_repair_47 (fun H locs hP hD hS => ?_)
        have hP : va_P (dC, dI) classes (wd_Model_repair kA a0 a1 a2 a3 a4 a5 a6 a7 a8 a9 a10 a11 a12 v0_1 v0_2 v0_3 v0_6 v0_7 v0_8 v0_9 v0_10 v0_11 s0 x0_12 x0_15 u_3.1 u_1.1 u_1.2 x0_27 x0_28 f1 u_3.2.1 f3 f4 f5 f6 f7 f8 u_3.2.2 f10 f11 f12) H := hP
        have hD : va_D A (wd_Model_repair kA a0 a1 a2 a3 a4 a5 a6 a7 a8 a9 a10 a11 a12 v0_1 v0_2 v0_3 v0_6 v0_7 v0_8 v0_9 v0_10 v0_11 s0 x0_12 x0_15 u_3.1 u_1.1 u_1.2 x0_27 x0_28 f1 u_3.2.1 f3 f4 f5 f6 f7 f8 u_3.2.2 f10 f11 f12) := hD
        refine lv_aload_n hx hb d_Model_repair_50 rfl (lv_at hl 0 rfl) ?_
        refine va_get (D := (dC, dI)) (ci := 9) (v := .int u_3.1) (C := R_Model) (T := F_Model) (N := 29) hx hb hg iw_Model hown hK hP 0 rfl rfl 16 (by decide) (hg _ gw_341) (fun _ h9 => h9) rfl d_Model_repair_51 ?_
        refine lv_if_ge (tgt := 59) hx hb d_Model_repair_54 (by decide) (fun c_4 => ?_) (fun c_4 => ?_)
        · rw [if_pos c_4] at hF
          refine lv_iconst (v := 1) hx hb d_Model_repair_59 (by decide) ?_
          refine lv_istore_n (lv' := [(2, .int 1), (0, .ref a0), (1, .int l1)]) hx hb d_Model_repair_60 rfl hl (by decide) rfl (fun ls hl => ?_)
          exact ih.2 l1 1 0 s0 u_3.1 u_1.1 u_1.2 x0_27 x0_28 u_3.2.1 f7 f8 u_3.2.2 f10 hF _ _ _ hP hD hS (lv_sub hl [1, 2, 0] rfl)
        · rw [if_neg c_4] at hF
          refine lv_iconst (v := 0) hx hb d_Model_repair_57 (by decide) ?_
          have e0 := Option.some.inj hF
          have q0 := Prod.mk.inj e0
          have q1 := Prod.mk.inj q0.2
          have q2 := Prod.mk.inj q1.2
          have q3 := Prod.mk.inj q2.2
          have q4 := Prod.mk.inj q3.2
          have q5 := Prod.mk.inj q4.2
          have q6 := Prod.mk.inj q5.2
          have q7 := Prod.mk.inj q6.2
          have q8 := Prod.mk.inj q7.2
          have q9 := Prod.mk.inj q8.2
          have q10 := Prod.mk.inj q9.2
          exact W.iret (v := 0) hx hb hr (fun t ht hW => ⟨⟨0, (), rfl, q0.1, by rw [ht, ← q1.1, ← q2.1, ← q3.1, ← q4.1, ← q5.1, ← q6.1, ← q7.1, ← q8.1, ← q9.1, ← q10.1, ← q10.2]; exact hP, va_K.moved hW.alike hK, (by rw [← q1.1, ← q2.1, ← q3.1, ← q4.1, ← q5.1, ← q6.1, ← q7.1, ← q8.1, ← q9.1, ← q10.1, ← q10.2]; exact hD)⟩, hS.F ht⟩) hS.2.2 d_Model_repair_58 hlocks
      · rw [if_neg c_2] at hF
        refine lv_iconst (v := 0) hx hb d_Model_repair_40 (by decide) ?_
        have e0 := Option.some.inj hF
        have q0 := Prod.mk.inj e0
        have q1 := Prod.mk.inj q0.2
        have q2 := Prod.mk.inj q1.2
        have q3 := Prod.mk.inj q2.2
        have q4 := Prod.mk.inj q3.2
        have q5 := Prod.mk.inj q4.2
        have q6 := Prod.mk.inj q5.2
        have q7 := Prod.mk.inj q6.2
        have q8 := Prod.mk.inj q7.2
        have q9 := Prod.mk.inj q8.2
        have q10 := Prod.mk.inj q9.2
        exact W.iret (v := 0) hx hb hr (fun t ht hW => ⟨⟨0, (), rfl, q0.1, by rw [ht, ← q1.1, ← q2.1, ← q3.1, ← q4.1, ← q5.1, ← q6.1, ← q7.1, ← q8.1, ← q9.1, ← q10.1, ← q10.2]; exact hP, va_K.moved hW.alike hK, (by rw [← q1.1, ← q2.1, ← q3.1, ← q4.1, ← q5.1, ← q6.1, ← q7.1, ← q8.1, ← q9.1, ← q10.1, ← q10.2]; exact hD)⟩, hS.F ht⟩) hS.2.2 d_Model_repair_41 hlocks
    · intro l1 l2 s0 x0_0 x0_16 x0_22 x0_23 x0_27 x0_28 f2 f7 f8 f9 f10 hF H locs ls hP hD hS hl
      have hF : B_Model_repair_1 (F_Model_repair x0_12 x0_15 f1 f3 f4 f5 f6 f11 f12 n) x0_12 x0_15 f1 f3 f4 f5 f6 f11 f12 l1 l2 s0 x0_0 x0_16 x0_22 x0_23 x0_27 x0_28 f2 f7 f8 f9 f10 = some (r, ox0_0, ox0_16, ox0_22, ox0_23, ox0_27, ox0_28, of2, of7, of8, of9, of10) := hF
      unfold B_Model_repair_1 at hF
      refine lv_iload_n hx hb d_Model_repair_61 rfl (lv_at hl 2 rfl) ?_
      refine lv_iconst (v := 4) hx hb d_Model_repair_62 (by decide) ?_
      refine lv_icmp_ge (tgt := 101) hx hb d_Model_repair_63 (by decide) (fun c_5 => ?_) (fun c_5 => ?_)
      · rw [if_pos c_5] at hF
        refine lv_aload_n hx hb d_Model_repair_101 rfl (lv_at hl 0 rfl) ?_
        refine va_get (D := (dC, dI)) (ci := 9) (v := .int x0_22) (C := R_Model) (T := F_Model) (N := 29) hx hb hg iw_Model hown hK hP 0 rfl rfl 22 (by decide) (hg _ gw_262) (fun _ h9 => h9) rfl d_Model_repair_102 ?_
        refine lv_bipush (v := 40) hx hb d_Model_repair_105 (by decide) ?_
        refine lv_icmp_le (tgt := 120) hx hb d_Model_repair_107 (by decide) (fun c_6 => ?_) (fun c_6 => ?_)
        · rw [if_pos c_6] at hF
          refine lv_aload_n hx hb d_Model_repair_120 rfl (lv_at hl 0 rfl) ?_
          refine va_get (D := (dC, dI)) (ci := 9) (v := .int x0_22) (C := R_Model) (T := F_Model) (N := 29) hx hb hg iw_Model hown hK hP 0 rfl rfl 22 (by decide) (hg _ gw_262) (fun _ h9 => h9) rfl d_Model_repair_121 ?_
          have e0 := Option.some.inj hF
          have q0 := Prod.mk.inj e0
          have q1 := Prod.mk.inj q0.2
          have q2 := Prod.mk.inj q1.2
          have q3 := Prod.mk.inj q2.2
          have q4 := Prod.mk.inj q3.2
          have q5 := Prod.mk.inj q4.2
          have q6 := Prod.mk.inj q5.2
          have q7 := Prod.mk.inj q6.2
          have q8 := Prod.mk.inj q7.2
          have q9 := Prod.mk.inj q8.2
          have q10 := Prod.mk.inj q9.2
          exact W.iret (v := x0_22) hx hb hr (fun t ht hW => ⟨⟨x0_22, (), rfl, q0.1, by rw [ht, ← q1.1, ← q2.1, ← q3.1, ← q4.1, ← q5.1, ← q6.1, ← q7.1, ← q8.1, ← q9.1, ← q10.1, ← q10.2]; exact hP, va_K.moved hW.alike hK, (by rw [← q1.1, ← q2.1, ← q3.1, ← q4.1, ← q5.1, ← q6.1, ← q7.1, ← q8.1, ← q9.1, ← q10.1, ← q10.2]; exact hD)⟩, hS.F ht⟩) hS.2.2 d_Model_repair_124 hlocks
        · rw [if_neg c_6] at hF
          refine lv_aload_n hx hb d_Model_repair_110 rfl (lv_at hl 0 rfl) ?_
          obtain ⟨u_7, hS_7, hF⟩ := rd_bind hF
          have hPc := hP.sub (ws' := (wd_Model_forget kA a0 (.int x0_0) v0_1 v0_2 v0_3 (.ref a3) (.ref a4) v0_6 v0_7 v0_8 v0_9 v0_10 v0_11 (.int x0_12) (.ref a1) (.ref a5) (.int x0_15) (.int x0_16) (.ref a12) (.ref a2) (.ref a9) (.ref a6) (.ref a11) (.ref a10) (.ref a7) (.ref a8) (.int x0_27) (.int x0_28) x0_22 x0_23)) [0] rfl
          have hDc := hD.sub (ws' := (wd_Model_forget kA a0 (.int x0_0) v0_1 v0_2 v0_3 (.ref a3) (.ref a4) v0_6 v0_7 v0_8 v0_9 v0_10 v0_11 (.int x0_12) (.ref a1) (.ref a5) (.int x0_15) (.int x0_16) (.ref a12) (.ref a2) (.ref a9) (.ref a6) (.ref a11) (.ref a10) (.ref a7) (.ref a8) (.int x0_27) (.int x0_28) x0_22 x0_23)) [0] (by decide) rfl
          have hFc := va_free (wc := (wd_Model_forget kA a0 (.int x0_0) v0_1 v0_2 v0_3 (.ref a3) (.ref a4) v0_6 v0_7 v0_8 v0_9 v0_10 v0_11 (.int x0_12) (.ref a1) (.ref a5) (.int x0_15) (.int x0_16) (.ref a12) (.ref a2) (.ref a9) (.ref a6) (.ref a11) (.ref a10) (.ref a7) (.ref a8) (.int x0_27) (.int x0_28) x0_22 x0_23)) hD hS hA [0] rfl
          refine va_callv (va_runV (As := []) (rest := []) ⟨hx, hb, hml, hown, hts⟩ (c_Model_forget l dC dI kA H.size a0 (.int x0_0) v0_1 v0_2 v0_3 (.ref a3) (.ref a4) v0_6 v0_7 v0_8 v0_9 v0_10 v0_11 (.int x0_12) (.ref a1) (.ref a5) (.int x0_15) (.int x0_16) (.ref a12) (.ref a2) (.ref a9) (.ref a6) (.ref a11) (.ref a10) (.ref a7) (.ref a8) (.int x0_27) (.int x0_28) x0_22 x0_23 u_7.1 u_7.2 hS_7) (cwV 0 hts (gw_V gw_281 gw_282 gw_283 gw_267 gw_284) rfl rfl rfl (by decide +kernel) ⟨Nat.le_of_ble_eq_true rfl, Nat.le_of_ble_eq_true rfl⟩) ⟨fun a U g mk q => by obtain ⟨q0, q1, qP, qK, qD⟩ := q; exact ⟨q0, q1, qP, va_K.moved (u := U) (U := U.calling g mk a) (Vm.Alike.refl U.vm) qK, qD⟩, va_recv hK hP (ci := 9) (q0 := 0) rfl rfl, fun U hU hW => ⟨rfl, by rw [hU], by rw [hU]; exact hPc, va_K.moved hW.alike hK, hDc.weaken (fun _ _ _ _ => trivial)⟩⟩ rfl rfl hl.1 rfl (lv_room (Nat.le_of_ble_eq_true rfl)) d_Model_repair_111 ⟨Nat.zero_le _, Nat.zero_le _⟩) hS (fun q _ h => hFc q h) hFc (fun u t H1 locs ht hvm hw hB hz1 hk1 hS => ?_)
          obtain ⟨hP1, hK1, hD1⟩ := hB
          rw [ht] at hP1
          obtain ⟨hP, hD⟩ := va_join (wr := [(a1, .inl (kA 0, 2310, .inl f1)), (a2, .inl (kA 0, 24, .inl f2)), (a3, .inl (kA 0, 11, .inl f3)), (a4, .inl (kA 0, 11, .inl f4)), (a5, .inl (kA 0, 492, .inl f5)), (a6, .inl (kA 0, 6, .inl f6)), (a7, .inl (kA 0, 40, .inl f7)), (a8, .inl (kA 0, 8, .inl f8)), (a9, .inl (kA 0, 400, .inl f9)), (a10, .inl (kA 0, 280, .inl f10)), (a11, .inl (kA 0, 6, .inl f11)), (a12, .inl (kA 0, 16, .inl f12))]) (w1 := (wd_Model_forget kA a0 (.int x0_0) v0_1 v0_2 v0_3 (.ref a3) (.ref a4) v0_6 v0_7 v0_8 v0_9 v0_10 v0_11 (.int x0_12) (.ref a1) (.ref a5) (.int x0_15) (.int x0_16) (.ref a12) (.ref a2) (.ref a9) (.ref a6) (.ref a11) (.ref a10) (.ref a7) (.ref a8) (.int x0_27) (.int x0_28) u_7.1 u_7.2)) hP hD [0] [1, 2, 3, 4, 5, 6, 7, 8, 9, 10, 11, 12] rfl rfl (by decide) (by decide) hk1 hFc hP1 hD1
          have hP := hP.sub (ws' := (wd_Model_repair kA a0 a1 a2 a3 a4 a5 a6 a7 a8 a9 a10 a11 a12 v0_1 v0_2 v0_3 v0_6 v0_7 v0_8 v0_9 v0_10 v0_11 x0_0 x0_12 x0_15 x0_16 u_7.1 u_7.2 x0_27 x0_28 f1 f2 f3 f4 f5 f6 f7 f8 f9 f10 f11 f12)) [12, 0, 1, 2, 3, 4, 5, 6, 7, 8, 9, 10, 11] rfl
          have hD := hD.sub (ws' := (wd_Model_repair kA a0 a1 a2 a3 a4 a5 a6 a7 a8 a9 a10 a11 a12 v0_1 v0_2 v0_3 v0_6 v0_7 v0_8 v0_9 v0_10 v0_11 x0_0 x0_12 x0_15 x0_16 u_7.1 u_7.2 x0_27 x0_28 f1 f2 f3 f4 f5 f6 f7 f8 f9 f10 f11 f12)) [12, 0, 1, 2, 3, 4, 5, 6, 7, 8, 9, 10, 11] (by decide) rfl
          clear hPc hDc hFc hP1 hK1 hD1
          generalize H1 = H at hP hS ⊢
          refine lv_aload_n hx hb d_Model_repair_114 rfl (lv_at hl 0 rfl) ?_
          refine lv_iconst (v := 3) hx hb d_Model_repair_115 (by decide) ?_
          obtain ⟨u_8, hS_8, hF⟩ := rd_bind hF
          have hPc := hP.sub (ws' := (wd_Model_fails kA a0 v0_1 v0_2 v0_3 (.ref a3) (.ref a4) v0_6 v0_7 v0_8 v0_9 v0_10 v0_11 (.int x0_12) (.ref a1) (.ref a5) (.int x0_15) (.int x0_16) (.ref a12) (.ref a2) (.ref a9) (.ref a6) (.ref a11) (.int u_7.1) (.int u_7.2) (.ref a10) (.ref a7) (.ref a8) (.int x0_27) (.int x0_28) x0_0)) [0] rfl
          have hDc := hD.sub (ws' := (wd_Model_fails kA a0 v0_1 v0_2 v0_3 (.ref a3) (.ref a4) v0_6 v0_7 v0_8 v0_9 v0_10 v0_11 (.int x0_12) (.ref a1) (.ref a5) (.int x0_15) (.int x0_16) (.ref a12) (.ref a2) (.ref a9) (.ref a6) (.ref a11) (.int u_7.1) (.int u_7.2) (.ref a10) (.ref a7) (.ref a8) (.int x0_27) (.int x0_28) x0_0)) [0] (by decide) rfl
          have hFc := va_free (wc := (wd_Model_fails kA a0 v0_1 v0_2 v0_3 (.ref a3) (.ref a4) v0_6 v0_7 v0_8 v0_9 v0_10 v0_11 (.int x0_12) (.ref a1) (.ref a5) (.int x0_15) (.int x0_16) (.ref a12) (.ref a2) (.ref a9) (.ref a6) (.ref a11) (.int u_7.1) (.int u_7.2) (.ref a10) (.ref a7) (.ref a8) (.int x0_27) (.int x0_28) x0_0)) hD hS hA [0] rfl
          refine va_calli (va_runV (As := [.int 3]) (rest := []) ⟨hx, hb, hml, hown, hts⟩ (c_Model_fails l dC dI kA H.size a0 v0_1 v0_2 v0_3 (.ref a3) (.ref a4) v0_6 v0_7 v0_8 v0_9 v0_10 v0_11 (.int x0_12) (.ref a1) (.ref a5) (.int x0_15) (.int x0_16) (.ref a12) (.ref a2) (.ref a9) (.ref a6) (.ref a11) (.int u_7.1) (.int u_7.2) (.ref a10) (.ref a7) (.ref a8) (.int x0_27) (.int x0_28) 3 x0_0 u_8.1 u_8.2 hS_8) (cwV 1 hts (gw_V gw_264 gw_265 gw_266 gw_267 gw_268) rfl rfl rfl (by decide +kernel) ⟨Nat.le_of_ble_eq_true rfl, Nat.le_of_ble_eq_true rfl⟩) ⟨fun a U g mk q => by obtain ⟨q0, q1, qP, qK, qD⟩ := q; exact ⟨q0, q1, qP, va_K.moved (u := U) (U := U.calling g mk a) (Vm.Alike.refl U.vm) qK, qD⟩, va_recv hK hP (ci := 9) (q0 := 0) rfl rfl, fun U hU hW => ⟨rfl, by rw [hU], by rw [hU]; exact hPc, va_K.moved hW.alike hK, hDc.weaken (fun _ _ _ _ => trivial)⟩⟩ rfl rfl hl.1 rfl (lv_room (Nat.le_of_ble_eq_true rfl)) d_Model_repair_116 ⟨Nat.zero_le _, Nat.zero_le _⟩) hS (fun q _ h => hFc q h) hFc (fun r1 u t H1 locs ht hvm hw hB hz1 hk1 hS => ?_)
          rw [show r1 = _ from hw]
          obtain ⟨hP1, hK1, hD1⟩ := hB
          rw [ht] at hP1
          obtain ⟨hP, hD⟩ := va_join (wr := [(a1, .inl (kA 0, 2310, .inl f1)), (a2, .inl (kA 0, 24, .inl f2)), (a3, .inl (kA 0, 11, .inl f3)), (a4, .inl (kA 0, 11, .inl f4)), (a5, .inl (kA 0, 492, .inl f5)), (a6, .inl (kA 0, 6, .inl f6)), (a7, .inl (kA 0, 40, .inl f7)), (a8, .inl (kA 0, 8, .inl f8)), (a9, .inl (kA 0, 400, .inl f9)), (a10, .inl (kA 0, 280, .inl f10)), (a11, .inl (kA 0, 6, .inl f11)), (a12, .inl (kA 0, 16, .inl f12))]) (w1 := (wd_Model_fails kA a0 v0_1 v0_2 v0_3 (.ref a3) (.ref a4) v0_6 v0_7 v0_8 v0_9 v0_10 v0_11 (.int x0_12) (.ref a1) (.ref a5) (.int x0_15) (.int x0_16) (.ref a12) (.ref a2) (.ref a9) (.ref a6) (.ref a11) (.int u_7.1) (.int u_7.2) (.ref a10) (.ref a7) (.ref a8) (.int x0_27) (.int x0_28) u_8.2)) hP hD [0] [1, 2, 3, 4, 5, 6, 7, 8, 9, 10, 11, 12] rfl rfl (by decide) (by decide) hk1 hFc hP1 hD1
          have hP := hP.sub (ws' := (wd_Model_repair kA a0 a1 a2 a3 a4 a5 a6 a7 a8 a9 a10 a11 a12 v0_1 v0_2 v0_3 v0_6 v0_7 v0_8 v0_9 v0_10 v0_11 u_8.2 x0_12 x0_15 x0_16 u_7.1 u_7.2 x0_27 x0_28 f1 f2 f3 f4 f5 f6 f7 f8 f9 f10 f11 f12)) [12, 0, 1, 2, 3, 4, 5, 6, 7, 8, 9, 10, 11] rfl
          have hD := hD.sub (ws' := (wd_Model_repair kA a0 a1 a2 a3 a4 a5 a6 a7 a8 a9 a10 a11 a12 v0_1 v0_2 v0_3 v0_6 v0_7 v0_8 v0_9 v0_10 v0_11 u_8.2 x0_12 x0_15 x0_16 u_7.1 u_7.2 x0_27 x0_28 f1 f2 f3 f4 f5 f6 f7 f8 f9 f10 f11 f12)) [12, 0, 1, 2, 3, 4, 5, 6, 7, 8, 9, 10, 11] (by decide) rfl
          clear hPc hDc hFc hP1 hK1 hD1
          generalize H1 = H at hP hS ⊢
          have e0 := Option.some.inj hF
          have q0 := Prod.mk.inj e0
          have q1 := Prod.mk.inj q0.2
          have q2 := Prod.mk.inj q1.2
          have q3 := Prod.mk.inj q2.2
          have q4 := Prod.mk.inj q3.2
          have q5 := Prod.mk.inj q4.2
          have q6 := Prod.mk.inj q5.2
          have q7 := Prod.mk.inj q6.2
          have q8 := Prod.mk.inj q7.2
          have q9 := Prod.mk.inj q8.2
          have q10 := Prod.mk.inj q9.2
          exact W.iret (v := u_8.1) hx hb hr (fun t ht hW => ⟨⟨u_8.1, (), rfl, q0.1, by rw [ht, ← q1.1, ← q2.1, ← q3.1, ← q4.1, ← q5.1, ← q6.1, ← q7.1, ← q8.1, ← q9.1, ← q10.1, ← q10.2]; exact hP, va_K.moved hW.alike hK, (by rw [← q1.1, ← q2.1, ← q3.1, ← q4.1, ← q5.1, ← q6.1, ← q7.1, ← q8.1, ← q9.1, ← q10.1, ← q10.2]; exact hD)⟩, hS.F ht⟩) hS.2.2 d_Model_repair_119 hlocks
      · rw [if_neg c_5] at hF
        refine lv_aload_n hx hb d_Model_repair_66 rfl (lv_at hl 0 rfl) ?_
        refine va_get (D := (dC, dI)) (ci := 9) (v := .int x0_22) (C := R_Model) (T := F_Model) (N := 29) hx hb hg iw_Model hown hK hP 0 rfl rfl 22 (by decide) (hg _ gw_262) (fun _ h9 => h9) rfl d_Model_repair_67 ?_
        refine lv_if_ne (tgt := 101) hx hb d_Model_repair_70 (by decide) (fun c_9 => ?_) (fun c_9 => ?_)
        · rw [if_pos c_9] at hF
          refine lv_aload_n hx hb d_Model_repair_101 rfl (lv_at hl 0 rfl) ?_
          refine va_get (D := (dC, dI)) (ci := 9) (v := .int x0_22) (C := R_Model) (T := F_Model) (N := 29) hx hb hg iw_Model hown hK hP 0 rfl rfl 22 (by decide) (hg _ gw_262) (fun _ h9 => h9) rfl d_Model_repair_102 ?_
          refine lv_bipush (v := 40) hx hb d_Model_repair_105 (by decide) ?_
          refine lv_icmp_le (tgt := 120) hx hb d_Model_repair_107 (by decide) (fun c_10 => ?_) (fun c_10 => ?_)
          · rw [if_pos c_10] at hF
            refine lv_aload_n hx hb d_Model_repair_120 rfl (lv_at hl 0 rfl) ?_
            refine va_get (D := (dC, dI)) (ci := 9) (v := .int x0_22) (C := R_Model) (T := F_Model) (N := 29) hx hb hg iw_Model hown hK hP 0 rfl rfl 22 (by decide) (hg _ gw_262) (fun _ h9 => h9) rfl d_Model_repair_121 ?_
            have e0 := Option.some.inj hF
            have q0 := Prod.mk.inj e0
            have q1 := Prod.mk.inj q0.2
            have q2 := Prod.mk.inj q1.2
            have q3 := Prod.mk.inj q2.2
            have q4 := Prod.mk.inj q3.2
            have q5 := Prod.mk.inj q4.2
            have q6 := Prod.mk.inj q5.2
            have q7 := Prod.mk.inj q6.2
            have q8 := Prod.mk.inj q7.2
            have q9 := Prod.mk.inj q8.2
            have q10 := Prod.mk.inj q9.2
            exact W.iret (v := x0_22) hx hb hr (fun t ht hW => ⟨⟨x0_22, (), rfl, q0.1, by rw [ht, ← q1.1, ← q2.1, ← q3.1, ← q4.1, ← q5.1, ← q6.1, ← q7.1, ← q8.1, ← q9.1, ← q10.1, ← q10.2]; exact hP, va_K.moved hW.alike hK, (by rw [← q1.1, ← q2.1, ← q3.1, ← q4.1, ← q5.1, ← q6.1, ← q7.1, ← q8.1, ← q9.1, ← q10.1, ← q10.2]; exact hD)⟩, hS.F ht⟩) hS.2.2 d_Model_repair_124 hlocks
          · rw [if_neg c_10] at hF
            refine lv_aload_n hx hb d_Model_repair_110 rfl (lv_at hl 0 rfl) ?_
            obtain ⟨u_11, hS_11, hF⟩ := rd_bind hF
            have hPc := hP.sub (ws' := (wd_Model_forget kA a0 (.int x0_0) v0_1 v0_2 v0_3 (.ref a3) (.ref a4) v0_6 v0_7 v0_8 v0_9 v0_10 v0_11 (.int x0_12) (.ref a1) (.ref a5) (.int x0_15) (.int x0_16) (.ref a12) (.ref a2) (.ref a9) (.ref a6) (.ref a11) (.ref a10) (.ref a7) (.ref a8) (.int x0_27) (.int x0_28) x0_22 x0_23)) [0] rfl
            have hDc := hD.sub (ws' := (wd_Model_forget kA a0 (.int x0_0) v0_1 v0_2 v0_3 (.ref a3) (.ref a4) v0_6 v0_7 v0_8 v0_9 v0_10 v0_11 (.int x0_12) (.ref a1) (.ref a5) (.int x0_15) (.int x0_16) (.ref a12) (.ref a2) (.ref a9) (.ref a6) (.ref a11) (.ref a10) (.ref a7) (.ref a8) (.int x0_27) (.int x0_28) x0_22 x0_23)) [0] (by decide) rfl
            have hFc := va_free (wc := (wd_Model_forget kA a0 (.int x0_0) v0_1 v0_2 v0_3 (.ref a3) (.ref a4) v0_6 v0_7 v0_8 v0_9 v0_10 v0_11 (.int x0_12) (.ref a1) (.ref a5) (.int x0_15) (.int x0_16) (.ref a12) (.ref a2) (.ref a9) (.ref a6) (.ref a11) (.ref a10) (.ref a7) (.ref a8) (.int x0_27) (.int x0_28) x0_22 x0_23)) hD hS hA [0] rfl
            refine va_callv (va_runV (As := []) (rest := []) ⟨hx, hb, hml, hown, hts⟩ (c_Model_forget l dC dI kA H.size a0 (.int x0_0) v0_1 v0_2 v0_3 (.ref a3) (.ref a4) v0_6 v0_7 v0_8 v0_9 v0_10 v0_11 (.int x0_12) (.ref a1) (.ref a5) (.int x0_15) (.int x0_16) (.ref a12) (.ref a2) (.ref a9) (.ref a6) (.ref a11) (.ref a10) (.ref a7) (.ref a8) (.int x0_27) (.int x0_28) x0_22 x0_23 u_11.1 u_11.2 hS_11) (cwV 0 hts (gw_V gw_281 gw_282 gw_283 gw_267 gw_284) rfl rfl rfl (by decide +kernel) ⟨Nat.le_of_ble_eq_true rfl, Nat.le_of_ble_eq_true rfl⟩) ⟨fun a U g mk q => by obtain ⟨q0, q1, qP, qK, qD⟩ := q; exact ⟨q0, q1, qP, va_K.moved (u := U) (U := U.calling g mk a) (Vm.Alike.refl U.vm) qK, qD⟩, va_recv hK hP (ci := 9) (q0 := 0) rfl rfl, fun U hU hW => ⟨rfl, by rw [hU], by rw [hU]; exact hPc, va_K.moved hW.alike hK, hDc.weaken (fun _ _ _ _ => trivial)⟩⟩ rfl rfl hl.1 rfl (lv_room (Nat.le_of_ble_eq_true rfl)) d_Model_repair_111 ⟨Nat.zero_le _, Nat.zero_le _⟩) hS (fun q _ h => hFc q h) hFc (fun u t H1 locs ht hvm hw hB hz1 hk1 hS => ?_)
            obtain ⟨hP1, hK1, hD1⟩ := hB
            rw [ht] at hP1
            obtain ⟨hP, hD⟩ := va_join (wr := [(a1, .inl (kA 0, 2310, .inl f1)), (a2, .inl (kA 0, 24, .inl f2)), (a3, .inl (kA 0, 11, .inl f3)), (a4, .inl (kA 0, 11, .inl f4)), (a5, .inl (kA 0, 492, .inl f5)), (a6, .inl (kA 0, 6, .inl f6)), (a7, .inl (kA 0, 40, .inl f7)), (a8, .inl (kA 0, 8, .inl f8)), (a9, .inl (kA 0, 400, .inl f9)), (a10, .inl (kA 0, 280, .inl f10)), (a11, .inl (kA 0, 6, .inl f11)), (a12, .inl (kA 0, 16, .inl f12))]) (w1 := (wd_Model_forget kA a0 (.int x0_0) v0_1 v0_2 v0_3 (.ref a3) (.ref a4) v0_6 v0_7 v0_8 v0_9 v0_10 v0_11 (.int x0_12) (.ref a1) (.ref a5) (.int x0_15) (.int x0_16) (.ref a12) (.ref a2) (.ref a9) (.ref a6) (.ref a11) (.ref a10) (.ref a7) (.ref a8) (.int x0_27) (.int x0_28) u_11.1 u_11.2)) hP hD [0] [1, 2, 3, 4, 5, 6, 7, 8, 9, 10, 11, 12] rfl rfl (by decide) (by decide) hk1 hFc hP1 hD1
            have hP := hP.sub (ws' := (wd_Model_repair kA a0 a1 a2 a3 a4 a5 a6 a7 a8 a9 a10 a11 a12 v0_1 v0_2 v0_3 v0_6 v0_7 v0_8 v0_9 v0_10 v0_11 x0_0 x0_12 x0_15 x0_16 u_11.1 u_11.2 x0_27 x0_28 f1 f2 f3 f4 f5 f6 f7 f8 f9 f10 f11 f12)) [12, 0, 1, 2, 3, 4, 5, 6, 7, 8, 9, 10, 11] rfl
            have hD := hD.sub (ws' := (wd_Model_repair kA a0 a1 a2 a3 a4 a5 a6 a7 a8 a9 a10 a11 a12 v0_1 v0_2 v0_3 v0_6 v0_7 v0_8 v0_9 v0_10 v0_11 x0_0 x0_12 x0_15 x0_16 u_11.1 u_11.2 x0_27 x0_28 f1 f2 f3 f4 f5 f6 f7 f8 f9 f10 f11 f12)) [12, 0, 1, 2, 3, 4, 5, 6, 7, 8, 9, 10, 11] (by decide) rfl
            clear hPc hDc hFc hP1 hK1 hD1
            generalize H1 = H at hP hS ⊢
            refine lv_aload_n hx hb d_Model_repair_114 rfl (lv_at hl 0 rfl) ?_
            refine lv_iconst (v := 3) hx hb d_Model_repair_115 (by decide) ?_
            obtain ⟨u_12, hS_12, hF⟩ := rd_bind hF
            have hPc := hP.sub (ws' := (wd_Model_fails kA a0 v0_1 v0_2 v0_3 (.ref a3) (.ref a4) v0_6 v0_7 v0_8 v0_9 v0_10 v0_11 (.int x0_12) (.ref a1) (.ref a5) (.int x0_15) (.int x0_16) (.ref a12) (.ref a2) (.ref a9) (.ref a6) (.ref a11) (.int u_11.1) (.int u_11.2) (.ref a10) (.ref a7) (.ref a8) (.int x0_27) (.int x0_28) x0_0)) [0] rfl
            have hDc := hD.sub (ws' := (wd_Model_fails kA a0 v0_1 v0_2 v0_3 (.ref a3) (.ref a4) v0_6 v0_7 v0_8 v0_9 v0_10 v0_11 (.int x0_12) (.ref a1) (.ref a5) (.int x0_15) (.int x0_16) (.ref a12) (.ref a2) (.ref a9) (.ref a6) (.ref a11) (.int u_11.1) (.int u_11.2) (.ref a10) (.ref a7) (.ref a8) (.int x0_27) (.int x0_28) x0_0)) [0] (by decide) rfl
            have hFc := va_free (wc := (wd_Model_fails kA a0 v0_1 v0_2 v0_3 (.ref a3) (.ref a4) v0_6 v0_7 v0_8 v0_9 v0_10 v0_11 (.int x0_12) (.ref a1) (.ref a5) (.int x0_15) (.int x0_16) (.ref a12) (.ref a2) (.ref a9) (.ref a6) (.ref a11) (.int u_11.1) (.int u_11.2) (.ref a10) (.ref a7) (.ref a8) (.int x0_27) (.int x0_28) x0_0)) hD hS hA [0] rfl
            refine va_calli (va_runV (As := [.int 3]) (rest := []) ⟨hx, hb, hml, hown, hts⟩ (c_Model_fails l dC dI kA H.size a0 v0_1 v0_2 v0_3 (.ref a3) (.ref a4) v0_6 v0_7 v0_8 v0_9 v0_10 v0_11 (.int x0_12) (.ref a1) (.ref a5) (.int x0_15) (.int x0_16) (.ref a12) (.ref a2) (.ref a9) (.ref a6) (.ref a11) (.int u_11.1) (.int u_11.2) (.ref a10) (.ref a7) (.ref a8) (.int x0_27) (.int x0_28) 3 x0_0 u_12.1 u_12.2 hS_12) (cwV 1 hts (gw_V gw_264 gw_265 gw_266 gw_267 gw_268) rfl rfl rfl (by decide +kernel) ⟨Nat.le_of_ble_eq_true rfl, Nat.le_of_ble_eq_true rfl⟩) ⟨fun a U g mk q => by obtain ⟨q0, q1, qP, qK, qD⟩ := q; exact ⟨q0, q1, qP, va_K.moved (u := U) (U := U.calling g mk a) (Vm.Alike.refl U.vm) qK, qD⟩, va_recv hK hP (ci := 9) (q0 := 0) rfl rfl, fun U hU hW => ⟨rfl, by rw [hU], by rw [hU]; exact hPc, va_K.moved hW.alike hK, hDc.weaken (fun _ _ _ _ => trivial)⟩⟩ rfl rfl hl.1 rfl (lv_room (Nat.le_of_ble_eq_true rfl)) d_Model_repair_116 ⟨Nat.zero_le _, Nat.zero_le _⟩) hS (fun q _ h => hFc q h) hFc (fun r1 u t H1 locs ht hvm hw hB hz1 hk1 hS => ?_)
            rw [show r1 = _ from hw]
            obtain ⟨hP1, hK1, hD1⟩ := hB
            rw [ht] at hP1
            obtain ⟨hP, hD⟩ := va_join (wr := [(a1, .inl (kA 0, 2310, .inl f1)), (a2, .inl (kA 0, 24, .inl f2)), (a3, .inl (kA 0, 11, .inl f3)), (a4, .inl (kA 0, 11, .inl f4)), (a5, .inl (kA 0, 492, .inl f5)), (a6, .inl (kA 0, 6, .inl f6)), (a7, .inl (kA 0, 40, .inl f7)), (a8, .inl (kA 0, 8, .inl f8)), (a9, .inl (kA 0, 400, .inl f9)), (a10, .inl (kA 0, 280, .inl f10)), (a11, .inl (kA 0, 6, .inl f11)), (a12, .inl (kA 0, 16, .inl f12))]) (w1 := (wd_Model_fails kA a0 v0_1 v0_2 v0_3 (.ref a3) (.ref a4) v0_6 v0_7 v0_8 v0_9 v0_10 v0_11 (.int x0_12) (.ref a1) (.ref a5) (.int x0_15) (.int x0_16) (.ref a12) (.ref a2) (.ref a9) (.ref a6) (.ref a11) (.int u_11.1) (.int u_11.2) (.ref a10) (.ref a7) (.ref a8) (.int x0_27) (.int x0_28) u_12.2)) hP hD [0] [1, 2, 3, 4, 5, 6, 7, 8, 9, 10, 11, 12] rfl rfl (by decide) (by decide) hk1 hFc hP1 hD1
            have hP := hP.sub (ws' := (wd_Model_repair kA a0 a1 a2 a3 a4 a5 a6 a7 a8 a9 a10 a11 a12 v0_1 v0_2 v0_3 v0_6 v0_7 v0_8 v0_9 v0_10 v0_11 u_12.2 x0_12 x0_15 x0_16 u_11.1 u_11.2 x0_27 x0_28 f1 f2 f3 f4 f5 f6 f7 f8 f9 f10 f11 f12)) [12, 0, 1, 2, 3, 4, 5, 6, 7, 8, 9, 10, 11] rfl
            have hD := hD.sub (ws' := (wd_Model_repair kA a0 a1 a2 a3 a4 a5 a6 a7 a8 a9 a10 a11 a12 v0_1 v0_2 v0_3 v0_6 v0_7 v0_8 v0_9 v0_10 v0_11 u_12.2 x0_12 x0_15 x0_16 u_11.1 u_11.2 x0_27 x0_28 f1 f2 f3 f4 f5 f6 f7 f8 f9 f10 f11 f12)) [12, 0, 1, 2, 3, 4, 5, 6, 7, 8, 9, 10, 11] (by decide) rfl
            clear hPc hDc hFc hP1 hK1 hD1
            generalize H1 = H at hP hS ⊢
            have e0 := Option.some.inj hF
            have q0 := Prod.mk.inj e0
            have q1 := Prod.mk.inj q0.2
            have q2 := Prod.mk.inj q1.2
            have q3 := Prod.mk.inj q2.2
            have q4 := Prod.mk.inj q3.2
            have q5 := Prod.mk.inj q4.2
            have q6 := Prod.mk.inj q5.2
            have q7 := Prod.mk.inj q6.2
            have q8 := Prod.mk.inj q7.2
            have q9 := Prod.mk.inj q8.2
            have q10 := Prod.mk.inj q9.2
            exact W.iret (v := u_12.1) hx hb hr (fun t ht hW => ⟨⟨u_12.1, (), rfl, q0.1, by rw [ht, ← q1.1, ← q2.1, ← q3.1, ← q4.1, ← q5.1, ← q6.1, ← q7.1, ← q8.1, ← q9.1, ← q10.1, ← q10.2]; exact hP, va_K.moved hW.alike hK, (by rw [← q1.1, ← q2.1, ← q3.1, ← q4.1, ← q5.1, ← q6.1, ← q7.1, ← q8.1, ← q9.1, ← q10.1, ← q10.2]; exact hD)⟩, hS.F ht⟩) hS.2.2 d_Model_repair_119 hlocks
        · rw [if_neg (fun z => z c_9)] at hF
          refine lv_aload_n hx hb d_Model_repair_73 rfl (lv_at hl 0 rfl) ?_
          refine lv_iload_n hx hb d_Model_repair_74 rfl (lv_at hl 2 rfl) ?_
          refine lv_iload_n hx hb d_Model_repair_75 rfl (lv_at hl 1 rfl) ?_
          obtain ⟨u_13, hS_13, hF⟩ := rd_bind hF
          have hPc := hP.sub (ws' := (wd_Model_search kA a0 a1 a2 a3 a4 a5 a6 a7 a8 a9 a10 a11 a12 (.int x0_0) v0_1 v0_2 v0_3 v0_6 v0_7 v0_8 v0_9 v0_10 v0_11 (.int x0_12) (.int x0_23) x0_15 x0_16 x0_22 x0_27 x0_28 f1 f2 f3 f4 f5 f6 f7 f8 f9 f10 f11 f12)) [0, 1, 2, 3, 4, 5, 6, 7, 8, 9, 10, 11, 12] rfl
          have hDc := hD.sub (ws' := (wd_Model_search kA a0 a1 a2 a3 a4 a5 a6 a7 a8 a9 a10 a11 a12 (.int x0_0) v0_1 v0_2 v0_3 v0_6 v0_7 v0_8 v0_9 v0_10 v0_11 (.int x0_12) (.int x0_23) x0_15 x0_16 x0_22 x0_27 x0_28 f1 f2 f3 f4 f5 f6 f7 f8 f9 f10 f11 f12)) [0, 1, 2, 3, 4, 5, 6, 7, 8, 9, 10, 11, 12] (by decide) rfl
          have hFc := va_free (wc := (wd_Model_search kA a0 a1 a2 a3 a4 a5 a6 a7 a8 a9 a10 a11 a12 (.int x0_0) v0_1 v0_2 v0_3 v0_6 v0_7 v0_8 v0_9 v0_10 v0_11 (.int x0_12) (.int x0_23) x0_15 x0_16 x0_22 x0_27 x0_28 f1 f2 f3 f4 f5 f6 f7 f8 f9 f10 f11 f12)) hD hS hA [0, 1, 2, 3, 4, 5, 6, 7, 8, 9, 10, 11, 12] rfl
          refine va_callv (va_runV (As := [.int l2, .int l1]) (rest := []) ⟨hx, hb, hml, hown, hts⟩ (c_Model_search l dC dI kA H.size a0 a1 a2 a3 a4 a5 a6 a7 a8 a9 a10 a11 a12 (.int x0_0) v0_1 v0_2 v0_3 v0_6 v0_7 v0_8 v0_9 v0_10 v0_11 (.int x0_12) (.int x0_23) l2 l1 x0_15 x0_16 x0_22 x0_27 x0_28 f1 f2 f3 f4 f5 f6 f7 f8 f9 f10 f11 f12 u_13.1 u_13.2.1 u_13.2.2.1 u_13.2.2.2.1 u_13.2.2.2.2.1 u_13.2.2.2.2.2.1 u_13.2.2.2.2.2.2.1 u_13.2.2.2.2.2.2.2 hS_13) (cwV 2 hts (gw_V gw_355 gw_356 gw_357 gw_267 gw_358) rfl rfl rfl (by decide +kernel) ⟨Nat.le_of_ble_eq_true rfl, Nat.le_of_ble_eq_true rfl⟩) ⟨fun a U g mk q => by obtain ⟨q0, q1, qP, qK, qD⟩ := q; exact ⟨q0, q1, qP, va_K.moved (u := U) (U := U.calling g mk a) (Vm.Alike.refl U.vm) qK, qD⟩, va_recv hK hP (ci := 9) (q0 := 0) rfl rfl, fun U hU hW => ⟨rfl, by rw [hU], by rw [hU]; exact hPc, va_K.moved hW.alike hK, hDc.weaken (fun _ _ _ _ => trivial)⟩⟩ rfl rfl hl.1 rfl (lv_room (Nat.le_of_ble_eq_true rfl)) d_Model_repair_76 ⟨Nat.zero_le _, Nat.zero_le _⟩) hS (fun q _ h => hFc q h) hFc (fun u t H1 locs ht hvm hw hB hz1 hk1 hS => ?_)
          obtain ⟨hP1, hK1, hD1⟩ := hB
          rw [ht] at hP1
          obtain ⟨hP, hD⟩ := va_join (wr := []) (w1 := (wd_Model_search kA a0 a1 a2 a3 a4 a5 a6 a7 a8 a9 a10 a11 a12 (.int x0_0) v0_1 v0_2 v0_3 v0_6 v0_7 v0_8 v0_9 v0_10 v0_11 (.int x0_12) (.int x0_23) x0_15 x0_16 u_13.1 u_13.2.1 u_13.2.2.1 f1 u_13.2.2.2.1 f3 f4 f5 f6 u_13.2.2.2.2.1 u_13.2.2.2.2.2.1 u_13.2.2.2.2.2.2.1 u_13.2.2.2.2.2.2.2 f11 f12)) hP hD [0, 1, 2, 3, 4, 5, 6, 7, 8, 9, 10, 11, 12] [] rfl rfl (by decide) (by decide) hk1 hFc hP1 hD1
          have hP := hP.sub (ws' := (wd_Model_repair kA a0 a1 a2 a3 a4 a5 a6 a7 a8 a9 a10 a11 a12 v0_1 v0_2 v0_3 v0_6 v0_7 v0_8 v0_9 v0_10 v0_11 x0_0 x0_12 x0_15 x0_16 u_13.1 x0_23 u_13.2.1 u_13.2.2.1 f1 u_13.2.2.2.1 f3 f4 f5 f6 u_13.2.2.2.2.1 u_13.2.2.2.2.2.1 u_13.2.2.2.2.2.2.1 u_13.2.2.2.2.2.2.2 f11 f12)) [0, 1, 2, 3, 4, 5, 6, 7, 8, 9, 10, 11, 12] rfl
          have hD := hD.sub (ws' := (wd_Model_repair kA a0 a1 a2 a3 a4 a5 a6 a7 a8 a9 a10 a11 a12 v0_1 v0_2 v0_3 v0_6 v0_7 v0_8 v0_9 v0_10 v0_11 x0_0 x0_12 x0_15 x0_16 u_13.1 x0_23 u_13.2.1 u_13.2.2.1 f1 u_13.2.2.2.1 f3 f4 f5 f6 u_13.2.2.2.2.1 u_13.2.2.2.2.2.1 u_13.2.2.2.2.2.2.1 u_13.2.2.2.2.2.2.2 f11 f12)) [0, 1, 2, 3, 4, 5, 6, 7, 8, 9, 10, 11, 12] (by decide) rfl
          clear hPc hDc hFc hP1 hK1 hD1
          generalize H1 = H at hP hS ⊢
          refine lv_aload_n hx hb d_Model_repair_79 rfl (lv_at hl 0 rfl) ?_
          refine lv_aload_n hx hb d_Model_repair_80 rfl (lv_at hl 0 rfl) ?_
          refine va_get (D := (dC, dI)) (ci := 9) (v := .int u_13.1) (C := R_Model) (T := F_Model) (N := 29) hx hb hg iw_Model hown hK hP 0 rfl rfl 22 (by decide) (hg _ gw_262) (fun _ h9 => h9) rfl d_Model_repair_81 ?_
          refine lv_if_le (tgt := 91) hx hb d_Model_repair_84 (by decide) (fun c_14 => ?_) (fun c_14 => ?_)
          · rw [if_pos c_14] at hF
            refine lv_iconst (v := 0) hx hb d_Model_repair_91 (by decide) ?_
            refine va_put (D := (dC, dI)) (ci := 9) (v := .int 0) (ty := .int) (C := R_Model) (T := F_Model) (N := 29) hx hb hg iw_Model t_Model t_Model_ok n_Model hown hK hP hD hS 0 rfl rfl 23 (by decide) (hg _ gw_263) (fun _ h9 => h9) rfl (by decide +kernel) rfl rfl (Nat.le_of_ble_eq_true rfl) d_Model_repair_92 (fun H locs hP hD hS => ?_)
            have hP : va_P (dC, dI) classes (wd_Model_repair kA a0 a1 a2 a3 a4 a5 a6 a7 a8 a9 a10 a11 a12 v0_1 v0_2 v0_3 v0_6 v0_7 v0_8 v0_9 v0_10 v0_11 x0_0 x0_12 x0_15 x0_16 u_13.1 0 u_13.2.1 u_13.2.2.1 f1 u_13.2.2.2.1 f3 f4 f5 f6 u_13.2.2.2.2.1 u_13.2.2.2.2.2.1 u_13.2.2.2.2.2.2.1 u_13.2.2.2.2.2.2.2 f11 f12) H := hP
            have hD : va_D A (wd_Model_repair kA a0 a1 a2 a3 a4 a5 a6 a7 a8 a9 a10 a11 a12 v0_1 v0_2 v0_3 v0_6 v0_7 v0_8 v0_9 v0_10 v0_11 x0_0 x0_12 x0_15 x0_16 u_13.1 0 u_13.2.1 u_13.2.2.1 f1 u_13.2.2.2.1 f3 f4 f5 f6 u_13.2.2.2.2.1 u_13.2.2.2.2.2.1 u_13.2.2.2.2.2.2.1 u_13.2.2.2.2.2.2.2 f11 f12) := hD
            refine lv_iinc (v := (l2 + 1)) (lv' := [(2, .int (l2 + 1)), (0, .ref a0), (1, .int l1)]) hx hb d_Model_repair_95 hl (k := 2) rfl (by rfl) (by decide) rfl (fun ls hl => ?_)
            refine lv_goto (tgt := 61) hx hb d_Model_repair_98 (by decide) ?_
            exact ih.2 l1 (l2 + 1) 0 x0_0 x0_16 u_13.1 0 u_13.2.1 u_13.2.2.1 u_13.2.2.2.1 u_13.2.2.2.2.1 u_13.2.2.2.2.2.1 u_13.2.2.2.2.2.2.1 u_13.2.2.2.2.2.2.2 hF _ _ _ hP hD hS (lv_sub hl [1, 2, 0] rfl)
          · rw [if_neg c_14] at hF
            refine lv_iload_n hx hb d_Model_repair_87 rfl (lv_at hl 2 rfl) ?_
            refine lv_goto (tgt := 92) hx hb d_Model_repair_88 (by decide) ?_
            refine va_put (D := (dC, dI)) (ci := 9) (v := .int l2) (ty := .int) (C := R_Model) (T := F_Model) (N := 29) hx hb hg iw_Model t_Model t_Model_ok n_Model hown hK hP hD hS 0 rfl rfl 23 (by decide) (hg _ gw_263) (fun _ h9 => h9) rfl (by decide +kernel) rfl rfl (Nat.le_of_ble_eq_true rfl) d_Model_repair_92 (fun H locs hP hD hS => ?_)
            have hP : va_P (dC, dI) classes (wd_Model_repair kA a0 a1 a2 a3 a4 a5 a6 a7 a8 a9 a10 a11 a12 v0_1 v0_2 v0_3 v0_6 v0_7 v0_8 v0_9 v0_10 v0_11 x0_0 x0_12 x0_15 x0_16 u_13.1 l2 u_13.2.1 u_13.2.2.1 f1 u_13.2.2.2.1 f3 f4 f5 f6 u_13.2.2.2.2.1 u_13.2.2.2.2.2.1 u_13.2.2.2.2.2.2.1 u_13.2.2.2.2.2.2.2 f11 f12) H := hP
            have hD : va_D A (wd_Model_repair kA a0 a1 a2 a3 a4 a5 a6 a7 a8 a9 a10 a11 a12 v0_1 v0_2 v0_3 v0_6 v0_7 v0_8 v0_9 v0_10 v0_11 x0_0 x0_12 x0_15 x0_16 u_13.1 l2 u_13.2.1 u_13.2.2.1 f1 u_13.2.2.2.1 f3 f4 f5 f6 u_13.2.2.2.2.1 u_13.2.2.2.2.2.1 u_13.2.2.2.2.2.2.1 u_13.2.2.2.2.2.2.2 f11 f12) := hD
            refine lv_iinc (v := (l2 + 1)) (lv' := [(2, .int (l2 + 1)), (0, .ref a0), (1, .int l1)]) hx hb d_Model_repair_95 hl (k := 2) rfl (by rfl) (by decide) rfl (fun ls hl => ?_)
            refine lv_goto (tgt := 61) hx hb d_Model_repair_98 (by decide) ?_
            exact ih.2 l1 (l2 + 1) 0 x0_0 x0_16 u_13.1 l2 u_13.2.1 u_13.2.2.1 u_13.2.2.2.1 u_13.2.2.2.2.1 u_13.2.2.2.2.2.1 u_13.2.2.2.2.2.2.1 u_13.2.2.2.2.2.2.2 hF _ _ _ hP hD hS (lv_sub hl [1, 2, 0] rfl)
def S_Model_repair (p1 : Int32) (x0_0 : Int32) (x0_12 : Int32) (x0_15 : Int32) (x0_16 : Int32) (x0_22 : Int32) (x0_23 : Int32) (x0_27 : Int32) (x0_28 : Int32) (f1 : (Nat → Int32)) (f2 : (Nat → Int32)) (f3 : (Nat → Int32)) (f4 : (Nat → Int32)) (f5 : (Nat → Int32)) (f6 : (Nat → Int32)) (f7 : (Nat → Int32)) (f8 : (Nat → Int32)) (f9 : (Nat → Int32)) (f10 : (Nat → Int32)) (f11 : (Nat → Int32)) (f12 : (Nat → Int32)) : Option (Int32 × Int32 × Int32 × Int32 × Int32 × Int32 × Int32 × (Nat → Int32) × (Nat → Int32) × (Nat → Int32) × (Nat → Int32) × (Nat → Int32)) := (if ¬ x0_12 = 0 then (if p1 < 0 then (F_Model_repair x0_12 x0_15 f1 f3 f4 f5 f6 f11 f12 fuel_ 0 p1 0 2 x0_0 x0_16 x0_22 x0_23 x0_27 x0_28 f2 f7 f8 f9 f10) else (if p1 ≤ 3 then (F_Model_repair x0_12 x0_15 f1 f3 f4 f5 f6 f11 f12 fuel_ 0 p1 0 0 x0_0 x0_16 x0_22 x0_23 x0_27 x0_28 f2 f7 f8 f9 f10) else (F_Model_repair x0_12 x0_15 f1 f3 f4 f5 f6 f11 f12 fuel_ 0 p1 0 2 x0_0 x0_16 x0_22 x0_23 x0_27 x0_28 f2 f7 f8 f9 f10))) else (F_Model_repair x0_12 x0_15 f1 f3 f4 f5 f6 f11 f12 fuel_ 0 p1 0 1 x0_0 x0_16 x0_22 x0_23 x0_27 x0_28 f2 f7 f8 f9 f10))
set_option maxHeartbeats 4000000 in
set_option maxRecDepth 100000 in
theorem c_Model_repair (l : Launch) (dC : Nat → ClassId) (dI : Nat → Nat → Nat) (kA : Nat → ClassId) (sz : Nat) (a0 a1 a2 a3 a4 a5 a6 a7 a8 a9 a10 a11 a12 : Nat) (v0_1 v0_2 v0_3 v0_6 v0_7 v0_8 v0_9 v0_10 v0_11 : Value) (p1 : Int32) (x0_0 : Int32) (x0_12 : Int32) (x0_15 : Int32) (x0_16 : Int32) (x0_22 : Int32) (x0_23 : Int32) (x0_27 : Int32) (x0_28 : Int32) (f1 : (Nat → Int32)) (f2 : (Nat → Int32)) (f3 : (Nat → Int32)) (f4 : (Nat → Int32)) (f5 : (Nat → Int32)) (f6 : (Nat → Int32)) (f7 : (Nat → Int32)) (f8 : (Nat → Int32)) (f9 : (Nat → Int32)) (f10 : (Nat → Int32)) (f11 : (Nat → Int32)) (f12 : (Nat → Int32)) (r : Int32) (ox0_0 : Int32) (ox0_16 : Int32) (ox0_22 : Int32) (ox0_23 : Int32) (ox0_27 : Int32) (ox0_28 : Int32) (of2 : (Nat → Int32)) (of7 : (Nat → Int32)) (of8 : (Nat → Int32)) (of9 : (Nat → Int32)) (of10 : (Nat → Int32)) (hF : S_Model_repair p1 x0_0 x0_12 x0_15 x0_16 x0_22 x0_23 x0_27 x0_28 f1 f2 f3 f4 f5 f6 f7 f8 f9 f10 f11 f12 = some (r, ox0_0, ox0_16, ox0_22, ox0_23, ox0_27, ox0_28, of2, of7, of8, of9, of10)) : Met l y_Model_repair w_Model_repair rm_Model_repair (va_Pc [.ref a0, .int p1] (fun U => U.heap.size = sz ∧ va_P (dC, dI) classes (wd_Model_repair kA a0 a1 a2 a3 a4 a5 a6 a7 a8 a9 a10 a11 a12 v0_1 v0_2 v0_3 v0_6 v0_7 v0_8 v0_9 v0_10 v0_11 x0_0 x0_12 x0_15 x0_16 x0_22 x0_23 x0_27 x0_28 f1 f2 f3 f4 f5 f6 f7 f8 f9 f10 f11 f12) U.heap ∧ va_K (dC, dI) classes (tys_ kA) U ∧ va_D (fun _ => True) (wd_Model_repair kA a0 a1 a2 a3 a4 a5 a6 a7 a8 a9 a10 a11 a12 v0_1 v0_2 v0_3 v0_6 v0_7 v0_8 v0_9 v0_10 v0_11 x0_0 x0_12 x0_15 x0_16 x0_22 x0_23 x0_27 x0_28 f1 f2 f3 f4 f5 f6 f7 f8 f9 f10 f11 f12))) (va_Qi (fun (r1 : Int32) (_ : Unit) => r1 = r) (fun _ t => va_P (dC, dI) classes (wd_Model_repair kA a0 a1 a2 a3 a4 a5 a6 a7 a8 a9 a10 a11 a12 v0_1 v0_2 v0_3 v0_6 v0_7 v0_8 v0_9 v0_10 v0_11 ox0_0 x0_12 x0_15 ox0_16 ox0_22 ox0_23 ox0_27 ox0_28 f1 of2 f3 f4 f5 f6 of7 of8 of9 of10 f11 f12) t.heap ∧ va_K (dC, dI) classes (tys_ kA) t ∧ va_D (va_A (wd_Model_repair kA a0 a1 a2 a3 a4 a5 a6 a7 a8 a9 a10 a11 a12 v0_1 v0_2 v0_3 v0_6 v0_7 v0_8 v0_9 v0_10 v0_11 x0_0 x0_12 x0_15 x0_16 x0_22 x0_23 x0_27 x0_28 f1 f2 f3 f4 f5 f6 f7 f8 f9 f10 f11 f12) sz) (wd_Model_repair kA a0 a1 a2 a3 a4 a5 a6 a7 a8 a9 a10 a11 a12 v0_1 v0_2 v0_3 v0_6 v0_7 v0_8 v0_9 v0_10 v0_11 ox0_0 x0_12 x0_15 ox0_16 ox0_22 ox0_23 ox0_27 ox0_28 f1 of2 f3 f4 f5 f6 of7 of8 of9 of10 f11 f12)) (va_A (wd_Model_repair kA a0 a1 a2 a3 a4 a5 a6 a7 a8 a9 a10 a11 a12 v0_1 v0_2 v0_3 v0_6 v0_7 v0_8 v0_9 v0_10 v0_11 x0_0 x0_12 x0_15 x0_16 x0_22 x0_23 x0_27 x0_28 f1 f2 f3 f4 f5 f6 f7 f8 f9 f10 f11 f12) sz)) 0 0 (va_A (wd_Model_repair kA a0 a1 a2 a3 a4 a5 a6 a7 a8 a9 a10 a11 a12 v0_1 v0_2 v0_3 v0_6 v0_7 v0_8 v0_9 v0_10 v0_11 x0_0 x0_12 x0_15 x0_16 x0_22 x0_23 x0_27 x0_28 f1 f2 f3 f4 f5 f6 f7 f8 f9 f10 f11 f12) sz) := by
  refine Met.ofW (cc := b_Model_repair) (maxL := 3) (ret := some .int) (by decide) rfl ?_
  intro p e s m args below meth c s₁ B hml hv
  obtain ⟨rfl, hsz, hP, hK, hD0⟩ := hv
  have hx := B.exec
  have hb := B.bytes
  have hr := B.returns
  have hts := atoms_spec (ws := w_Model_repair) B.pre
  have hown : s.vm.findClass R_Model = some m.cls := findClass_of_methodNamed B.named
  have hg := fun (w : Cond) (h : w ∈ gw) => hts w (List.mem_cons_of_mem _ h)
  have hlocks := B.notSynchronized
  subst hsz
  have hD := hD0.self (sz := s.heap.size)
  generalize hAe : va_A (wd_Model_repair kA a0 a1 a2 a3 a4 a5 a6 a7 a8 a9 a10 a11 a12 v0_1 v0_2 v0_3 v0_6 v0_7 v0_8 v0_9 v0_10 v0_11 x0_0 x0_12 x0_15 x0_16 x0_22 x0_23 x0_27 x0_28 f1 f2 f3 f4 f5 f6 f7 f8 f9 f10 f11 f12) s.heap.size = A at hD ⊢
  have hA : ∀ q : Nat, s.heap.size ≤ q → A q := fun q h => by rw [← hAe]; exact Or.inr h
  have hS : va_S A s.heap s.heap [] := va_S.rf
  have hl := lv_entry ([.ref a0, .int p1]) (n := 3) (Nat.le_of_ble_eq_true rfl)
  rw [lg_entry_eq]
  generalize (lg_sl ([.ref a0, .int p1]) ++ List.replicate (3 - (lg_sl ([.ref a0, .int p1])).length) Slot.unset).toArray = ls at hl ⊢
  have hl : lv_has ls 3 [(0, .ref a0), (1, .int p1)] := hl
  unfold S_Model_repair at hF
  have ih := L_Model_repair (l := l) (e := e) (below := below) hx hb hr hlocks hml hown hts hA hK a0 a1 a2 a3 a4 a5 a6 a7 a8 a9 a10 a11 a12 v0_1 v0_2 v0_3 v0_6 v0_7 v0_8 v0_9 v0_10 v0_11 x0_12 x0_15 f1 f3 f4 f5 f6 f11 f12 r ox0_0 ox0_16 ox0_22 ox0_23 ox0_27 ox0_28 of2 of7 of8 of9 of10 fuel_
  refine lv_aload_n hx hb d_Model_repair_0 rfl (lv_at hl 0 rfl) ?_
  refine lv_aload_n hx hb d_Model_repair_1 rfl (lv_at hl 0 rfl) ?_
  refine va_get (D := (dC, dI)) (ci := 9) (v := .int x0_12) (C := R_Model) (T := F_Model) (N := 29) hx hb hg iw_Model hown hK hP 0 rfl rfl 12 (by decide) (hg _ gw_280) (fun _ h9 => h9) rfl d_Model_repair_2 ?_
  refine lv_if_ne (tgt := 12) hx hb d_Model_repair_5 (by decide) (fun c_15 => ?_) (fun c_15 => ?_)
  · rw [if_pos c_15] at hF
    refine lv_iload_n hx hb d_Model_repair_12 rfl (lv_at hl 1 rfl) ?_
    refine lv_if_lt (tgt := 21) hx hb d_Model_repair_13 (by decide) (fun c_16 => ?_) (fun c_16 => ?_)
    · rw [if_pos c_16] at hF
      refine lv_iconst (v := 2) hx hb d_Model_repair_21 (by decide) ?_
      refine lv_goto (tgt := 26) hx hb d_Model_repair_22 (by decide) ?_
      exact ih.1 p1 0 2 x0_0 x0_16 x0_22 x0_23 x0_27 x0_28 f2 f7 f8 f9 f10 hF _ _ _ hP hD hS (lv_sub hl [0, 1] rfl)
    · rw [if_neg c_16] at hF
      refine lv_iload_n hx hb d_Model_repair_16 rfl (lv_at hl 1 rfl) ?_
      refine lv_iconst (v := 3) hx hb d_Model_repair_17 (by decide) ?_
      refine lv_icmp_le (tgt := 25) hx hb d_Model_repair_18 (by decide) (fun c_17 => ?_) (fun c_17 => ?_)
      · rw [if_pos c_17] at hF
        refine lv_iconst (v := 0) hx hb d_Model_repair_25 (by decide) ?_
        exact ih.1 p1 0 0 x0_0 x0_16 x0_22 x0_23 x0_27 x0_28 f2 f7 f8 f9 f10 hF _ _ _ hP hD hS (lv_sub hl [0, 1] rfl)
      · rw [if_neg c_17] at hF
        refine lv_iconst (v := 2) hx hb d_Model_repair_21 (by decide) ?_
        refine lv_goto (tgt := 26) hx hb d_Model_repair_22 (by decide) ?_
        exact ih.1 p1 0 2 x0_0 x0_16 x0_22 x0_23 x0_27 x0_28 f2 f7 f8 f9 f10 hF _ _ _ hP hD hS (lv_sub hl [0, 1] rfl)
  · rw [if_neg (fun z => z c_15)] at hF
    refine lv_iconst (v := 1) hx hb d_Model_repair_8 (by decide) ?_
    refine lv_goto (tgt := 26) hx hb d_Model_repair_9 (by decide) ?_
    exact ih.1 p1 0 1 x0_0 x0_16 x0_22 x0_23 x0_27 x0_28 f2 f7 f8 f9 f10 hF _ _ _ hP hD hS (lv_sub hl [0, 1] rfl)
