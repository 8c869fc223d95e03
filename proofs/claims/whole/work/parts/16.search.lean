-- ===== RepairDesk$Search.keepIfHelping(III)V
abbrev wd_Search_keepIfHelping (kA : Nat → ClassId) (a0 a1 a2 a3 a4 a5 a6 a7 a8 a9 a10 a11 a12 a13 a14 a15 a16 : Nat) (v0_2 v1_5 v4_1 v9_2 v9_3 v9_4 v9_5 v9_6 v11_0 v11_4 : Value) (x0_5 : Int32) (x0_6 : Int32) (x0_7 : Int32) (x1_3 : Int32) (x1_4 : Int32) (f2 : (Nat → Int32)) (x4_2 : Int32) (f5 : (Nat → Int32)) (f6 : (Nat → Int32)) (f7 : (Nat → Int32)) (f8 : (Nat → Int32)) (f10 : (Nat → Int32)) (x11_3 : Int32) (f12 : (Nat → Int32)) (f13 : (Nat → Int32)) (f14 : (Nat → Int32)) (f15 : (Nat → Int32)) (f16 : (Nat → Int32)) : va_W := [(a0, .inr (4, [.ref a3, .ref a4, v0_2, .ref a1, .ref a2, .int x0_5, .int x0_6, .int x0_7])), (a1, .inr (1, [.ref a7, .ref a5, .ref a6, .int x1_3, .int x1_4, v1_5])), (a2, .inl (kA 0, 6, .inl f2)), (a3, .inr (5, [.ref a9, .ref a11, .ref a8, .ref a10])), (a4, .inr (7, [.ref a12, v4_1, .int x4_2])), (a5, .inl (kA 0, 40, .inl f5)), (a6, .inl (kA 0, 40, .inl f6)), (a7, .inl (kA 0, 240, .inl f7)), (a8, .inl (kA 0, 4096, .inl f8)), (a9, .inr (2, [.ref a13, .ref a14, v9_2, v9_3, v9_4, v9_5, v9_6])), (a10, .inl (kA 0, 8, .inl f10)), (a11, .inr (6, [v11_0, .ref a16, .ref a15, .int x11_3, v11_4])), (a12, .inl (kA 0, 16, .inl f12)), (a13, .inl (kA 0, 12, .inl f13)), (a14, .inl (kA 0, 12, .inl f14)), (a15, .inl (kA 0, 280, .inl f15)), (a16, .inl (kA 0, 480, .inl f16))]
abbrev rm_Search_keepIfHelping : Room := { frames := 3, cells := 0, slots := 0, locals := 108 }
def B_Search_keepIfHelping_0 (K : Nat → Int32 → Int32 → Int32 → Int32 → Int32 → Int32 → Int32 → Int32 → Int32 → (Nat → Int32) → (Nat → Int32) → (Nat → Int32) → (Nat → Int32) → (Nat → Int32) → Option (Int32 × Int32 × Int32 × (Nat → Int32) × (Nat → Int32) × (Nat → Int32) × (Nat → Int32) × (Nat → Int32))) (x0_5 : Int32) (x0_6 : Int32) (f2 : (Nat → Int32)) (x4_2 : Int32) (x11_3 : Int32) (f12 : (Nat → Int32)) (f13 : (Nat → Int32)) (f14 : (Nat → Int32)) (f15 : (Nat → Int32)) (f16 : (Nat → Int32)) (l1 : Int32) (l2 : Int32) (l3 : Int32) (l4 : Int32) (l5 : Int32) (s0 : Int32) (x0_7 : Int32) (x1_3 : Int32) (x1_4 : Int32) (f5 : (Nat → Int32)) (f6 : (Nat → Int32)) (f7 : (Nat → Int32)) (f8 : (Nat → Int32)) (f10 : (Nat → Int32)) : Option (Int32 × Int32 × Int32 × (Nat → Int32) × (Nat → Int32) × (Nat → Int32) × (Nat → Int32) × (Nat → Int32)) := ((S_Text_size x4_2).bind fun u_1 => (if u_1 ≤ (l3 + l4) then (K 1 l1 l2 l3 l4 l5 0 x0_7 x1_3 x1_4 f5 f6 f7 f8 f10) else ((S_Text_letterAt (l3 + l4) x4_2 f12).bind fun u_3 => ((S_Stacks_feed l5 7 u_3 f8 f10 x11_3 f13 f14 f15 f16).bind fun u_4 => (if u_4.1 = 0 then (K 1 l1 l2 l3 l4 l5 0 x0_7 x1_3 x1_4 f5 f6 f7 u_4.2.1 u_4.2.2) else (K 0 l1 l2 l3 (l4 + 1) 7 0 x0_7 x1_3 x1_4 f5 f6 f7 u_4.2.1 u_4.2.2))))))
def B_Search_keepIfHelping_1 (K : Nat → Int32 → Int32 → Int32 → Int32 → Int32 → Int32 → Int32 → Int32 → Int32 → (Nat → Int32) → (Nat → Int32) → (Nat → Int32) → (Nat → Int32) → (Nat → Int32) → Option (Int32 × Int32 × Int32 × (Nat → Int32) × (Nat → Int32) × (Nat → Int32) × (Nat → Int32) × (Nat → Int32))) (x0_5 : Int32) (x0_6 : Int32) (f2 : (Nat → Int32)) (x4_2 : Int32) (x11_3 : Int32) (f12 : (Nat → Int32)) (f13 : (Nat → Int32)) (f14 : (Nat → Int32)) (f15 : (Nat → Int32)) (f16 : (Nat → Int32)) (l1 : Int32) (l2 : Int32) (l3 : Int32) (l4 : Int32) (l5 : Int32) (s0 : Int32) (x0_7 : Int32) (x1_3 : Int32) (x1_4 : Int32) (f5 : (Nat → Int32)) (f6 : (Nat → Int32)) (f7 : (Nat → Int32)) (f8 : (Nat → Int32)) (f10 : (Nat → Int32)) : Option (Int32 × Int32 × Int32 × (Nat → Int32) × (Nat → Int32) × (Nat → Int32) × (Nat → Int32) × (Nat → Int32)) := ((S_Text_size x4_2).bind fun u_6 => (if ¬ (l3 + l4) = u_6 then (K 2 l1 l2 l3 l4 l5 0 x0_7 x1_3 x1_4 f5 f6 f7 f8 f10) else (K 2 l1 l2 l3 l4 l5 1 x0_7 x1_3 x1_4 f5 f6 f7 f8 f10)))
def B_Search_keepIfHelping_2 (K : Nat → Int32 → Int32 → Int32 → Int32 → Int32 → Int32 → Int32 → Int32 → Int32 → (Nat → Int32) → (Nat → Int32) → (Nat → Int32) → (Nat → Int32) → (Nat → Int32) → Option (Int32 × Int32 × Int32 × (Nat → Int32) × (Nat → Int32) × (Nat → Int32) × (Nat → Int32) × (Nat → Int32))) (x0_5 : Int32) (x0_6 : Int32) (f2 : (Nat → Int32)) (x4_2 : Int32) (x11_3 : Int32) (f12 : (Nat → Int32)) (f13 : (Nat → Int32)) (f14 : (Nat → Int32)) (f15 : (Nat → Int32)) (f16 : (Nat → Int32)) (l1 : Int32) (l2 : Int32) (l3 : Int32) (l4 : Int32) (l5 : Int32) (s0 : Int32) (x0_7 : Int32) (x1_3 : Int32) (x1_4 : Int32) (f5 : (Nat → Int32)) (f6 : (Nat → Int32)) (f7 : (Nat → Int32)) (f8 : (Nat → Int32)) (f10 : (Nat → Int32)) : Option (Int32 × Int32 × Int32 × (Nat → Int32) × (Nat → Int32) × (Nat → Int32) × (Nat → Int32) × (Nat → Int32)) := (if x0_5 ≤ l4 then ((S_Finds_add l1 l4 x0_6 x1_3 x1_4 f5 f6 f7 f2).bind fun u_9 => (if ¬ u_9.1 = 0 then (if ((x0_7 ||| 0) : Int32) = 0 ∨ (x0_7 ||| 0) = 1 then (some ((x0_7 ||| 0), u_9.2.1, u_9.2.2.1, u_9.2.2.2.1, u_9.2.2.2.2.1, u_9.2.2.2.2.2, f8, f10)) else none) else (if ((x0_7 ||| 1) : Int32) = 0 ∨ (x0_7 ||| 1) = 1 then (some ((x0_7 ||| 1), u_9.2.1, u_9.2.2.1, u_9.2.2.2.1, u_9.2.2.2.2.1, u_9.2.2.2.2.2, f8, f10)) else none))) else (if s0 = 0 then (some (x0_7, x1_3, x1_4, f5, f6, f7, f8, f10)) else ((S_Stacks_isSentence l5 f8 f10 x11_3 f15 f16).bind fun u_14 => (if u_14 = 0 then (some (x0_7, x1_3, x1_4, f5, f6, f7, f8, f10)) else ((S_Finds_add l1 l4 x0_6 x1_3 x1_4 f5 f6 f7 f2).bind fun u_16 => (if ¬ u_16.1 = 0 then (if ((x0_7 ||| 0) : Int32) = 0 ∨ (x0_7 ||| 0) = 1 then (some ((x0_7 ||| 0), u_16.2.1, u_16.2.2.1, u_16.2.2.2.1, u_16.2.2.2.2.1, u_16.2.2.2.2.2, f8, f10)) else none) else (if ((x0_7 ||| 1) : Int32) = 0 ∨ (x0_7 ||| 1) = 1 then (some ((x0_7 ||| 1), u_16.2.1, u_16.2.2.1, u_16.2.2.2.1, u_16.2.2.2.2.1, u_16.2.2.2.2.2, f8, f10)) else none)))))))
def F_Search_keepIfHelping (x0_5 : Int32) (x0_6 : Int32) (f2 : (Nat → Int32)) (x4_2 : Int32) (x11_3 : Int32) (f12 : (Nat → Int32)) (f13 : (Nat → Int32)) (f14 : (Nat → Int32)) (f15 : (Nat → Int32)) (f16 : (Nat → Int32)) : Nat → Nat → Int32 → Int32 → Int32 → Int32 → Int32 → Int32 → Int32 → Int32 → Int32 → (Nat → Int32) → (Nat → Int32) → (Nat → Int32) → (Nat → Int32) → (Nat → Int32) → Option (Int32 × Int32 × Int32 × (Nat → Int32) × (Nat → Int32) × (Nat → Int32) × (Nat → Int32) × (Nat → Int32))
  | 0 => fun _ _ _ _ _ _ _ _ _ _ _ _ _ _ _ => none
  | n + 1 => fun hd l1 l2 l3 l4 l5 s0 x0_7 x1_3 x1_4 f5 f6 f7 f8 f10 => match hd with
    | 0 => B_Search_keepIfHelping_0 (F_Search_keepIfHelping x0_5 x0_6 f2 x4_2 x11_3 f12 f13 f14 f15 f16 n) x0_5 x0_6 f2 x4_2 x11_3 f12 f13 f14 f15 f16 l1 l2 l3 l4 l5 s0 x0_7 x1_3 x1_4 f5 f6 f7 f8 f10
    | 1 => B_Search_keepIfHelping_1 (F_Search_keepIfHelping x0_5 x0_6 f2 x4_2 x11_3 f12 f13 f14 f15 f16 n) x0_5 x0_6 f2 x4_2 x11_3 f12 f13 f14 f15 f16 l1 l2 l3 l4 l5 s0 x0_7 x1_3 x1_4 f5 f6 f7 f8 f10
    | 2 => B_Search_keepIfHelping_2 (F_Search_keepIfHelping x0_5 x0_6 f2 x4_2 x11_3 f12 f13 f14 f15 f16 n) x0_5 x0_6 f2 x4_2 x11_3 f12 f13 f14 f15 f16 l1 l2 l3 l4 l5 s0 x0_7 x1_3 x1_4 f5 f6 f7 f8 f10
    | _ => none
set_option maxHeartbeats 4000000 in
set_option maxRecDepth 100000 in
theorem L_Search_keepIfHelping {p : Program} {l : Launch} {e : Env} {s : State} {m : MethodId} {args : Array Value} {below : List Frame} {meth : Method} {c : Code} {A : Nat → Prop} {dC : Nat → ClassId} {dI : Nat → Nat → Nat} {kA : Nat → ClassId} (hx : p.tables.exec = Jvm.exec) (hb : c.code = b_Search_keepIfHelping) (hr : meth.sig.returnType = none) (hlocks : meth.locks = false) (hml : c.maxLocals = 7) (hown : s.vm.findClass R_Search = some m.cls) (hts : ∀ w ∈ w_Search_keepIfHelping, w.before args s = true) (hA : ∀ q : Nat, s.heap.size ≤ q → A q) (hK : va_K (dC, dI) classes (tys_ kA) s) (a0 a1 a2 a3 a4 a5 a6 a7 a8 a9 a10 a11 a12 a13 a14 a15 a16 : Nat) (v0_2 v1_5 v4_1 v9_2 v9_3 v9_4 v9_5 v9_6 v11_0 v11_4 : Value) (x0_5 : Int32) (x0_6 : Int32) (f2 : (Nat → Int32)) (x4_2 : Int32) (x11_3 : Int32) (f12 : (Nat → Int32)) (f13 : (Nat → Int32)) (f14 : (Nat → Int32)) (f15 : (Nat → Int32)) (f16 : (Nat → Int32)) (ox0_7 : Int32) (ox1_3 : Int32) (ox1_4 : Int32) (of5 : (Nat → Int32)) (of6 : (Nat → Int32)) (of7 : (Nat → Int32)) (of8 : (Nat → Int32)) (of10 : (Nat → Int32)) : ∀ n : Nat, (∀ (l1 l2 l3 l4 l5 s0 : Int32) (x0_7 : Int32) (x1_3 : Int32) (x1_4 : Int32) (f5 : (Nat → Int32)) (f6 : (Nat → Int32)) (f7 : (Nat → Int32)) (f8 : (Nat → Int32)) (f10 : (Nat → Int32)), F_Search_keepIfHelping x0_5 x0_6 f2 x4_2 x11_3 f12 f13 f14 f15 f16 n 0 l1 l2 l3 l4 l5 s0 x0_7 x1_3 x1_4 f5 f6 f7 f8 f10 = some (ox0_7, ox1_3, ox1_4, of5, of6, of7, of8, of10) → ∀ (H : Heap) (locs : List Loc) (ls : Array Slot), va_P (dC, dI) classes (wd_Search_keepIfHelping kA a0 a1 a2 a3 a4 a5 a6 a7 a8 a9 a10 a11 a12 a13 a14 a15 a16 v0_2 v1_5 v4_1 v9_2 v9_3 v9_4 v9_5 v9_6 v11_0 v11_4 x0_5 x0_6 x0_7 x1_3 x1_4 f2 x4_2 f5 f6 f7 f8 f10 x11_3 f12 f13 f14 f15 f16) H → va_D A (wd_Search_keepIfHelping kA a0 a1 a2 a3 a4 a5 a6 a7 a8 a9 a10 a11 a12 a13 a14 a15 a16 v0_2 v1_5 v4_1 v9_2 v9_3 v9_4 v9_5 v9_6 v11_0 v11_4 x0_5 x0_6 x0_7 x1_3 x1_4 f2 x4_2 f5 f6 f7 f8 f10 x11_3 f12 f13 f14 f15 f16) → va_S A s.heap H locs → lv_has ls 7 [(0, .ref a0), (1, .int l1), (2, .int l2), (3, .int l3), (4, .int l4), (5, .int l5)] → W p l e (headSpec w_Search_keepIfHelping rm_Search_keepIfHelping).room s m args below meth c H locs 0 0 (MQ below (va_Qv (fun (_ : Unit) => True) (fun _ t => va_P (dC, dI) classes (wd_Search_keepIfHelping kA a0 a1 a2 a3 a4 a5 a6 a7 a8 a9 a10 a11 a12 a13 a14 a15 a16 v0_2 v1_5 v4_1 v9_2 v9_3 v9_4 v9_5 v9_6 v11_0 v11_4 x0_5 x0_6 ox0_7 ox1_3 ox1_4 f2 x4_2 of5 of6 of7 of8 of10 x11_3 f12 f13 f14 f15 f16) t.heap ∧ va_K (dC, dI) classes (tys_ kA) t ∧ va_D A (wd_Search_keepIfHelping kA a0 a1 a2 a3 a4 a5 a6 a7 a8 a9 a10 a11 a12 a13 a14 a15 a16 v0_2 v1_5 v4_1 v9_2 v9_3 v9_4 v9_5 v9_6 v11_0 v11_4 x0_5 x0_6 ox0_7 ox1_3 ox1_4 f2 x4_2 of5 of6 of7 of8 of10 x11_3 f12 f13 f14 f15 f16)) A) args s 0 0 A) (F0 m 6 ls [])) ∧ (∀ (l1 l2 l3 l4 l5 s0 : Int32) (x0_7 : Int32) (x1_3 : Int32) (x1_4 : Int32) (f5 : (Nat → Int32)) (f6 : (Nat → Int32)) (f7 : (Nat → Int32)) (f8 : (Nat → Int32)) (f10 : (Nat → Int32)), F_Search_keepIfHelping x0_5 x0_6 f2 x4_2 x11_3 f12 f13 f14 f15 f16 n 1 l1 l2 l3 l4 l5 s0 x0_7 x1_3 x1_4 f5 f6 f7 f8 f10 = some (ox0_7, ox1_3, ox1_4, of5, of6, of7, of8, of10) → ∀ (H : Heap) (locs : List Loc) (ls : Array Slot), va_P (dC, dI) classes (wd_Search_keepIfHelping kA a0 a1 a2 a3 a4 a5 a6 a7 a8 a9 a10 a11 a12 a13 a14 a15 a16 v0_2 v1_5 v4_1 v9_2 v9_3 v9_4 v9_5 v9_6 v11_0 v11_4 x0_5 x0_6 x0_7 x1_3 x1_4 f2 x4_2 f5 f6 f7 f8 f10 x11_3 f12 f13 f14 f15 f16) H → va_D A (wd_Search_keepIfHelping kA a0 a1 a2 a3 a4 a5 a6 a7 a8 a9 a10 a11 a12 a13 a14 a15 a16 v0_2 v1_5 v4_1 v9_2 v9_3 v9_4 v9_5 v9_6 v11_0 v11_4 x0_5 x0_6 x0_7 x1_3 x1_4 f2 x4_2 f5 f6 f7 f8 f10 x11_3 f12 f13 f14 f15 f16) → va_S A s.heap H locs → lv_has ls 7 [(0, .ref a0), (1, .int l1), (2, .int l2), (3, .int l3), (4, .int l4), (5, .int l5)] → W p l e (headSpec w_Search_keepIfHelping rm_Search_keepIfHelping).room s m args below meth c H locs 0 0 (MQ below (va_Qv (fun (_ : Unit) => True) (fun _ t => va_P (dC, dI) classes (wd_Search_keepIfHelping kA a0 a1 a2 a3 a4 a5 a6 a7 a8 a9 a10 a11 a12 a13 a14 a15 a16 v0_2 v1_5 v4_1 v9_2 v9_3 v9_4 v9_5 v9_6 v11_0 v11_4 x0_5 x0_6 ox0_7 ox1_3 ox1_4 f2 x4_2 of5 of6 of7 of8 of10 x11_3 f12 f13 f14 f15 f16) t.heap ∧ va_K (dC, dI) classes (tys_ kA) t ∧ va_D A (wd_Search_keepIfHelping kA a0 a1 a2 a3 a4 a5 a6 a7 a8 a9 a10 a11 a12 a13 a14 a15 a16 v0_2 v1_5 v4_1 v9_2 v9_3 v9_4 v9_5 v9_6 v11_0 v11_4 x0_5 x0_6 ox0_7 ox1_3 ox1_4 f2 x4_2 of5 of6 of7 of8 of10 x11_3 f12 f13 f14 f15 f16)) A) args s 0 0 A) (F0 m 55 ls [])) ∧ (∀ (l1 l2 l3 l4 l5 s0 : Int32) (x0_7 : Int32) (x1_3 : Int32) (x1_4 : Int32) (f5 : (Nat → Int32)) (f6 : (Nat → Int32)) (f7 : (Nat → Int32)) (f8 : (Nat → Int32)) (f10 : (Nat → Int32)), F_Search_keepIfHelping x0_5 x0_6 f2 x4_2 x11_3 f12 f13 f14 f15 f16 n 2 l1 l2 l3 l4 l5 s0 x0_7 x1_3 x1_4 f5 f6 f7 f8 f10 = some (ox0_7, ox1_3, ox1_4, of5, of6, of7, of8, of10) → ∀ (H : Heap) (locs : List Loc) (ls : Array Slot), va_P (dC, dI) classes (wd_Search_keepIfHelping kA a0 a1 a2 a3 a4 a5 a6 a7 a8 a9 a10 a11 a12 a13 a14 a15 a16 v0_2 v1_5 v4_1 v9_2 v9_3 v9_4 v9_5 v9_6 v11_0 v11_4 x0_5 x0_6 x0_7 x1_3 x1_4 f2 x4_2 f5 f6 f7 f8 f10 x11_3 f12 f13 f14 f15 f16) H → va_D A (wd_Search_keepIfHelping kA a0 a1 a2 a3 a4 a5 a6 a7 a8 a9 a10 a11 a12 a13 a14 a15 a16 v0_2 v1_5 v4_1 v9_2 v9_3 v9_4 v9_5 v9_6 v11_0 v11_4 x0_5 x0_6 x0_7 x1_3 x1_4 f2 x4_2 f5 f6 f7 f8 f10 x11_3 f12 f13 f14 f15 f16) → va_S A s.heap H locs → lv_has ls 7 [(0, .ref a0), (1, .int l1), (2, .int l2), (3, .int l3), (4, .int l4), (5, .int l5)] → W p l e (headSpec w_Search_keepIfHelping rm_Search_keepIfHelping).room s m args below meth c H locs 0 0 (MQ below (va_Qv (fun (_ : Unit) => True) (fun _ t => va_P (dC, dI) classes (wd_Search_keepIfHelping kA a0 a1 a2 a3 a4 a5 a6 a7 a8 a9 a10 a11 a12 a13 a14 a15 a16 v0_2 v1_5 v4_1 v9_2 v9_3 v9_4 v9_5 v9_6 v11_0 v11_4 x0_5 x0_6 ox0_7 ox1_3 ox1_4 f2 x4_2 of5 of6 of7 of8 of10 x11_3 f12 f13 f14 f15 f16) t.heap ∧ va_K (dC, dI) classes (tys_ kA) t ∧ va_D A (wd_Search_keepIfHelping kA a0 a1 a2 a3 a4 a5 a6 a7 a8 a9 a10 a11 a12 a13 a14 a15 a16 v0_2 v1_5 v4_1 v9_2 v9_3 v9_4 v9_5 v9_6 v11_0 v11_4 x0_5 x0_6 ox0_7 ox1_3 ox1_4 f2 x4_2 of5 of6 of7 of8 of10 x11_3 f12 f13 f14 f15 f16)) A) args s 0 0 A) (F0 m 74 ls [.int s0])) := by
  have hg := fun (w : Cond) (h : w ∈ gw) => hts w (List.mem_cons_of_mem _ h)
  intro n
  induction n with
  | zero =>
    exact ⟨fun _ _ _ _ _ _ _ _ _ _ _ _ _ _ hF => absurd (show (none : Option _) = some _ from hF) (fun z => by cases z), fun _ _ _ _ _ _ _ _ _ _ _ _ _ _ hF => absurd (show (none : Option _) = some _ from hF) (fun z => by cases z), fun _ _ _ _ _ _ _ _ _ _ _ _ _ _ hF => absurd (show (none : Option _) = some _ from hF) (fun z => by cases z)⟩
  | succ n ih =>
    refine ⟨?_, ?_, ?_⟩
    · intro l1 l2 l3 l4 l5 s0 x0_7 x1_3 x1_4 f5 f6 f7 f8 f10 hF H locs ls hP hD hS hl
      have hF : B_Search_keepIfHelping_0 (F_Search_keepIfHelping x0_5 x0_6 f2 x4_2 x11_3 f12 f13 f14 f15 f16 n) x0_5 x0_6 f2 x4_2 x11_3 f12 f13 f14 f15 f16 l1 l2 l3 l4 l5 s0 x0_7 x1_3 x1_4 f5 f6 f7 f8 f10 = some (ox0_7, ox1_3, ox1_4, of5, of6, of7, of8, of10) := hF
      unfold B_Search_keepIfHelping_0 at hF
      refine lv_iload_n hx hb d_Search_keepIfHelping_6 rfl (lv_at hl 3 rfl) ?_
      refine lv_iload hx hb d_Search_keepIfHelping_7 (lv_at hl 4 rfl) ?_
      refine lv_iadd hx hb d_Search_keepIfHelping_9 ?_
      refine lv_aload_n hx hb d_Search_keepIfHelping_10 rfl (lv_at hl 0 rfl) ?_
      refine va_get (D := (dC, dI)) (ci := 4) (v := .ref a4) (C := R_Search) (T := F_Search) (N := 8) hx hb hg iw_Search hown hK hP 0 rfl rfl 1 (by decide) (hg _ gw_137) (fun _ h9 => h9) rfl d_Search_keepIfHelping_11 ?_
      obtain ⟨u_1, hS_1, hF⟩ := rd_bind hF
      have hPc := hP.sub (ws' := (wd_Text_size kA a4 (.ref a12) v4_1 x4_2)) [4] rfl
      have hDc := hD.sub (ws' := (wd_Text_size kA a4 (.ref a12) v4_1 x4_2)) [4] (by decide) rfl
      have hFc := va_free (wc := (wd_Text_size kA a4 (.ref a12) v4_1 x4_2)) hD hS hA [4] rfl
      refine va_calli (va_runV (As := []) (rest := [.int (l3 + l4)]) ⟨hx, hb, hml, hown, hts⟩ (c_Text_size l dC dI kA H.size a4 (.ref a12) v4_1 x4_2 u_1 hS_1) (cwV 0 hts (gw_V gw_138 gw_121 gw_122 gw_123 gw_124) rfl rfl rfl (by decide +kernel) ⟨Nat.le_of_ble_eq_true rfl, Nat.le_of_ble_eq_true rfl⟩) ⟨fun a U g mk q => by obtain ⟨q0, q1, qP, qK, qD⟩ := q; exact ⟨q0, q1, qP, va_K.moved (u := U) (U := U.calling g mk a) (Vm.Alike.refl U.vm) qK, qD⟩, va_recv hK hP (ci := 7) (q0 := 4) rfl rfl, fun U hU hW => ⟨rfl, by rw [hU], by rw [hU]; exact hPc, va_K.moved hW.alike hK, hDc.weaken (fun _ _ _ _ => trivial)⟩⟩ rfl rfl hl.1 rfl (lv_room (Nat.le_of_ble_eq_true rfl)) d_Search_keepIfHelping_14 ⟨Nat.zero_le _, Nat.zero_le _⟩) hS (fun q _ h => hFc q h) hFc (fun r1 u t H1 locs ht hvm hw hB hz1 hk1 hS => ?_)
      rw [show r1 = _ from hw]
      obtain ⟨hP1, hK1, hD1⟩ := hB
      rw [ht] at hP1
      obtain ⟨hP, hD⟩ := va_join (wr := [(a0, .inr (4, [.ref a3, .ref a4, v0_2, .ref a1, .ref a2, .int x0_5, .int x0_6, .int x0_7])), (a1, .inr (1, [.ref a7, .ref a5, .ref a6, .int x1_3, .int x1_4, v1_5])), (a2, .inl (kA 0, 6, .inl f2)), (a3, .inr (5, [.ref a9, .ref a11, .ref a8, .ref a10])), (a5, .inl (kA 0, 40, .inl f5)), (a6, .inl (kA 0, 40, .inl f6)), (a7, .inl (kA 0, 240, .inl f7)), (a8, .inl (kA 0, 4096, .inl f8)), (a9, .inr (2, [.ref a13, .ref a14, v9_2, v9_3, v9_4, v9_5, v9_6])), (a10, .inl (kA 0, 8, .inl f10)), (a11, .inr (6, [v11_0, .ref a16, .ref a15, .int x11_3, v11_4])), (a12, .inl (kA 0, 16, .inl f12)), (a13, .inl (kA 0, 12, .inl f13)), (a14, .inl (kA 0, 12, .inl f14)), (a15, .inl (kA 0, 280, .inl f15)), (a16, .inl (kA 0, 480, .inl f16))]) (w1 := (wd_Text_size kA a4 (.ref a12) v4_1 x4_2)) hP hD [4] [0, 1, 2, 3, 5, 6, 7, 8, 9, 10, 11, 12, 13, 14, 15, 16] rfl rfl (by decide) (by decide) hk1 hFc hP1 hD1
      have hP := hP.sub (ws' := (wd_Search_keepIfHelping kA a0 a1 a2 a3 a4 a5 a6 a7 a8 a9 a10 a11 a12 a13 a14 a15 a16 v0_2 v1_5 v4_1 v9_2 v9_3 v9_4 v9_5 v9_6 v11_0 v11_4 x0_5 x0_6 x0_7 x1_3 x1_4 f2 x4_2 f5 f6 f7 f8 f10 x11_3 f12 f13 f14 f15 f16)) [0, 1, 2, 3, 16, 4, 5, 6, 7, 8, 9, 10, 11, 12, 13, 14, 15] rfl
      have hD := hD.sub (ws' := (wd_Search_keepIfHelping kA a0 a1 a2 a3 a4 a5 a6 a7 a8 a9 a10 a11 a12 a13 a14 a15 a16 v0_2 v1_5 v4_1 v9_2 v9_3 v9_4 v9_5 v9_6 v11_0 v11_4 x0_5 x0_6 x0_7 x1_3 x1_4 f2 x4_2 f5 f6 f7 f8 f10 x11_3 f12 f13 f14 f15 f16)) [0, 1, 2, 3, 16, 4, 5, 6, 7, 8, 9, 10, 11, 12, 13, 14, 15] (by decide) rfl
      clear hPc hDc hFc hP1 hK1 hD1
      generalize H1 = H at hP hS ⊢
      refine lv_icmp_ge (tgt := 55) hx hb d_Search_keepIfHelping_17 (by decide) (fun c_2 => ?_) (fun c_2 => ?_)
      · rw [if_pos c_2] at hF
        exact ih.2.1 l1 l2 l3 l4 l5 0 x0_7 x1_3 x1_4 f5 f6 f7 f8 f10 hF _ _ _ hP hD hS (lv_sub hl [0, 1, 2, 3, 4, 5] rfl)
      · rw [if_neg c_2] at hF
        refine lv_aload_n hx hb d_Search_keepIfHelping_20 rfl (lv_at hl 0 rfl) ?_
        refine va_get (D := (dC, dI)) (ci := 4) (v := .ref a3) (C := R_Search) (T := F_Search) (N := 8) hx hb hg iw_Search hown hK hP 0 rfl rfl 0 (by decide) (hg _ gw_139) (fun _ h9 => h9) rfl d_Search_keepIfHelping_21 ?_
        refine lv_iload hx hb d_Search_keepIfHelping_24 (lv_at hl 5 rfl) ?_
        refine lv_bipush (v := 7) hx hb d_Search_keepIfHelping_26 (by decide) ?_
        refine lv_aload_n hx hb d_Search_keepIfHelping_28 rfl (lv_at hl 0 rfl) ?_
        refine va_get (D := (dC, dI)) (ci := 4) (v := .ref a4) (C := R_Search) (T := F_Search) (N := 8) hx hb hg iw_Search hown hK hP 0 rfl rfl 1 (by decide) (hg _ gw_137) (fun _ h9 => h9) rfl d_Search_keepIfHelping_29 ?_
        refine lv_iload_n hx hb d_Search_keepIfHelping_32 rfl (lv_at hl 3 rfl) ?_
        refine lv_iload hx hb d_Search_keepIfHelping_33 (lv_at hl 4 rfl) ?_
        refine lv_iadd hx hb d_Search_keepIfHelping_35 ?_
        obtain ⟨u_3, hS_3, hF⟩ := rd_bind hF
        have hPc := hP.sub (ws' := (wd_Text_letterAt kA a4 a12 v4_1 x4_2 f12)) [4, 12] rfl
        have hDc := hD.sub (ws' := (wd_Text_letterAt kA a4 a12 v4_1 x4_2 f12)) [4, 12] (by decide) rfl
        have hFc := va_free (wc := (wd_Text_letterAt kA a4 a12 v4_1 x4_2 f12)) hD hS hA [4, 12] rfl
        refine va_calli (va_runV (As := [.int (l3 + l4)]) (rest := [.int 7, .int l5, .ref a3]) ⟨hx, hb, hml, hown, hts⟩ (c_Text_letterAt l dC dI kA H.size a4 a12 v4_1 (l3 + l4) x4_2 f12 u_3 hS_3) (cwV 1 hts (gw_V gw_140 gw_130 gw_131 gw_123 gw_132) rfl rfl rfl (by decide +kernel) ⟨Nat.le_of_ble_eq_true rfl, Nat.le_of_ble_eq_true rfl⟩) ⟨fun a U g mk q => by obtain ⟨q0, q1, qP, qK, qD⟩ := q; exact ⟨q0, q1, qP, va_K.moved (u := U) (U := U.calling g mk a) (Vm.Alike.refl U.vm) qK, qD⟩, va_recv hK hP (ci := 7) (q0 := 4) rfl rfl, fun U hU hW => ⟨rfl, by rw [hU], by rw [hU]; exact hPc, va_K.moved hW.alike hK, hDc.weaken (fun _ _ _ _ => trivial)⟩⟩ rfl rfl hl.1 rfl (lv_room (Nat.le_of_ble_eq_true rfl)) d_Search_keepIfHelping_36 ⟨Nat.zero_le _, Nat.zero_le _⟩) hS (fun q _ h => hFc q h) hFc (fun r1 u t H1 locs ht hvm hw hB hz1 hk1 hS => ?_)
        rw [show r1 = _ from hw]
        obtain ⟨hP1, hK1, hD1⟩ := hB
        rw [ht] at hP1
        obtain ⟨hP, hD⟩ := va_join (wr := [(a0, .inr (4, [.ref a3, .ref a4, v0_2, .ref a1, .ref a2, .int x0_5, .int x0_6, .int x0_7])), (a1, .inr (1, [.ref a7, .ref a5, .ref a6, .int x1_3, .int x1_4, v1_5])), (a2, .inl (kA 0, 6, .inl f2)), (a3, .inr (5, [.ref a9, .ref a11, .ref a8, .ref a10])), (a5, .inl (kA 0, 40, .inl f5)), (a6, .inl (kA 0, 40, .inl f6)), (a7, .inl (kA 0, 240, .inl f7)), (a8, .inl (kA 0, 4096, .inl f8)), (a9, .inr (2, [.ref a13, .ref a14, v9_2, v9_3, v9_4, v9_5, v9_6])), (a10, .inl (kA 0, 8, .inl f10)), (a11, .inr (6, [v11_0, .ref a16, .ref a15, .int x11_3, v11_4])), (a13, .inl (kA 0, 12, .inl f13)), (a14, .inl (kA 0, 12, .inl f14)), (a15, .inl (kA 0, 280, .inl f15)), (a16, .inl (kA 0, 480, .inl f16))]) (w1 := (wd_Text_letterAt kA a4 a12 v4_1 x4_2 f12)) hP hD [4, 12] [0, 1, 2, 3, 5, 6, 7, 8, 9, 10, 11, 13, 14, 15, 16] rfl rfl (by decide) (by decide) hk1 hFc hP1 hD1
        have hP := hP.sub (ws' := (wd_Search_keepIfHelping kA a0 a1 a2 a3 a4 a5 a6 a7 a8 a9 a10 a11 a12 a13 a14 a15 a16 v0_2 v1_5 v4_1 v9_2 v9_3 v9_4 v9_5 v9_6 v11_0 v11_4 x0_5 x0_6 x0_7 x1_3 x1_4 f2 x4_2 f5 f6 f7 f8 f10 x11_3 f12 f13 f14 f15 f16)) [0, 1, 2, 3, 15, 4, 5, 6, 7, 8, 9, 10, 16, 11, 12, 13, 14] rfl
        have hD := hD.sub (ws' := (wd_Search_keepIfHelping kA a0 a1 a2 a3 a4 a5 a6 a7 a8 a9 a10 a11 a12 a13 a14 a15 a16 v0_2 v1_5 v4_1 v9_2 v9_3 v9_4 v9_5 v9_6 v11_0 v11_4 x0_5 x0_6 x0_7 x1_3 x1_4 f2 x4_2 f5 f6 f7 f8 f10 x11_3 f12 f13 f14 f15 f16)) [0, 1, 2, 3, 15, 4, 5, 6, 7, 8, 9, 10, 16, 11, 12, 13, 14] (by decide) rfl
        clear hPc hDc hFc hP1 hK1 hD1
        generalize H1 = H at hP hS ⊢
        obtain ⟨u_4, hS_4, hF⟩ := rd_bind hF
        have hPc := hP.sub (ws' := (wd_Stacks_feed kA a3 a8 a9 a10 a11 a13 a14 a15 a16 v9_2 v9_3 v9_4 v9_5 v9_6 v11_0 v11_4 f8 f10 x11_3 f13 f14 f15 f16)) [3, 8, 9, 10, 11, 13, 14, 15, 16] rfl
        have hDc := hD.sub (ws' := (wd_Stacks_feed kA a3 a8 a9 a10 a11 a13 a14 a15 a16 v9_2 v9_3 v9_4 v9_5 v9_6 v11_0 v11_4 f8 f10 x11_3 f13 f14 f15 f16)) [3, 8, 9, 10, 11, 13, 14, 15, 16] (by decide) rfl
        have hFc := va_free (wc := (wd_Stacks_feed kA a3 a8 a9 a10 a11 a13 a14 a15 a16 v9_2 v9_3 v9_4 v9_5 v9_6 v11_0 v11_4 f8 f10 x11_3 f13 f14 f15 f16)) hD hS hA [3, 8, 9, 10, 11, 13, 14, 15, 16] rfl
        refine va_calli (va_runV (As := [.int l5, .int 7, .int u_3]) (rest := []) ⟨hx, hb, hml, hown, hts⟩ (c_Stacks_feed l dC dI kA H.size a3 a8 a9 a10 a11 a13 a14 a15 a16 v9_2 v9_3 v9_4 v9_5 v9_6 v11_0 v11_4 l5 7 u_3 f8 f10 x11_3 f13 f14 f15 f16 u_4.1 u_4.2.1 u_4.2.2 hS_4) (cwV 3 hts (gw_V gw_141 gw_134 gw_135 gw_85 gw_136) rfl rfl rfl (by decide +kernel) ⟨Nat.le_of_ble_eq_true rfl, Nat.le_of_ble_eq_true rfl⟩) ⟨fun a U g mk q => by obtain ⟨q0, q1, qP, qK, qD⟩ := q; exact ⟨q0, q1, qP, va_K.moved (u := U) (U := U.calling g mk a) (Vm.Alike.refl U.vm) qK, qD⟩, va_recv hK hP (ci := 5) (q0 := 3) rfl rfl, fun U hU hW => ⟨rfl, by rw [hU], by rw [hU]; exact hPc, va_K.moved hW.alike hK, hDc.weaken (fun _ _ _ _ => trivial)⟩⟩ rfl rfl hl.1 rfl (lv_room (Nat.le_of_ble_eq_true rfl)) d_Search_keepIfHelping_39 ⟨Nat.zero_le _, Nat.zero_le _⟩) hS (fun q _ h => hFc q h) hFc (fun r1 u t H1 locs ht hvm hw hB hz1 hk1 hS => ?_)
        rw [show r1 = _ from hw]
        obtain ⟨hP1, hK1, hD1⟩ := hB
        rw [ht] at hP1
        obtain ⟨hP, hD⟩ := va_join (wr := [(a0, .inr (4, [.ref a3, .ref a4, v0_2, .ref a1, .ref a2, .int x0_5, .int x0_6, .int x0_7])), (a1, .inr (1, [.ref a7, .ref a5, .ref a6, .int x1_3, .int x1_4, v1_5])), (a2, .inl (kA 0, 6, .inl f2)), (a4, .inr (7, [.ref a12, v4_1, .int x4_2])), (a5, .inl (kA 0, 40, .inl f5)), (a6, .inl (kA 0, 40, .inl f6)), (a7, .inl (kA 0, 240, .inl f7)), (a12, .inl (kA 0, 16, .inl f12))]) (w1 := (wd_Stacks_feed kA a3 a8 a9 a10 a11 a13 a14 a15 a16 v9_2 v9_3 v9_4 v9_5 v9_6 v11_0 v11_4 u_4.2.1 u_4.2.2 x11_3 f13 f14 f15 f16)) hP hD [3, 8, 9, 10, 11, 13, 14, 15, 16] [0, 1, 2, 4, 5, 6, 7, 12] rfl rfl (by decide) (by decide) hk1 hFc hP1 hD1
        have hP := hP.sub (ws' := (wd_Search_keepIfHelping kA a0 a1 a2 a3 a4 a5 a6 a7 a8 a9 a10 a11 a12 a13 a14 a15 a16 v0_2 v1_5 v4_1 v9_2 v9_3 v9_4 v9_5 v9_6 v11_0 v11_4 x0_5 x0_6 x0_7 x1_3 x1_4 f2 x4_2 f5 f6 f7 u_4.2.1 u_4.2.2 x11_3 f12 f13 f14 f15 f16)) [0, 1, 2, 8, 3, 4, 5, 6, 9, 10, 11, 12, 7, 13, 14, 15, 16] rfl
        have hD := hD.sub (ws' := (wd_Search_keepIfHelping kA a0 a1 a2 a3 a4 a5 a6 a7 a8 a9 a10 a11 a12 a13 a14 a15 a16 v0_2 v1_5 v4_1 v9_2 v9_3 v9_4 v9_5 v9_6 v11_0 v11_4 x0_5 x0_6 x0_7 x1_3 x1_4 f2 x4_2 f5 f6 f7 u_4.2.1 u_4.2.2 x11_3 f12 f13 f14 f15 f16)) [0, 1, 2, 8, 3, 4, 5, 6, 9, 10, 11, 12, 7, 13, 14, 15, 16] (by decide) rfl
        clear hPc hDc hFc hP1 hK1 hD1
        generalize H1 = H at hP hS ⊢
        refine lv_if_eq (tgt := 55) hx hb d_Search_keepIfHelping_42 (by decide) (fun c_5 => ?_) (fun c_5 => ?_)
        · rw [if_pos c_5] at hF
          exact ih.2.1 l1 l2 l3 l4 l5 0 x0_7 x1_3 x1_4 f5 f6 f7 u_4.2.1 u_4.2.2 hF _ _ _ hP hD hS (lv_sub hl [0, 1, 2, 3, 4, 5] rfl)
        · rw [if_neg c_5] at hF
          refine lv_bipush (v := 7) hx hb d_Search_keepIfHelping_45 (by decide) ?_
          refine lv_istore (lv' := [(5, .int 7), (0, .ref a0), (1, .int l1), (2, .int l2), (3, .int l3), (4, .int l4)]) hx hb d_Search_keepIfHelping_47 hl (by decide) rfl (fun ls hl => ?_)
          refine lv_iinc (v := (l4 + 1)) (lv' := [(4, .int (l4 + 1)), (5, .int 7), (0, .ref a0), (1, .int l1), (2, .int l2), (3, .int l3)]) hx hb d_Search_keepIfHelping_49 hl (k := 5) rfl (by rfl) (by decide) rfl (fun ls hl => ?_)
          refine lv_goto (tgt := 6) hx hb d_Search_keepIfHelping_52 (by decide) ?_
          exact ih.1 l1 l2 l3 (l4 + 1) 7 0 x0_7 x1_3 x1_4 f5 f6 f7 u_4.2.1 u_4.2.2 hF _ _ _ hP hD hS (lv_sub hl [2, 3, 4, 5, 0, 1] rfl)
    · intro l1 l2 l3 l4 l5 s0 x0_7 x1_3 x1_4 f5 f6 f7 f8 f10 hF H locs ls hP hD hS hl
      have hF : B_Search_keepIfHelping_1 (F_Search_keepIfHelping x0_5 x0_6 f2 x4_2 x11_3 f12 f13 f14 f15 f16 n) x0_5 x0_6 f2 x4_2 x11_3 f12 f13 f14 f15 f16 l1 l2 l3 l4 l5 s0 x0_7 x1_3 x1_4 f5 f6 f7 f8 f10 = some (ox0_7, ox1_3, ox1_4, of5, of6, of7, of8, of10) := hF
      unfold B_Search_keepIfHelping_1 at hF
      refine lv_iload_n hx hb d_Search_keepIfHelping_55 rfl (lv_at hl 3 rfl) ?_
      refine lv_iload hx hb d_Search_keepIfHelping_56 (lv_at hl 4 rfl) ?_
      refine lv_iadd hx hb d_Search_keepIfHelping_58 ?_
      refine lv_aload_n hx hb d_Search_keepIfHelping_59 rfl (lv_at hl 0 rfl) ?_
      refine va_get (D := (dC, dI)) (ci := 4) (v := .ref a4) (C := R_Search) (T := F_Search) (N := 8) hx hb hg iw_Search hown hK hP 0 rfl rfl 1 (by decide) (hg _ gw_137) (fun _ h9 => h9) rfl d_Search_keepIfHelping_60 ?_
      obtain ⟨u_6, hS_6, hF⟩ := rd_bind hF
      have hPc := hP.sub (ws' := (wd_Text_size kA a4 (.ref a12) v4_1 x4_2)) [4] rfl
      have hDc := hD.sub (ws' := (wd_Text_size kA a4 (.ref a12) v4_1 x4_2)) [4] (by decide) rfl
      have hFc := va_free (wc := (wd_Text_size kA a4 (.ref a12) v4_1 x4_2)) hD hS hA [4] rfl
      refine va_calli (va_runV (As := []) (rest := [.int (l3 + l4)]) ⟨hx, hb, hml, hown, hts⟩ (c_Text_size l dC dI kA H.size a4 (.ref a12) v4_1 x4_2 u_6 hS_6) (cwV 0 hts (gw_V gw_138 gw_121 gw_122 gw_123 gw_124) rfl rfl rfl (by decide +kernel) ⟨Nat.le_of_ble_eq_true rfl, Nat.le_of_ble_eq_true rfl⟩) ⟨fun a U g mk q => by obtain ⟨q0, q1, qP, qK, qD⟩ := q; exact ⟨q0, q1, qP, va_K.moved (u := U) (U := U.calling g mk a) (Vm.Alike.refl U.vm) qK, qD⟩, va_recv hK hP (ci := 7) (q0 := 4) rfl rfl, fun U hU hW => ⟨rfl, by rw [hU], by rw [hU]; exact hPc, va_K.moved hW.alike hK, hDc.weaken (fun _ _ _ _ => trivial)⟩⟩ rfl rfl hl.1 rfl (lv_room (Nat.le_of_ble_eq_true rfl)) d_Search_keepIfHelping_63 ⟨Nat.zero_le _, Nat.zero_le _⟩) hS (fun q _ h => hFc q h) hFc (fun r1 u t H1 locs ht hvm hw hB hz1 hk1 hS => ?_)
      rw [show r1 = _ from hw]
      obtain ⟨hP1, hK1, hD1⟩ := hB
      rw [ht] at hP1
      obtain ⟨hP, hD⟩ := va_join (wr := [(a0, .inr (4, [.ref a3, .ref a4, v0_2, .ref a1, .ref a2, .int x0_5, .int x0_6, .int x0_7])), (a1, .inr (1, [.ref a7, .ref a5, .ref a6, .int x1_3, .int x1_4, v1_5])), (a2, .inl (kA 0, 6, .inl f2)), (a3, .inr (5, [.ref a9, .ref a11, .ref a8, .ref a10])), (a5, .inl (kA 0, 40, .inl f5)), (a6, .inl (kA 0, 40, .inl f6)), (a7, .inl (kA 0, 240, .inl f7)), (a8, .inl (kA 0, 4096, .inl f8)), (a9, .inr (2, [.ref a13, .ref a14, v9_2, v9_3, v9_4, v9_5, v9_6])), (a10, .inl (kA 0, 8, .inl f10)), (a11, .inr (6, [v11_0, .ref a16, .ref a15, .int x11_3, v11_4])), (a12, .inl (kA 0, 16, .inl f12)), (a13, .inl (kA 0, 12, .inl f13)), (a14, .inl (kA 0, 12, .inl f14)), (a15, .inl (kA 0, 280, .inl f15)), (a16, .inl (kA 0, 480, .inl f16))]) (w1 := (wd_Text_size kA a4 (.ref a12) v4_1 x4_2)) hP hD [4] [0, 1, 2, 3, 5, 6, 7, 8, 9, 10, 11, 12, 13, 14, 15, 16] rfl rfl (by decide) (by decide) hk1 hFc hP1 hD1
      have hP := hP.sub (ws' := (wd_Search_keepIfHelping kA a0 a1 a2 a3 a4 a5 a6 a7 a8 a9 a10 a11 a12 a13 a14 a15 a16 v0_2 v1_5 v4_1 v9_2 v9_3 v9_4 v9_5 v9_6 v11_0 v11_4 x0_5 x0_6 x0_7 x1_3 x1_4 f2 x4_2 f5 f6 f7 f8 f10 x11_3 f12 f13 f14 f15 f16)) [0, 1, 2, 3, 16, 4, 5, 6, 7, 8, 9, 10, 11, 12, 13, 14, 15] rfl
      have hD := hD.sub (ws' := (wd_Search_keepIfHelping kA a0 a1 a2 a3 a4 a5 a6 a7 a8 a9 a10 a11 a12 a13 a14 a15 a16 v0_2 v1_5 v4_1 v9_2 v9_3 v9_4 v9_5 v9_6 v11_0 v11_4 x0_5 x0_6 x0_7 x1_3 x1_4 f2 x4_2 f5 f6 f7 f8 f10 x11_3 f12 f13 f14 f15 f16)) [0, 1, 2, 3, 16, 4, 5, 6, 7, 8, 9, 10, 11, 12, 13, 14, 15] (by decide) rfl
      clear hPc hDc hFc hP1 hK1 hD1
      generalize H1 = H at hP hS ⊢
      refine lv_icmp_ne (tgt := 73) hx hb d_Search_keepIfHelping_66 (by decide) (fun c_7 => ?_) (fun c_7 => ?_)
      · rw [if_pos c_7] at hF
        refine lv_iconst (v := 0) hx hb d_Search_keepIfHelping_73 (by decide) ?_
        exact ih.2.2 l1 l2 l3 l4 l5 0 x0_7 x1_3 x1_4 f5 f6 f7 f8 f10 hF _ _ _ hP hD hS (lv_sub hl [0, 1, 2, 3, 4, 5] rfl)
      · rw [if_neg (fun z => z c_7)] at hF
        refine lv_iconst (v := 1) hx hb d_Search_keepIfHelping_69 (by decide) ?_
        refine lv_goto (tgt := 74) hx hb d_Search_keepIfHelping_70 (by decide) ?_
        exact ih.2.2 l1 l2 l3 l4 l5 1 x0_7 x1_3 x1_4 f5 f6 f7 f8 f10 hF _ _ _ hP hD hS (lv_sub hl [0, 1, 2, 3, 4, 5] rfl)
    · intro l1 l2 l3 l4 l5 s0 x0_7 x1_3 x1_4 f5 f6 f7 f8 f10 hF H locs ls hP hD hS hl
      have hF : B_Search_keepIfHelping_2 (F_Search_keepIfHelping x0_5 x0_6 f2 x4_2 x11_3 f12 f13 f14 f15 f16 n) x0_5 x0_6 f2 x4_2 x11_3 f12 f13 f14 f15 f16 l1 l2 l3 l4 l5 s0 x0_7 x1_3 x1_4 f5 f6 f7 f8 f10 = some (ox0_7, ox1_3, ox1_4, of5, of6, of7, of8, of10) := hF
      unfold B_Search_keepIfHelping_2 at hF
      refine lv_istore (lv' := [(6, .int s0), (0, .ref a0), (1, .int l1), (2, .int l2), (3, .int l3), (4, .int l4), (5, .int l5)]) hx hb d_Search_keepIfHelping_74 hl (by decide) rfl (fun ls hl => ?_)
      refine lv_iload hx hb d_Search_keepIfHelping_76 (lv_at hl 5 rfl) ?_
      refine lv_aload_n hx hb d_Search_keepIfHelping_78 rfl (lv_at hl 1 rfl) ?_
      refine va_get (D := (dC, dI)) (ci := 4) (v := .int x0_5) (C := R_Search) (T := F_Search) (N := 8) hx hb hg iw_Search hown hK hP 0 rfl rfl 5 (by decide) (hg _ gw_142) (fun _ h9 => h9) rfl d_Search_keepIfHelping_79 ?_
      refine lv_icmp_ge (tgt := 102) hx hb d_Search_keepIfHelping_82 (by decide) (fun c_8 => ?_) (fun c_8 => ?_)
      · rw [if_pos c_8] at hF
        refine lv_aload_n hx hb d_Search_keepIfHelping_102 rfl (lv_at hl 1 rfl) ?_
        refine lv_dup hx hb d_Search_keepIfHelping_103 rfl ?_
        refine va_get (D := (dC, dI)) (ci := 4) (v := .int x0_7) (C := R_Search) (T := F_Search) (N := 8) hx hb hg iw_Search hown hK hP 0 rfl rfl 7 (by decide) (hg _ gw_143) (fun _ h9 => h9) rfl d_Search_keepIfHelping_104 ?_
        refine lv_aload_n hx hb d_Search_keepIfHelping_107 rfl (lv_at hl 1 rfl) ?_
        refine va_get (D := (dC, dI)) (ci := 4) (v := .ref a1) (C := R_Search) (T := F_Search) (N := 8) hx hb hg iw_Search hown hK hP 0 rfl rfl 3 (by decide) (hg _ gw_144) (fun _ h9 => h9) rfl d_Search_keepIfHelping_108 ?_
        refine lv_aload_n hx hb d_Search_keepIfHelping_111 rfl (lv_at hl 1 rfl) ?_
        refine va_get (D := (dC, dI)) (ci := 4) (v := .ref a2) (C := R_Search) (T := F_Search) (N := 8) hx hb hg iw_Search hown hK hP 0 rfl rfl 4 (by decide) (hg _ gw_145) (fun _ h9 => h9) rfl d_Search_keepIfHelping_112 ?_
        refine lv_iload_n hx hb d_Search_keepIfHelping_115 rfl (lv_at hl 2 rfl) ?_
        refine lv_iload hx hb d_Search_keepIfHelping_116 (lv_at hl 5 rfl) ?_
        refine lv_aload_n hx hb d_Search_keepIfHelping_118 rfl (lv_at hl 1 rfl) ?_
        refine va_get (D := (dC, dI)) (ci := 4) (v := .int x0_6) (C := R_Search) (T := F_Search) (N := 8) hx hb hg iw_Search hown hK hP 0 rfl rfl 6 (by decide) (hg _ gw_146) (fun _ h9 => h9) rfl d_Search_keepIfHelping_119 ?_
        obtain ⟨u_9, hS_9, hF⟩ := rd_bind hF
        have hPc := hP.sub (ws' := (wd_Finds_add kA a1 a5 a6 a7 a2 v1_5 x1_3 x1_4 f5 f6 f7 f2)) [1, 5, 6, 7, 2] rfl
        have hDc := hD.sub (ws' := (wd_Finds_add kA a1 a5 a6 a7 a2 v1_5 x1_3 x1_4 f5 f6 f7 f2)) [1, 5, 6, 7, 2] (by decide) rfl
        have hFc := va_free (wc := (wd_Finds_add kA a1 a5 a6 a7 a2 v1_5 x1_3 x1_4 f5 f6 f7 f2)) hD hS hA [1, 5, 6, 7, 2] rfl
        refine va_calli (va_runV (As := [.ref a2, .int l1, .int l4, .int x0_6]) (rest := [.int x0_7, .ref a0]) ⟨hx, hb, hml, hown, hts⟩ (c_Finds_add l dC dI kA H.size a1 a5 a6 a7 a2 v1_5 l1 l4 x0_6 x1_3 x1_4 f5 f6 f7 f2 u_9.1 u_9.2.1 u_9.2.2.1 u_9.2.2.2.1 u_9.2.2.2.2.1 u_9.2.2.2.2.2 hS_9) (cwV 4 hts (gw_V gw_147 gw_148 gw_149 gw_11 gw_150) rfl rfl rfl (by decide +kernel) ⟨Nat.le_of_ble_eq_true rfl, Nat.le_of_ble_eq_true rfl⟩) ⟨fun a U g mk q => by obtain ⟨q0, q1, qP, qK, qD⟩ := q; exact ⟨q0, q1, qP, va_K.moved (u := U) (U := U.calling g mk a) (Vm.Alike.refl U.vm) qK, qD⟩, va_recv hK hP (ci := 1) (q0 := 1) rfl rfl, fun U hU hW => ⟨rfl, by rw [hU], by rw [hU]; exact hPc, va_K.moved hW.alike hK, hDc.weaken (fun _ _ _ _ => trivial)⟩⟩ rfl rfl hl.1 rfl (lv_room (Nat.le_of_ble_eq_true rfl)) d_Search_keepIfHelping_122 ⟨Nat.zero_le _, Nat.zero_le _⟩) hS (fun q _ h => hFc q h) hFc (fun r1 u t H1 locs ht hvm hw hB hz1 hk1 hS => ?_)
        rw [show r1 = _ from hw]
        obtain ⟨hP1, hK1, hD1⟩ := hB
        rw [ht] at hP1
        obtain ⟨hP, hD⟩ := va_join (wr := [(a0, .inr (4, [.ref a3, .ref a4, v0_2, .ref a1, .ref a2, .int x0_5, .int x0_6, .int x0_7])), (a3, .inr (5, [.ref a9, .ref a11, .ref a8, .ref a10])), (a4, .inr (7, [.ref a12, v4_1, .int x4_2])), (a8, .inl (kA 0, 4096, .inl f8)), (a9, .inr (2, [.ref a13, .ref a14, v9_2, v9_3, v9_4, v9_5, v9_6])), (a10, .inl (kA 0, 8, .inl f10)), (a11, .inr (6, [v11_0, .ref a16, .ref a15, .int x11_3, v11_4])), (a12, .inl (kA 0, 16, .inl f12)), (a13, .inl (kA 0, 12, .inl f13)), (a14, .inl (kA 0, 12, .inl f14)), (a15, .inl (kA 0, 280, .inl f15)), (a16, .inl (kA 0, 480, .inl f16))]) (w1 := (wd_Finds_add kA a1 a5 a6 a7 a2 v1_5 u_9.2.1 u_9.2.2.1 u_9.2.2.2.1 u_9.2.2.2.2.1 u_9.2.2.2.2.2 f2)) hP hD [1, 5, 6, 7, 2] [0, 3, 4, 8, 9, 10, 11, 12, 13, 14, 15, 16] rfl rfl (by decide) (by decide) hk1 hFc hP1 hD1
        have hP := hP.sub (ws' := (wd_Search_keepIfHelping kA a0 a1 a2 a3 a4 a5 a6 a7 a8 a9 a10 a11 a12 a13 a14 a15 a16 v0_2 v1_5 v4_1 v9_2 v9_3 v9_4 v9_5 v9_6 v11_0 v11_4 x0_5 x0_6 x0_7 u_9.2.1 u_9.2.2.1 f2 x4_2 u_9.2.2.2.1 u_9.2.2.2.2.1 u_9.2.2.2.2.2 f8 f10 x11_3 f12 f13 f14 f15 f16)) [0, 12, 16, 1, 2, 13, 14, 15, 3, 4, 5, 6, 7, 8, 9, 10, 11] rfl
        have hD := hD.sub (ws' := (wd_Search_keepIfHelping kA a0 a1 a2 a3 a4 a5 a6 a7 a8 a9 a10 a11 a12 a13 a14 a15 a16 v0_2 v1_5 v4_1 v9_2 v9_3 v9_4 v9_5 v9_6 v11_0 v11_4 x0_5 x0_6 x0_7 u_9.2.1 u_9.2.2.1 f2 x4_2 u_9.2.2.2.1 u_9.2.2.2.2.1 u_9.2.2.2.2.2 f8 f10 x11_3 f12 f13 f14 f15 f16)) [0, 12, 16, 1, 2, 13, 14, 15, 3, 4, 5, 6, 7, 8, 9, 10, 11] (by decide) rfl
        clear hPc hDc hFc hP1 hK1 hD1
        generalize H1 = H at hP hS ⊢
        refine lv_if_ne (tgt := 132) hx hb d_Search_keepIfHelping_125 (by decide) (fun c_10 => ?_) (fun c_10 => ?_)
        · rw [if_pos c_10] at hF
          refine lv_iconst (v := 0) hx hb d_Search_keepIfHelping_132 (by decide) ?_
          refine lv_ior hx hb d_Search_keepIfHelping_133 ?_
          obtain ⟨b_11, hF⟩ := rd_bool hF
          refine va_put (D := (dC, dI)) (ci := 4) (v := .int (x0_7 ||| 0)) (ty := .boolean) (C := R_Search) (T := F_Search) (N := 8) hx hb hg iw_Search t_Search t_Search_ok n_Search hown hK hP hD hS 0 rfl rfl 7 (by decide) (hg _ gw_143) (fun _ h9 => h9) rfl (by decide +kernel) (rd_nb b_11) (rd_fb b_11) (Nat.le_of_ble_eq_true rfl) d_Search_keepIfHelping_134 (fun H locs hP hD hS => ?_)
          have hP : va_P (dC, dI) classes (wd_Search_keepIfHelping kA a0 a1 a2 a3 a4 a5 a6 a7 a8 a9 a10 a11 a12 a13 a14 a15 a16 v0_2 v1_5 v4_1 v9_2 v9_3 v9_4 v9_5 v9_6 v11_0 v11_4 x0_5 x0_6 (x0_7 ||| 0) u_9.2.1 u_9.2.2.1 f2 x4_2 u_9.2.2.2.1 u_9.2.2.2.2.1 u_9.2.2.2.2.2 f8 f10 x11_3 f12 f13 f14 f15 f16) H := hP
          have hD : va_D A (wd_Search_keepIfHelping kA a0 a1 a2 a3 a4 a5 a6 a7 a8 a9 a10 a11 a12 a13 a14 a15 a16 v0_2 v1_5 v4_1 v9_2 v9_3 v9_4 v9_5 v9_6 v11_0 v11_4 x0_5 x0_6 (x0_7 ||| 0) u_9.2.1 u_9.2.2.1 f2 x4_2 u_9.2.2.2.1 u_9.2.2.2.2.1 u_9.2.2.2.2.2 f8 f10 x11_3 f12 f13 f14 f15 f16) := hD
          have e0 := Option.some.inj hF
          have q0 := Prod.mk.inj e0
          have q1 := Prod.mk.inj q0.2
          have q2 := Prod.mk.inj q1.2
          have q3 := Prod.mk.inj q2.2
          have q4 := Prod.mk.inj q3.2
          have q5 := Prod.mk.inj q4.2
          have q6 := Prod.mk.inj q5.2
          exact W.vret hx hb hr (fun t ht hW => ⟨⟨(), rfl, trivial, by rw [ht, ← q0.1, ← q1.1, ← q2.1, ← q3.1, ← q4.1, ← q5.1, ← q6.1, ← q6.2]; exact hP, va_K.moved hW.alike hK, (by rw [← q0.1, ← q1.1, ← q2.1, ← q3.1, ← q4.1, ← q5.1, ← q6.1, ← q6.2]; exact hD)⟩, hS.F ht⟩) hS.2.2 d_Search_keepIfHelping_137 hlocks
        · rw [if_neg (fun z => z c_10)] at hF
          refine lv_iconst (v := 1) hx hb d_Search_keepIfHelping_128 (by decide) ?_
          refine lv_goto (tgt := 133) hx hb d_Search_keepIfHelping_129 (by decide) ?_
          refine lv_ior hx hb d_Search_keepIfHelping_133 ?_
          obtain ⟨b_12, hF⟩ := rd_bool hF
          refine va_put (D := (dC, dI)) (ci := 4) (v := .int (x0_7 ||| 1)) (ty := .boolean) (C := R_Search) (T := F_Search) (N := 8) hx hb hg iw_Search t_Search t_Search_ok n_Search hown hK hP hD hS 0 rfl rfl 7 (by decide) (hg _ gw_143) (fun _ h9 => h9) rfl (by decide +kernel) (rd_nb b_12) (rd_fb b_12) (Nat.le_of_ble_eq_true rfl) d_Search_keepIfHelping_134 (fun H locs hP hD hS => ?_)
          have hP : va_P (dC, dI) classes (wd_Search_keepIfHelping kA a0 a1 a2 a3 a4 a5 a6 a7 a8 a9 a10 a11 a12 a13 a14 a15 a16 v0_2 v1_5 v4_1 v9_2 v9_3 v9_4 v9_5 v9_6 v11_0 v11_4 x0_5 x0_6 (x0_7 ||| 1) u_9.2.1 u_9.2.2.1 f2 x4_2 u_9.2.2.2.1 u_9.2.2.2.2.1 u_9.2.2.2.2.2 f8 f10 x11_3 f12 f13 f14 f15 f16) H := hP
          have hD : va_D A (wd_Search_keepIfHelping kA a0 a1 a2 a3 a4 a5 a6 a7 a8 a9 a10 a11 a12 a13 a14 a15 a16 v0_2 v1_5 v4_1 v9_2 v9_3 v9_4 v9_5 v9_6 v11_0 v11_4 x0_5 x0_6 (x0_7 ||| 1) u_9.2.1 u_9.2.2.1 f2 x4_2 u_9.2.2.2.1 u_9.2.2.2.2.1 u_9.2.2.2.2.2 f8 f10 x11_3 f12 f13 f14 f15 f16) := hD
          have e0 := Option.some.inj hF
          have q0 := Prod.mk.inj e0
          have q1 := Prod.mk.inj q0.2
          have q2 := Prod.mk.inj q1.2
          have q3 := Prod.mk.inj q2.2
          have q4 := Prod.mk.inj q3.2
          have q5 := Prod.mk.inj q4.2
          have q6 := Prod.mk.inj q5.2
          exact W.vret hx hb hr (fun t ht hW => ⟨⟨(), rfl, trivial, by rw [ht, ← q0.1, ← q1.1, ← q2.1, ← q3.1, ← q4.1, ← q5.1, ← q6.1, ← q6.2]; exact hP, va_K.moved hW.alike hK, (by rw [← q0.1, ← q1.1, ← q2.1, ← q3.1, ← q4.1, ← q5.1, ← q6.1, ← q6.2]; exact hD)⟩, hS.F ht⟩) hS.2.2 d_Search_keepIfHelping_137 hlocks
      · rw [if_neg c_8] at hF
        refine lv_iload hx hb d_Search_keepIfHelping_85 (lv_at hl 0 rfl) ?_
        refine lv_if_eq (tgt := 137) hx hb d_Search_keepIfHelping_87 (by decide) (fun c_13 => ?_) (fun c_13 => ?_)
        · rw [if_pos c_13] at hF
          have e0 := Option.some.inj hF
          have q0 := Prod.mk.inj e0
          have q1 := Prod.mk.inj q0.2
          have q2 := Prod.mk.inj q1.2
          have q3 := Prod.mk.inj q2.2
          have q4 := Prod.mk.inj q3.2
          have q5 := Prod.mk.inj q4.2
          have q6 := Prod.mk.inj q5.2
          exact W.vret hx hb hr (fun t ht hW => ⟨⟨(), rfl, trivial, by rw [ht, ← q0.1, ← q1.1, ← q2.1, ← q3.1, ← q4.1, ← q5.1, ← q6.1, ← q6.2]; exact hP, va_K.moved hW.alike hK, (by rw [← q0.1, ← q1.1, ← q2.1, ← q3.1, ← q4.1, ← q5.1, ← q6.1, ← q6.2]; exact hD)⟩, hS.F ht⟩) hS.2.2 d_Search_keepIfHelping_137 hlocks
        · rw [if_neg c_13] at hF
          refine lv_aload_n hx hb d_Search_keepIfHelping_90 rfl (lv_at hl 1 rfl) ?_
          refine va_get (D := (dC, dI)) (ci := 4) (v := .ref a3) (C := R_Search) (T := F_Search) (N := 8) hx hb hg iw_Search hown hK hP 0 rfl rfl 0 (by decide) (hg _ gw_139) (fun _ h9 => h9) rfl d_Search_keepIfHelping_91 ?_
          refine lv_iload hx hb d_Search_keepIfHelping_94 (lv_at hl 6 rfl) ?_
          obtain ⟨u_14, hS_14, hF⟩ := rd_bind hF
          have hPc := hP.sub (ws' := (wd_Stacks_isSentence kA a3 a8 a10 a11 a15 a16 (.ref a9) v11_0 v11_4 f8 f10 x11_3 f15 f16)) [3, 8, 10, 11, 15, 16] rfl
          have hDc := hD.sub (ws' := (wd_Stacks_isSentence kA a3 a8 a10 a11 a15 a16 (.ref a9) v11_0 v11_4 f8 f10 x11_3 f15 f16)) [3, 8, 10, 11, 15, 16] (by decide) rfl
          have hFc := va_free (wc := (wd_Stacks_isSentence kA a3 a8 a10 a11 a15 a16 (.ref a9) v11_0 v11_4 f8 f10 x11_3 f15 f16)) hD hS hA [3, 8, 10, 11, 15, 16] rfl
          refine va_calli (va_runV (As := [.int l5]) (rest := []) ⟨hx, hb, hml, hown, hts⟩ (c_Stacks_isSentence l dC dI kA H.size a3 a8 a10 a11 a15 a16 (.ref a9) v11_0 v11_4 l5 f8 f10 x11_3 f15 f16 u_14 hS_14) (cwV 1 hts (gw_V gw_151 gw_126 gw_127 gw_85 gw_128) rfl rfl rfl (by decide +kernel) ⟨Nat.le_of_ble_eq_true rfl, Nat.le_of_ble_eq_true rfl⟩) ⟨fun a U g mk q => by obtain ⟨q0, q1, qP, qK, qD⟩ := q; exact ⟨q0, q1, qP, va_K.moved (u := U) (U := U.calling g mk a) (Vm.Alike.refl U.vm) qK, qD⟩, va_recv hK hP (ci := 5) (q0 := 3) rfl rfl, fun U hU hW => ⟨rfl, by rw [hU], by rw [hU]; exact hPc, va_K.moved hW.alike hK, hDc.weaken (fun _ _ _ _ => trivial)⟩⟩ rfl rfl hl.1 rfl (lv_room (Nat.le_of_ble_eq_true rfl)) d_Search_keepIfHelping_96 ⟨Nat.zero_le _, Nat.zero_le _⟩) hS (fun q _ h => hFc q h) hFc (fun r1 u t H1 locs ht hvm hw hB hz1 hk1 hS => ?_)
          rw [show r1 = _ from hw]
          obtain ⟨hP1, hK1, hD1⟩ := hB
          rw [ht] at hP1
          obtain ⟨hP, hD⟩ := va_join (wr := [(a0, .inr (4, [.ref a3, .ref a4, v0_2, .ref a1, .ref a2, .int x0_5, .int x0_6, .int x0_7])), (a1, .inr (1, [.ref a7, .ref a5, .ref a6, .int x1_3, .int x1_4, v1_5])), (a2, .inl (kA 0, 6, .inl f2)), (a4, .inr (7, [.ref a12, v4_1, .int x4_2])), (a5, .inl (kA 0, 40, .inl f5)), (a6, .inl (kA 0, 40, .inl f6)), (a7, .inl (kA 0, 240, .inl f7)), (a9, .inr (2, [.ref a13, .ref a14, v9_2, v9_3, v9_4, v9_5, v9_6])), (a12, .inl (kA 0, 16, .inl f12)), (a13, .inl (kA 0, 12, .inl f13)), (a14, .inl (kA 0, 12, .inl f14))]) (w1 := (wd_Stacks_isSentence kA a3 a8 a10 a11 a15 a16 (.ref a9) v11_0 v11_4 f8 f10 x11_3 f15 f16)) hP hD [3, 8, 10, 11, 15, 16] [0, 1, 2, 4, 5, 6, 7, 9, 12, 13, 14] rfl rfl (by decide) (by decide) hk1 hFc hP1 hD1
          have hP := hP.sub (ws' := (wd_Search_keepIfHelping kA a0 a1 a2 a3 a4 a5 a6 a7 a8 a9 a10 a11 a12 a13 a14 a15 a16 v0_2 v1_5 v4_1 v9_2 v9_3 v9_4 v9_5 v9_6 v11_0 v11_4 x0_5 x0_6 x0_7 x1_3 x1_4 f2 x4_2 f5 f6 f7 f8 f10 x11_3 f12 f13 f14 f15 f16)) [0, 1, 2, 11, 3, 4, 5, 6, 12, 7, 13, 14, 8, 9, 10, 15, 16] rfl
          have hD := hD.sub (ws' := (wd_Search_keepIfHelping kA a0 a1 a2 a3 a4 a5 a6 a7 a8 a9 a10 a11 a12 a13 a14 a15 a16 v0_2 v1_5 v4_1 v9_2 v9_3 v9_4 v9_5 v9_6 v11_0 v11_4 x0_5 x0_6 x0_7 x1_3 x1_4 f2 x4_2 f5 f6 f7 f8 f10 x11_3 f12 f13 f14 f15 f16)) [0, 1, 2, 11, 3, 4, 5, 6, 12, 7, 13, 14, 8, 9, 10, 15, 16] (by decide) rfl
          clear hPc hDc hFc hP1 hK1 hD1
          generalize H1 = H at hP hS ⊢
          refine lv_if_eq (tgt := 137) hx hb d_Search_keepIfHelping_99 (by decide) (fun c_15 => ?_) (fun c_15 => ?_)
          · rw [if_pos c_15] at hF
            have e0 := Option.some.inj hF
            have q0 := Prod.mk.inj e0
            have q1 := Prod.mk.inj q0.2
            have q2 := Prod.mk.inj q1.2
            have q3 := Prod.mk.inj q2.2
            have q4 := Prod.mk.inj q3.2
            have q5 := Prod.mk.inj q4.2
            have q6 := Prod.mk.inj q5.2
            exact W.vret hx hb hr (fun t ht hW => ⟨⟨(), rfl, trivial, by rw [ht, ← q0.1, ← q1.1, ← q2.1, ← q3.1, ← q4.1, ← q5.1, ← q6.1, ← q6.2]; exact hP, va_K.moved hW.alike hK, (by rw [← q0.1, ← q1.1, ← q2.1, ← q3.1, ← q4.1, ← q5.1, ← q6.1, ← q6.2]; exact hD)⟩, hS.F ht⟩) hS.2.2 d_Search_keepIfHelping_137 hlocks
          · rw [if_neg c_15] at hF
            refine lv_aload_n hx hb d_Search_keepIfHelping_102 rfl (lv_at hl 1 rfl) ?_
            refine lv_dup hx hb d_Search_keepIfHelping_103 rfl ?_
            refine va_get (D := (dC, dI)) (ci := 4) (v := .int x0_7) (C := R_Search) (T := F_Search) (N := 8) hx hb hg iw_Search hown hK hP 0 rfl rfl 7 (by decide) (hg _ gw_143) (fun _ h9 => h9) rfl d_Search_keepIfHelping_104 ?_
            refine lv_aload_n hx hb d_Search_keepIfHelping_107 rfl (lv_at hl 1 rfl) ?_
            refine va_get (D := (dC, dI)) (ci := 4) (v := .ref a1) (C := R_Search) (T := F_Search) (N := 8) hx hb hg iw_Search hown hK hP 0 rfl rfl 3 (by decide) (hg _ gw_144) (fun _ h9 => h9) rfl d_Search_keepIfHelping_108 ?_
            refine lv_aload_n hx hb d_Search_keepIfHelping_111 rfl (lv_at hl 1 rfl) ?_
            refine va_get (D := (dC, dI)) (ci := 4) (v := .ref a2) (C := R_Search) (T := F_Search) (N := 8) hx hb hg iw_Search hown hK hP 0 rfl rfl 4 (by decide) (hg _ gw_145) (fun _ h9 => h9) rfl d_Search_keepIfHelping_112 ?_
            refine lv_iload_n hx hb d_Search_keepIfHelping_115 rfl (lv_at hl 2 rfl) ?_
            refine lv_iload hx hb d_Search_keepIfHelping_116 (lv_at hl 5 rfl) ?_
            refine lv_aload_n hx hb d_Search_keepIfHelping_118 rfl (lv_at hl 1 rfl) ?_
            refine va_get (D := (dC, dI)) (ci := 4) (v := .int x0_6) (C := R_Search) (T := F_Search) (N := 8) hx hb hg iw_Search hown hK hP 0 rfl rfl 6 (by decide) (hg _ gw_146) (fun _ h9 => h9) rfl d_Search_keepIfHelping_119 ?_
            obtain ⟨u_16, hS_16, hF⟩ := rd_bind hF
            have hPc := hP.sub (ws' := (wd_Finds_add kA a1 a5 a6 a7 a2 v1_5 x1_3 x1_4 f5 f6 f7 f2)) [1, 5, 6, 7, 2] rfl
            have hDc := hD.sub (ws' := (wd_Finds_add kA a1 a5 a6 a7 a2 v1_5 x1_3 x1_4 f5 f6 f7 f2)) [1, 5, 6, 7, 2] (by decide) rfl
            have hFc := va_free (wc := (wd_Finds_add kA a1 a5 a6 a7 a2 v1_5 x1_3 x1_4 f5 f6 f7 f2)) hD hS hA [1, 5, 6, 7, 2] rfl
            refine va_calli (va_runV (As := [.ref a2, .int l1, .int l4, .int x0_6]) (rest := [.int x0_7, .ref a0]) ⟨hx, hb, hml, hown, hts⟩ (c_Finds_add l dC dI kA H.size a1 a5 a6 a7 a2 v1_5 l1 l4 x0_6 x1_3 x1_4 f5 f6 f7 f2 u_16.1 u_16.2.1 u_16.2.2.1 u_16.2.2.2.1 u_16.2.2.2.2.1 u_16.2.2.2.2.2 hS_16) (cwV 4 hts (gw_V gw_147 gw_148 gw_149 gw_11 gw_150) rfl rfl rfl (by decide +kernel) ⟨Nat.le_of_ble_eq_true rfl, Nat.le_of_ble_eq_true rfl⟩) ⟨fun a U g mk q => by obtain ⟨q0, q1, qP, qK, qD⟩ := q; exact ⟨q0, q1, qP, va_K.moved (u := U) (U := U.calling g mk a) (Vm.Alike.refl U.vm) qK, qD⟩, va_recv hK hP (ci := 1) (q0 := 1) rfl rfl, fun U hU hW => ⟨rfl, by rw [hU], by rw [hU]; exact hPc, va_K.moved hW.alike hK, hDc.weaken (fun _ _ _ _ => trivial)⟩⟩ rfl rfl hl.1 rfl (lv_room (Nat.le_of_ble_eq_true rfl)) d_Search_keepIfHelping_122 ⟨Nat.zero_le _, Nat.zero_le _⟩) hS (fun q _ h => hFc q h) hFc (fun r1 u t H1 locs ht hvm hw hB hz1 hk1 hS => ?_)
            rw [show r1 = _ from hw]
            obtain ⟨hP1, hK1, hD1⟩ := hB
            rw [ht] at hP1
            obtain ⟨hP, hD⟩ := va_join (wr := [(a0, .inr (4, [.ref a3, .ref a4, v0_2, .ref a1, .ref a2, .int x0_5, .int x0_6, .int x0_7])), (a3, .inr (5, [.ref a9, .ref a11, .ref a8, .ref a10])), (a4, .inr (7, [.ref a12, v4_1, .int x4_2])), (a8, .inl (kA 0, 4096, .inl f8)), (a9, .inr (2, [.ref a13, .ref a14, v9_2, v9_3, v9_4, v9_5, v9_6])), (a10, .inl (kA 0, 8, .inl f10)), (a11, .inr (6, [v11_0, .ref a16, .ref a15, .int x11_3, v11_4])), (a12, .inl (kA 0, 16, .inl f12)), (a13, .inl (kA 0, 12, .inl f13)), (a14, .inl (kA 0, 12, .inl f14)), (a15, .inl (kA 0, 280, .inl f15)), (a16, .inl (kA 0, 480, .inl f16))]) (w1 := (wd_Finds_add kA a1 a5 a6 a7 a2 v1_5 u_16.2.1 u_16.2.2.1 u_16.2.2.2.1 u_16.2.2.2.2.1 u_16.2.2.2.2.2 f2)) hP hD [1, 5, 6, 7, 2] [0, 3, 4, 8, 9, 10, 11, 12, 13, 14, 15, 16] rfl rfl (by decide) (by decide) hk1 hFc hP1 hD1
            have hP := hP.sub (ws' := (wd_Search_keepIfHelping kA a0 a1 a2 a3 a4 a5 a6 a7 a8 a9 a10 a11 a12 a13 a14 a15 a16 v0_2 v1_5 v4_1 v9_2 v9_3 v9_4 v9_5 v9_6 v11_0 v11_4 x0_5 x0_6 x0_7 u_16.2.1 u_16.2.2.1 f2 x4_2 u_16.2.2.2.1 u_16.2.2.2.2.1 u_16.2.2.2.2.2 f8 f10 x11_3 f12 f13 f14 f15 f16)) [0, 12, 16, 1, 2, 13, 14, 15, 3, 4, 5, 6, 7, 8, 9, 10, 11] rfl
            have hD := hD.sub (ws' := (wd_Search_keepIfHelping kA a0 a1 a2 a3 a4 a5 a6 a7 a8 a9 a10 a11 a12 a13 a14 a15 a16 v0_2 v1_5 v4_1 v9_2 v9_3 v9_4 v9_5 v9_6 v11_0 v11_4 x0_5 x0_6 x0_7 u_16.2.1 u_16.2.2.1 f2 x4_2 u_16.2.2.2.1 u_16.2.2.2.2.1 u_16.2.2.2.2.2 f8 f10 x11_3 f12 f13 f14 f15 f16)) [0, 12, 16, 1, 2, 13, 14, 15, 3, 4, 5, 6, 7, 8, 9, 10, 11] (by decide) rfl
            clear hPc hDc hFc hP1 hK1 hD1
            generalize H1 = H at hP hS ⊢
            refine lv_if_ne (tgt := 132) hx hb d_Search_keepIfHelping_125 (by decide) (fun c_17 => ?_) (fun c_17 => ?_)
            · rw [if_pos c_17] at hF
              refine lv_iconst (v := 0) hx hb d_Search_keepIfHelping_132 (by decide) ?_
              refine lv_ior hx hb d_Search_keepIfHelping_133 ?_
              obtain ⟨b_18, hF⟩ := rd_bool hF
              refine va_put (D := (dC, dI)) (ci := 4) (v := .int (x0_7 ||| 0)) (ty := .boolean) (C := R_Search) (T := F_Search) (N := 8) hx hb hg iw_Search t_Search t_Search_ok n_Search hown hK hP hD hS 0 rfl rfl 7 (by decide) (hg _ gw_143) (fun _ h9 => h9) rfl (by decide +kernel) (rd_nb b_18) (rd_fb b_18) (Nat.le_of_ble_eq_true rfl) d_Search_keepIfHelping_134 (fun H locs hP hD hS => ?_)
              have hP : va_P (dC, dI) classes (wd_Search_keepIfHelping kA a0 a1 a2 a3 a4 a5 a6 a7 a8 a9 a10 a11 a12 a13 a14 a15 a16 v0_2 v1_5 v4_1 v9_2 v9_3 v9_4 v9_5 v9_6 v11_0 v11_4 x0_5 x0_6 (x0_7 ||| 0) u_16.2.1 u_16.2.2.1 f2 x4_2 u_16.2.2.2.1 u_16.2.2.2.2.1 u_16.2.2.2.2.2 f8 f10 x11_3 f12 f13 f14 f15 f16) H := hP
              have hD : va_D A (wd_Search_keepIfHelping kA a0 a1 a2 a3 a4 a5 a6 a7 a8 a9 a10 a11 a12 a13 a14 a15 a16 v0_2 v1_5 v4_1 v9_2 v9_3 v9_4 v9_5 v9_6 v11_0 v11_4 x0_5 x0_6 (x0_7 ||| 0) u_16.2.1 u_16.2.2.1 f2 x4_2 u_16.2.2.2.1 u_16.2.2.2.2.1 u_16.2.2.2.2.2 f8 f10 x11_3 f12 f13 f14 f15 f16) := hD
              have e0 := Option.some.inj hF
              have q0 := Prod.mk.inj e0
              have q1 := Prod.mk.inj q0.2
              have q2 := Prod.mk.inj q1.2
              have q3 := Prod.mk.inj q2.2
              have q4 := Prod.mk.inj q3.2
              have q5 := Prod.mk.inj q4.2
              have q6 := Prod.mk.inj q5.2
              exact W.vret hx hb hr (fun t ht hW => ⟨⟨(), rfl, trivial, by rw [ht, ← q0.1, ← q1.1, ← q2.1, ← q3.1, ← q4.1, ← q5.1, ← q6.1, ← q6.2]; exact hP, va_K.moved hW.alike hK, (by rw [← q0.1, ← q1.1, ← q2.1, ← q3.1, ← q4.1, ← q5.1, ← q6.1, ← q6.2]; exact hD)⟩, hS.F ht⟩) hS.2.2 d_Search_keepIfHelping_137 hlocks
            · rw [if_neg (fun z => z c_17)] at hF
              refine lv_iconst (v := 1) hx hb d_Search_keepIfHelping_128 (by decide) ?_
              refine lv_goto (tgt := 133) hx hb d_Search_keepIfHelping_129 (by decide) ?_
              refine lv_ior hx hb d_Search_keepIfHelping_133 ?_
              obtain ⟨b_19, hF⟩ := rd_bool hF
              refine va_put (D := (dC, dI)) (ci := 4) (v := .int (x0_7 ||| 1)) (ty := .boolean) (C := R_Search) (T := F_Search) (N := 8) hx hb hg iw_Search t_Search t_Search_ok n_Search hown hK hP hD hS 0 rfl rfl 7 (by decide) (hg _ gw_143) (fun _ h9 => h9) rfl (by decide +kernel) (rd_nb b_19) (rd_fb b_19) (Nat.le_of_ble_eq_true rfl) d_Search_keepIfHelping_134 (fun H locs hP hD hS => ?_)
              have hP : va_P (dC, dI) classes (wd_Search_keepIfHelping kA a0 a1 a2 a3 a4 a5 a6 a7 a8 a9 a10 a11 a12 a13 a14 a15 a16 v0_2 v1_5 v4_1 v9_2 v9_3 v9_4 v9_5 v9_6 v11_0 v11_4 x0_5 x0_6 (x0_7 ||| 1) u_16.2.1 u_16.2.2.1 f2 x4_2 u_16.2.2.2.1 u_16.2.2.2.2.1 u_16.2.2.2.2.2 f8 f10 x11_3 f12 f13 f14 f15 f16) H := hP
              have hD : va_D A (wd_Search_keepIfHelping kA a0 a1 a2 a3 a4 a5 a6 a7 a8 a9 a10 a11 a12 a13 a14 a15 a16 v0_2 v1_5 v4_1 v9_2 v9_3 v9_4 v9_5 v9_6 v11_0 v11_4 x0_5 x0_6 (x0_7 ||| 1) u_16.2.1 u_16.2.2.1 f2 x4_2 u_16.2.2.2.1 u_16.2.2.2.2.1 u_16.2.2.2.2.2 f8 f10 x11_3 f12 f13 f14 f15 f16) := hD
              have e0 := Option.some.inj hF
              have q0 := Prod.mk.inj e0
              have q1 := Prod.mk.inj q0.2
              have q2 := Prod.mk.inj q1.2
              have q3 := Prod.mk.inj q2.2
              have q4 := Prod.mk.inj q3.2
              have q5 := Prod.mk.inj q4.2
              have q6 := Prod.mk.inj q5.2
              exact W.vret hx hb hr (fun t ht hW => ⟨⟨(), rfl, trivial, by rw [ht, ← q0.1, ← q1.1, ← q2.1, ← q3.1, ← q4.1, ← q5.1, ← q6.1, ← q6.2]; exact hP, va_K.moved hW.alike hK, (by rw [← q0.1, ← q1.1, ← q2.1, ← q3.1, ← q4.1, ← q5.1, ← q6.1, ← q6.2]; exact hD)⟩, hS.F ht⟩) hS.2.2 d_Search_keepIfHelping_137 hlocks
def S_Search_keepIfHelping (p1 : Int32) (p2 : Int32) (p3 : Int32) (x0_5 : Int32) (x0_6 : Int32) (x0_7 : Int32) (x1_3 : Int32) (x1_4 : Int32) (f2 : (Nat → Int32)) (x4_2 : Int32) (f5 : (Nat → Int32)) (f6 : (Nat → Int32)) (f7 : (Nat → Int32)) (f8 : (Nat → Int32)) (f10 : (Nat → Int32)) (x11_3 : Int32) (f12 : (Nat → Int32)) (f13 : (Nat → Int32)) (f14 : (Nat → Int32)) (f15 : (Nat → Int32)) (f16 : (Nat → Int32)) : Option (Int32 × Int32 × Int32 × (Nat → Int32) × (Nat → Int32) × (Nat → Int32) × (Nat → Int32) × (Nat → Int32)) := (F_Search_keepIfHelping x0_5 x0_6 f2 x4_2 x11_3 f12 f13 f14 f15 f16 fuel_ 0 p1 p2 p3 0 p2 0 x0_7 x1_3 x1_4 f5 f6 f7 f8 f10)
set_option maxHeartbeats 4000000 in
set_option maxRecDepth 100000 in
theorem c_Search_keepIfHelping (l : Launch) (dC : Nat → ClassId) (dI : Nat → Nat → Nat) (kA : Nat → ClassId) (sz : Nat) (a0 a1 a2 a3 a4 a5 a6 a7 a8 a9 a10 a11 a12 a13 a14 a15 a16 : Nat) (v0_2 v1_5 v4_1 v9_2 v9_3 v9_4 v9_5 v9_6 v11_0 v11_4 : Value) (p1 : Int32) (p2 : Int32) (p3 : Int32) (x0_5 : Int32) (x0_6 : Int32) (x0_7 : Int32) (x1_3 : Int32) (x1_4 : Int32) (f2 : (Nat → Int32)) (x4_2 : Int32) (f5 : (Nat → Int32)) (f6 : (Nat → Int32)) (f7 : (Nat → Int32)) (f8 : (Nat → Int32)) (f10 : (Nat → Int32)) (x11_3 : Int32) (f12 : (Nat → Int32)) (f13 : (Nat → Int32)) (f14 : (Nat → Int32)) (f15 : (Nat → Int32)) (f16 : (Nat → Int32)) (ox0_7 : Int32) (ox1_3 : Int32) (ox1_4 : Int32) (of5 : (Nat → Int32)) (of6 : (Nat → Int32)) (of7 : (Nat → Int32)) (of8 : (Nat → Int32)) (of10 : (Nat → Int32)) (hF : S_Search_keepIfHelping p1 p2 p3 x0_5 x0_6 x0_7 x1_3 x1_4 f2 x4_2 f5 f6 f7 f8 f10 x11_3 f12 f13 f14 f15 f16 = some (ox0_7, ox1_3, ox1_4, of5, of6, of7, of8, of10)) : Met l y_Search_keepIfHelping w_Search_keepIfHelping rm_Search_keepIfHelping (va_Pc [.ref a0, .int p1, .int p2, .int p3] (fun U => U.heap.size = sz ∧ va_P (dC, dI) classes (wd_Search_keepIfHelping kA a0 a1 a2 a3 a4 a5 a6 a7 a8 a9 a10 a11 a12 a13 a14 a15 a16 v0_2 v1_5 v4_1 v9_2 v9_3 v9_4 v9_5 v9_6 v11_0 v11_4 x0_5 x0_6 x0_7 x1_3 x1_4 f2 x4_2 f5 f6 f7 f8 f10 x11_3 f12 f13 f14 f15 f16) U.heap ∧ va_K (dC, dI) classes (tys_ kA) U ∧ va_D (fun _ => True) (wd_Search_keepIfHelping kA a0 a1 a2 a3 a4 a5 a6 a7 a8 a9 a10 a11 a12 a13 a14 a15 a16 v0_2 v1_5 v4_1 v9_2 v9_3 v9_4 v9_5 v9_6 v11_0 v11_4 x0_5 x0_6 x0_7 x1_3 x1_4 f2 x4_2 f5 f6 f7 f8 f10 x11_3 f12 f13 f14 f15 f16))) (va_Qv (fun (_ : Unit) => True) (fun _ t => va_P (dC, dI) classes (wd_Search_keepIfHelping kA a0 a1 a2 a3 a4 a5 a6 a7 a8 a9 a10 a11 a12 a13 a14 a15 a16 v0_2 v1_5 v4_1 v9_2 v9_3 v9_4 v9_5 v9_6 v11_0 v11_4 x0_5 x0_6 ox0_7 ox1_3 ox1_4 f2 x4_2 of5 of6 of7 of8 of10 x11_3 f12 f13 f14 f15 f16) t.heap ∧ va_K (dC, dI) classes (tys_ kA) t ∧ va_D (va_A (wd_Search_keepIfHelping kA a0 a1 a2 a3 a4 a5 a6 a7 a8 a9 a10 a11 a12 a13 a14 a15 a16 v0_2 v1_5 v4_1 v9_2 v9_3 v9_4 v9_5 v9_6 v11_0 v11_4 x0_5 x0_6 x0_7 x1_3 x1_4 f2 x4_2 f5 f6 f7 f8 f10 x11_3 f12 f13 f14 f15 f16) sz) (wd_Search_keepIfHelping kA a0 a1 a2 a3 a4 a5 a6 a7 a8 a9 a10 a11 a12 a13 a14 a15 a16 v0_2 v1_5 v4_1 v9_2 v9_3 v9_4 v9_5 v9_6 v11_0 v11_4 x0_5 x0_6 ox0_7 ox1_3 ox1_4 f2 x4_2 of5 of6 of7 of8 of10 x11_3 f12 f13 f14 f15 f16)) (va_A (wd_Search_keepIfHelping kA a0 a1 a2 a3 a4 a5 a6 a7 a8 a9 a10 a11 a12 a13 a14 a15 a16 v0_2 v1_5 v4_1 v9_2 v9_3 v9_4 v9_5 v9_6 v11_0 v11_4 x0_5 x0_6 x0_7 x1_3 x1_4 f2 x4_2 f5 f6 f7 f8 f10 x11_3 f12 f13 f14 f15 f16) sz)) 0 0 (va_A (wd_Search_keepIfHelping kA a0 a1 a2 a3 a4 a5 a6 a7 a8 a9 a10 a11 a12 a13 a14 a15 a16 v0_2 v1_5 v4_1 v9_2 v9_3 v9_4 v9_5 v9_6 v11_0 v11_4 x0_5 x0_6 x0_7 x1_3 x1_4 f2 x4_2 f5 f6 f7 f8 f10 x11_3 f12 f13 f14 f15 f16) sz) := by
  refine Met.ofW (cc := b_Search_keepIfHelping) (maxL := 7) (ret := none) (by decide) rfl ?_
  intro p e s m args below meth c s₁ B hml hv
  obtain ⟨rfl, hsz, hP, hK, hD0⟩ := hv
  have hx := B.exec
  have hb := B.bytes
  have hr := B.returns
  have hts := atoms_spec (ws := w_Search_keepIfHelping) B.pre
  have hown : s.vm.findClass R_Search = some m.cls := findClass_of_methodNamed B.named
  have hg := fun (w : Cond) (h : w ∈ gw) => hts w (List.mem_cons_of_mem _ h)
  have hlocks := B.notSynchronized
  subst hsz
  have hD := hD0.self (sz := s.heap.size)
  generalize hAe : va_A (wd_Search_keepIfHelping kA a0 a1 a2 a3 a4 a5 a6 a7 a8 a9 a10 a11 a12 a13 a14 a15 a16 v0_2 v1_5 v4_1 v9_2 v9_3 v9_4 v9_5 v9_6 v11_0 v11_4 x0_5 x0_6 x0_7 x1_3 x1_4 f2 x4_2 f5 f6 f7 f8 f10 x11_3 f12 f13 f14 f15 f16) s.heap.size = A at hD ⊢
  have hA : ∀ q : Nat, s.heap.size ≤ q → A q := fun q h => by rw [← hAe]; exact Or.inr h
  have hS : va_S A s.heap s.heap [] := va_S.rf
  have hl := lv_entry ([.ref a0, .int p1, .int p2, .int p3]) (n := 7) (Nat.le_of_ble_eq_true rfl)
  rw [lg_entry_eq]
  generalize (lg_sl ([.ref a0, .int p1, .int p2, .int p3]) ++ List.replicate (7 - (lg_sl ([.ref a0, .int p1, .int p2, .int p3])).length) Slot.unset).toArray = ls at hl ⊢
  have hl : lv_has ls 7 [(0, .ref a0), (1, .int p1), (2, .int p2), (3, .int p3)] := hl
  unfold S_Search_keepIfHelping at hF
  have ih := L_Search_keepIfHelping (l := l) (e := e) (below := below) hx hb hr hlocks hml hown hts hA hK a0 a1 a2 a3 a4 a5 a6 a7 a8 a9 a10 a11 a12 a13 a14 a15 a16 v0_2 v1_5 v4_1 v9_2 v9_3 v9_4 v9_5 v9_6 v11_0 v11_4 x0_5 x0_6 f2 x4_2 x11_3 f12 f13 f14 f15 f16 ox0_7 ox1_3 ox1_4 of5 of6 of7 of8 of10 fuel_
  refine lv_iconst (v := 0) hx hb d_Search_keepIfHelping_0 (by decide) ?_
  refine lv_istore (lv' := [(4, .int 0), (0, .ref a0), (1, .int p1), (2, .int p2), (3, .int p3)]) hx hb d_Search_keepIfHelping_1 hl (by decide) rfl (fun ls hl => ?_)
  refine lv_iload_n hx hb d_Search_keepIfHelping_3 rfl (lv_at hl 3 rfl) ?_
  refine lv_istore (lv' := [(5, .int p2), (4, .int 0), (0, .ref a0), (1, .int p1), (2, .int p2), (3, .int p3)]) hx hb d_Search_keepIfHelping_4 hl (by decide) rfl (fun ls hl => ?_)
  exact ih.1 p1 p2 p3 0 p2 0 x0_7 x1_3 x1_4 f5 f6 f7 f8 f10 hF _ _ _ hP hD hS (lv_sub hl [2, 3, 4, 5, 1, 0] rfl)
-- ===== RepairDesk$Search.follow(IIIII)V
abbrev wd_Search_follow (kA : Nat → ClassId) (a0 a1 a2 a3 a4 a5 a6 a7 a8 a9 a10 a11 a12 a13 a14 a15 a16 a17 a18 a19 : Nat) (v2_5 v5_1 v12_2 v12_3 v12_4 v12_5 v12_6 v14_0 v14_4 : Value) (x0_5 : Int32) (x0_6 : Int32) (x0_7 : Int32) (x2_3 : Int32) (x2_4 : Int32) (f3 : (Nat → Int32)) (x5_2 : Int32) (f6 : (Nat → Int32)) (f7 : (Nat → Int32)) (f8 : (Nat → Int32)) (f9 : (Nat → Int32)) (f10 : (Nat → Int32)) (f11 : (Nat → Int32)) (f13 : (Nat → Int32)) (x14_3 : Int32) (f15 : (Nat → Int32)) (f16 : (Nat → Int32)) (f17 : (Nat → Int32)) (f18 : (Nat → Int32)) (f19 : (Nat → Int32)) : va_W := [(a0, .inr (4, [.ref a4, .ref a5, .ref a1, .ref a2, .ref a3, .int x0_5, .int x0_6, .int x0_7])), (a1, .inr (0, [.ref a6, .ref a7])), (a2, .inr (1, [.ref a10, .ref a8, .ref a9, .int x2_3, .int x2_4, v2_5])), (a3, .inl (kA 0, 6, .inl f3)), (a4, .inr (5, [.ref a12, .ref a14, .ref a11, .ref a13])), (a5, .inr (7, [.ref a15, v5_1, .int x5_2])), (a6, .inl (kA 0, 6, .inl f6)), (a7, .inl (kA 0, 6, .inl f7)), (a8, .inl (kA 0, 40, .inl f8)), (a9, .inl (kA 0, 40, .inl f9)), (a10, .inl (kA 0, 240, .inl f10)), (a11, .inl (kA 0, 4096, .inl f11)), (a12, .inr (2, [.ref a16, .ref a17, v12_2, v12_3, v12_4, v12_5, v12_6])), (a13, .inl (kA 0, 8, .inl f13)), (a14, .inr (6, [v14_0, .ref a19, .ref a18, .int x14_3, v14_4])), (a15, .inl (kA 0, 16, .inl f15)), (a16, .inl (kA 0, 12, .inl f16)), (a17, .inl (kA 0, 12, .inl f17)), (a18, .inl (kA 0, 280, .inl f18)), (a19, .inl (kA 0, 480, .inl f19))]
abbrev rm_Search_follow : Room := { frames := 4, cells := 0, slots := 0, locals := 134 }
def S_Search_follow (Kf : Int32 → Int32 → Int32 → Int32 → Int32 → Int32 → Int32 → Int32 → Int32 → Int32 → (Nat → Int32) → Int32 → (Nat → Int32) → (Nat → Int32) → (Nat → Int32) → (Nat → Int32) → (Nat → Int32) → (Nat → Int32) → (Nat → Int32) → Int32 → (Nat → Int32) → (Nat → Int32) → (Nat → Int32) → (Nat → Int32) → (Nat → Int32) → Option (Int32 × Int32 × Int32 × (Nat → Int32) × (Nat → Int32) × (Nat → Int32) × (Nat → Int32) × (Nat → Int32) × (Nat → Int32))) (p1 : Int32) (p2 : Int32) (p3 : Int32) (p4 : Int32) (p5 : Int32) (x0_5 : Int32) (x0_6 : Int32) (x0_7 : Int32) (x2_3 : Int32) (x2_4 : Int32) (f3 : (Nat → Int32)) (x5_2 : Int32) (f6 : (Nat → Int32)) (f7 : (Nat → Int32)) (f8 : (Nat → Int32)) (f9 : (Nat → Int32)) (f10 : (Nat → Int32)) (f11 : (Nat → Int32)) (f13 : (Nat → Int32)) (x14_3 : Int32) (f15 : (Nat → Int32)) (f16 : (Nat → Int32)) (f17 : (Nat → Int32)) (f18 : (Nat → Int32)) (f19 : (Nat → Int32)) : Option (Int32 × Int32 × Int32 × (Nat → Int32) × (Nat → Int32) × (Nat → Int32) × (Nat → Int32) × (Nat → Int32) × (Nat → Int32)) := (if p4 ≤ 0 then ((S_Search_keepIfHelping p1 p2 p3 x0_5 x0_6 x0_7 x2_3 x2_4 f3 x5_2 f8 f9 f10 f11 f13 x14_3 f15 f16 f17 f18 f19).bind fun u_2 => (some (u_2.1, u_2.2.1, u_2.2.2.1, f3, u_2.2.2.2.1, u_2.2.2.2.2.1, u_2.2.2.2.2.2.1, u_2.2.2.2.2.2.2.1, u_2.2.2.2.2.2.2.2))) else ((Kf p1 p2 p3 p4 p5 x0_5 x0_6 x0_7 x2_3 x2_4 f3 x5_2 f6 f7 f8 f9 f10 f11 f13 x14_3 f15 f16 f17 f18 f19).bind fun u_3 => (some (u_3.1, u_3.2.1, u_3.2.2.1, u_3.2.2.2.1, u_3.2.2.2.2.1, u_3.2.2.2.2.2.1, u_3.2.2.2.2.2.2.1, u_3.2.2.2.2.2.2.2.1, u_3.2.2.2.2.2.2.2.2))))
set_option maxHeartbeats 4000000 in
set_option maxRecDepth 100000 in
theorem c_Search_follow (l : Launch) (dC : Nat → ClassId) (dI : Nat → Nat → Nat) (kA : Nat → ClassId) (sz : Nat) (a0 a1 a2 a3 a4 a5 a6 a7 a8 a9 a10 a11 a12 a13 a14 a15 a16 a17 a18 a19 : Nat) (v2_5 v5_1 v12_2 v12_3 v12_4 v12_5 v12_6 v14_0 v14_4 : Value) (p1 : Int32) (p2 : Int32) (p3 : Int32) (p4 : Int32) (p5 : Int32) (x0_5 : Int32) (x0_6 : Int32) (x0_7 : Int32) (x2_3 : Int32) (x2_4 : Int32) (f3 : (Nat → Int32)) (x5_2 : Int32) (f6 : (Nat → Int32)) (f7 : (Nat → Int32)) (f8 : (Nat → Int32)) (f9 : (Nat → Int32)) (f10 : (Nat → Int32)) (f11 : (Nat → Int32)) (f13 : (Nat → Int32)) (x14_3 : Int32) (f15 : (Nat → Int32)) (f16 : (Nat → Int32)) (f17 : (Nat → Int32)) (f18 : (Nat → Int32)) (f19 : (Nat → Int32)) (ox0_7 : Int32) (ox2_3 : Int32) (ox2_4 : Int32) (of3 : (Nat → Int32)) (of8 : (Nat → Int32)) (of9 : (Nat → Int32)) (of10 : (Nat → Int32)) (of11 : (Nat → Int32)) (of13 : (Nat → Int32)) (fr lo : Nat) (rf : Room) (Kf : Int32 → Int32 → Int32 → Int32 → Int32 → Int32 → Int32 → Int32 → Int32 → Int32 → (Nat → Int32) → Int32 → (Nat → Int32) → (Nat → Int32) → (Nat → Int32) → (Nat → Int32) → (Nat → Int32) → (Nat → Int32) → (Nat → Int32) → Int32 → (Nat → Int32) → (Nat → Int32) → (Nat → Int32) → (Nat → Int32) → (Nat → Int32) → Option (Int32 × Int32 × Int32 × (Nat → Int32) × (Nat → Int32) × (Nat → Int32) × (Nat → Int32) × (Nat → Int32) × (Nat → Int32))) (hfr : 4 ≤ fr) (hlo : 134 ≤ lo) (hR1 : rf.frames + 1 ≤ fr) (hR2 : 8 + (9 + 11) + rf.locals ≤ lo) (hrc : rf.cells = 0) (hrs : rf.slots = 0) (hKf : ∀ (sz : Nat) (a0 a1 a2 a3 a4 a5 a6 a7 a8 a9 a10 a11 a12 a13 a14 a15 a16 a17 a18 a19 : Nat) (v2_5 v5_1 v12_2 v12_3 v12_4 v12_5 v12_6 v14_0 v14_4 : Value) (p1 : Int32) (p2 : Int32) (p3 : Int32) (p4 : Int32) (p5 : Int32) (x0_5 : Int32) (x0_6 : Int32) (x0_7 : Int32) (x2_3 : Int32) (x2_4 : Int32) (f3 : (Nat → Int32)) (x5_2 : Int32) (f6 : (Nat → Int32)) (f7 : (Nat → Int32)) (f8 : (Nat → Int32)) (f9 : (Nat → Int32)) (f10 : (Nat → Int32)) (f11 : (Nat → Int32)) (f13 : (Nat → Int32)) (x14_3 : Int32) (f15 : (Nat → Int32)) (f16 : (Nat → Int32)) (f17 : (Nat → Int32)) (f18 : (Nat → Int32)) (f19 : (Nat → Int32)) (ox0_7 : Int32) (ox2_3 : Int32) (ox2_4 : Int32) (of3 : (Nat → Int32)) (of8 : (Nat → Int32)) (of9 : (Nat → Int32)) (of10 : (Nat → Int32)) (of11 : (Nat → Int32)) (of13 : (Nat → Int32)), Kf p1 p2 p3 p4 p5 x0_5 x0_6 x0_7 x2_3 x2_4 f3 x5_2 f6 f7 f8 f9 f10 f11 f13 x14_3 f15 f16 f17 f18 f19 = some (ox0_7, ox2_3, ox2_4, of3, of8, of9, of10, of11, of13) → Met l y_Search_explore w_Search_explore rf (va_Pc [.ref a0, .int p1, .int p2, .int p3, .int p4, .int p5] (fun U => U.heap.size = sz ∧ va_P (dC, dI) classes (wd_Search_explore kA a0 a1 a2 a3 a4 a5 a6 a7 a8 a9 a10 a11 a12 a13 a14 a15 a16 a17 a18 a19 v2_5 v5_1 v12_2 v12_3 v12_4 v12_5 v12_6 v14_0 v14_4 x0_5 x0_6 x0_7 x2_3 x2_4 f3 x5_2 f6 f7 f8 f9 f10 f11 f13 x14_3 f15 f16 f17 f18 f19) U.heap ∧ va_K (dC, dI) classes (tys_ kA) U ∧ va_D (fun _ => True) (wd_Search_explore kA a0 a1 a2 a3 a4 a5 a6 a7 a8 a9 a10 a11 a12 a13 a14 a15 a16 a17 a18 a19 v2_5 v5_1 v12_2 v12_3 v12_4 v12_5 v12_6 v14_0 v14_4 x0_5 x0_6 x0_7 x2_3 x2_4 f3 x5_2 f6 f7 f8 f9 f10 f11 f13 x14_3 f15 f16 f17 f18 f19))) (va_Qv (fun (_ : Unit) => True) (fun _ t => va_P (dC, dI) classes (wd_Search_explore kA a0 a1 a2 a3 a4 a5 a6 a7 a8 a9 a10 a11 a12 a13 a14 a15 a16 a17 a18 a19 v2_5 v5_1 v12_2 v12_3 v12_4 v12_5 v12_6 v14_0 v14_4 x0_5 x0_6 ox0_7 ox2_3 ox2_4 of3 x5_2 f6 f7 of8 of9 of10 of11 of13 x14_3 f15 f16 f17 f18 f19) t.heap ∧ va_K (dC, dI) classes (tys_ kA) t ∧ va_D (va_A (wd_Search_explore kA a0 a1 a2 a3 a4 a5 a6 a7 a8 a9 a10 a11 a12 a13 a14 a15 a16 a17 a18 a19 v2_5 v5_1 v12_2 v12_3 v12_4 v12_5 v12_6 v14_0 v14_4 x0_5 x0_6 x0_7 x2_3 x2_4 f3 x5_2 f6 f7 f8 f9 f10 f11 f13 x14_3 f15 f16 f17 f18 f19) sz) (wd_Search_explore kA a0 a1 a2 a3 a4 a5 a6 a7 a8 a9 a10 a11 a12 a13 a14 a15 a16 a17 a18 a19 v2_5 v5_1 v12_2 v12_3 v12_4 v12_5 v12_6 v14_0 v14_4 x0_5 x0_6 ox0_7 ox2_3 ox2_4 of3 x5_2 f6 f7 of8 of9 of10 of11 of13 x14_3 f15 f16 f17 f18 f19)) (va_A (wd_Search_explore kA a0 a1 a2 a3 a4 a5 a6 a7 a8 a9 a10 a11 a12 a13 a14 a15 a16 a17 a18 a19 v2_5 v5_1 v12_2 v12_3 v12_4 v12_5 v12_6 v14_0 v14_4 x0_5 x0_6 x0_7 x2_3 x2_4 f3 x5_2 f6 f7 f8 f9 f10 f11 f13 x14_3 f15 f16 f17 f18 f19) sz)) 0 0 (va_A (wd_Search_explore kA a0 a1 a2 a3 a4 a5 a6 a7 a8 a9 a10 a11 a12 a13 a14 a15 a16 a17 a18 a19 v2_5 v5_1 v12_2 v12_3 v12_4 v12_5 v12_6 v14_0 v14_4 x0_5 x0_6 x0_7 x2_3 x2_4 f3 x5_2 f6 f7 f8 f9 f10 f11 f13 x14_3 f15 f16 f17 f18 f19) sz)) (hF : S_Search_follow Kf p1 p2 p3 p4 p5 x0_5 x0_6 x0_7 x2_3 x2_4 f3 x5_2 f6 f7 f8 f9 f10 f11 f13 x14_3 f15 f16 f17 f18 f19 = some (ox0_7, ox2_3, ox2_4, of3, of8, of9, of10, of11, of13)) : Met l y_Search_follow w_Search_follow ({ frames := fr, cells := 0, slots := 0, locals := lo } : Room) (va_Pc [.ref a0, .int p1, .int p2, .int p3, .int p4, .int p5] (fun U => U.heap.size = sz ∧ va_P (dC, dI) classes (wd_Search_follow kA a0 a1 a2 a3 a4 a5 a6 a7 a8 a9 a10 a11 a12 a13 a14 a15 a16 a17 a18 a19 v2_5 v5_1 v12_2 v12_3 v12_4 v12_5 v12_6 v14_0 v14_4 x0_5 x0_6 x0_7 x2_3 x2_4 f3 x5_2 f6 f7 f8 f9 f10 f11 f13 x14_3 f15 f16 f17 f18 f19) U.heap ∧ va_K (dC, dI) classes (tys_ kA) U ∧ va_D (fun _ => True) (wd_Search_follow kA a0 a1 a2 a3 a4 a5 a6 a7 a8 a9 a10 a11 a12 a13 a14 a15 a16 a17 a18 a19 v2_5 v5_1 v12_2 v12_3 v12_4 v12_5 v12_6 v14_0 v14_4 x0_5 x0_6 x0_7 x2_3 x2_4 f3 x5_2 f6 f7 f8 f9 f10 f11 f13 x14_3 f15 f16 f17 f18 f19))) (va_Qv (fun (_ : Unit) => True) (fun _ t => va_P (dC, dI) classes (wd_Search_follow kA a0 a1 a2 a3 a4 a5 a6 a7 a8 a9 a10 a11 a12 a13 a14 a15 a16 a17 a18 a19 v2_5 v5_1 v12_2 v12_3 v12_4 v12_5 v12_6 v14_0 v14_4 x0_5 x0_6 ox0_7 ox2_3 ox2_4 of3 x5_2 f6 f7 of8 of9 of10 of11 of13 x14_3 f15 f16 f17 f18 f19) t.heap ∧ va_K (dC, dI) classes (tys_ kA) t ∧ va_D (va_A (wd_Search_follow kA a0 a1 a2 a3 a4 a5 a6 a7 a8 a9 a10 a11 a12 a13 a14 a15 a16 a17 a18 a19 v2_5 v5_1 v12_2 v12_3 v12_4 v12_5 v12_6 v14_0 v14_4 x0_5 x0_6 x0_7 x2_3 x2_4 f3 x5_2 f6 f7 f8 f9 f10 f11 f13 x14_3 f15 f16 f17 f18 f19) sz) (wd_Search_follow kA a0 a1 a2 a3 a4 a5 a6 a7 a8 a9 a10 a11 a12 a13 a14 a15 a16 a17 a18 a19 v2_5 v5_1 v12_2 v12_3 v12_4 v12_5 v12_6 v14_0 v14_4 x0_5 x0_6 ox0_7 ox2_3 ox2_4 of3 x5_2 f6 f7 of8 of9 of10 of11 of13 x14_3 f15 f16 f17 f18 f19)) (va_A (wd_Search_follow kA a0 a1 a2 a3 a4 a5 a6 a7 a8 a9 a10 a11 a12 a13 a14 a15 a16 a17 a18 a19 v2_5 v5_1 v12_2 v12_3 v12_4 v12_5 v12_6 v14_0 v14_4 x0_5 x0_6 x0_7 x2_3 x2_4 f3 x5_2 f6 f7 f8 f9 f10 f11 f13 x14_3 f15 f16 f17 f18 f19) sz)) 0 0 (va_A (wd_Search_follow kA a0 a1 a2 a3 a4 a5 a6 a7 a8 a9 a10 a11 a12 a13 a14 a15 a16 a17 a18 a19 v2_5 v5_1 v12_2 v12_3 v12_4 v12_5 v12_6 v14_0 v14_4 x0_5 x0_6 x0_7 x2_3 x2_4 f3 x5_2 f6 f7 f8 f9 f10 f11 f13 x14_3 f15 f16 f17 f18 f19) sz) := by
  refine Met.ofW (cc := b_Search_follow) (maxL := 6) (ret := none) (by decide) rfl ?_
  intro p e s m args below meth c s₁ B hml hv
  obtain ⟨rfl, hsz, hP, hK, hD0⟩ := hv
  have hx := B.exec
  have hb := B.bytes
  have hr := B.returns
  have hts := atoms_spec (ws := w_Search_follow) B.pre
  have hown : s.vm.findClass R_Search = some m.cls := findClass_of_methodNamed B.named
  have hg := fun (w : Cond) (h : w ∈ gw) => hts w (List.mem_cons_of_mem _ h)
  have hlocks := B.notSynchronized
  subst hsz
  have hD := hD0.self (sz := s.heap.size)
  generalize hAe : va_A (wd_Search_follow kA a0 a1 a2 a3 a4 a5 a6 a7 a8 a9 a10 a11 a12 a13 a14 a15 a16 a17 a18 a19 v2_5 v5_1 v12_2 v12_3 v12_4 v12_5 v12_6 v14_0 v14_4 x0_5 x0_6 x0_7 x2_3 x2_4 f3 x5_2 f6 f7 f8 f9 f10 f11 f13 x14_3 f15 f16 f17 f18 f19) s.heap.size = A at hD ⊢
  have hA : ∀ q : Nat, s.heap.size ≤ q → A q := fun q h => by rw [← hAe]; exact Or.inr h
  have hS : va_S A s.heap s.heap [] := va_S.rf
  have hl := lv_entry ([.ref a0, .int p1, .int p2, .int p3, .int p4, .int p5]) (n := 6) (Nat.le_of_ble_eq_true rfl)
  rw [lg_entry_eq]
  generalize (lg_sl ([.ref a0, .int p1, .int p2, .int p3, .int p4, .int p5]) ++ List.replicate (6 - (lg_sl ([.ref a0, .int p1, .int p2, .int p3, .int p4, .int p5])).length) Slot.unset).toArray = ls at hl ⊢
  have hl : lv_has ls 6 [(0, .ref a0), (1, .int p1), (2, .int p2), (3, .int p3), (4, .int p4), (5, .int p5)] := hl
  unfold S_Search_follow at hF
  refine lv_iload hx hb d_Search_follow_0 (lv_at hl 4 rfl) ?_
  refine lv_if_le (tgt := 19) hx hb d_Search_follow_2 (by decide) (fun c_1 => ?_) (fun c_1 => ?_)
  · rw [if_pos c_1] at hF
    refine lv_aload_n hx hb d_Search_follow_19 rfl (lv_at hl 0 rfl) ?_
    refine lv_iload_n hx hb d_Search_follow_20 rfl (lv_at hl 1 rfl) ?_
    refine lv_iload_n hx hb d_Search_follow_21 rfl (lv_at hl 2 rfl) ?_
    refine lv_iload_n hx hb d_Search_follow_22 rfl (lv_at hl 3 rfl) ?_
    obtain ⟨u_2, hS_2, hF⟩ := rd_bind hF
    have hPc := hP.sub (ws' := (wd_Search_keepIfHelping kA a0 a2 a3 a4 a5 a8 a9 a10 a11 a12 a13 a14 a15 a16 a17 a18 a19 (.ref a1) v2_5 v5_1 v12_2 v12_3 v12_4 v12_5 v12_6 v14_0 v14_4 x0_5 x0_6 x0_7 x2_3 x2_4 f3 x5_2 f8 f9 f10 f11 f13 x14_3 f15 f16 f17 f18 f19)) [0, 2, 3, 4, 5, 8, 9, 10, 11, 12, 13, 14, 15, 16, 17, 18, 19] rfl
    have hDc := hD.sub (ws' := (wd_Search_keepIfHelping kA a0 a2 a3 a4 a5 a8 a9 a10 a11 a12 a13 a14 a15 a16 a17 a18 a19 (.ref a1) v2_5 v5_1 v12_2 v12_3 v12_4 v12_5 v12_6 v14_0 v14_4 x0_5 x0_6 x0_7 x2_3 x2_4 f3 x5_2 f8 f9 f10 f11 f13 x14_3 f15 f16 f17 f18 f19)) [0, 2, 3, 4, 5, 8, 9, 10, 11, 12, 13, 14, 15, 16, 17, 18, 19] (by decide) rfl
    have hFc := va_free (wc := (wd_Search_keepIfHelping kA a0 a2 a3 a4 a5 a8 a9 a10 a11 a12 a13 a14 a15 a16 a17 a18 a19 (.ref a1) v2_5 v5_1 v12_2 v12_3 v12_4 v12_5 v12_6 v14_0 v14_4 x0_5 x0_6 x0_7 x2_3 x2_4 f3 x5_2 f8 f9 f10 f11 f13 x14_3 f15 f16 f17 f18 f19)) hD hS hA [0, 2, 3, 4, 5, 8, 9, 10, 11, 12, 13, 14, 15, 16, 17, 18, 19] rfl
    refine va_callv (va_runV (As := [.int p1, .int p2, .int p3]) (rest := []) ⟨hx, hb, hml, hown, hts⟩ (c_Search_keepIfHelping l dC dI kA s.heap.size a0 a2 a3 a4 a5 a8 a9 a10 a11 a12 a13 a14 a15 a16 a17 a18 a19 (.ref a1) v2_5 v5_1 v12_2 v12_3 v12_4 v12_5 v12_6 v14_0 v14_4 p1 p2 p3 x0_5 x0_6 x0_7 x2_3 x2_4 f3 x5_2 f8 f9 f10 f11 f13 x14_3 f15 f16 f17 f18 f19 u_2.1 u_2.2.1 u_2.2.2.1 u_2.2.2.2.1 u_2.2.2.2.2.1 u_2.2.2.2.2.2.1 u_2.2.2.2.2.2.2.1 u_2.2.2.2.2.2.2.2 hS_2) (cwV 3 hts (gw_V gw_152 gw_153 gw_154 gw_155 gw_156) rfl rfl rfl (by decide +kernel) ⟨Nat.le_trans (m := 4) (Nat.le_of_ble_eq_true rfl) hfr, Nat.le_trans (m := 134) (Nat.le_of_ble_eq_true rfl) hlo⟩) ⟨fun a U g mk q => by obtain ⟨q0, q1, qP, qK, qD⟩ := q; exact ⟨q0, q1, qP, va_K.moved (u := U) (U := U.calling g mk a) (Vm.Alike.refl U.vm) qK, qD⟩, va_recv hK hP (ci := 4) (q0 := 0) rfl rfl, fun U hU hW => ⟨rfl, by rw [hU], by rw [hU]; exact hPc, va_K.moved hW.alike hK, hDc.weaken (fun _ _ _ _ => trivial)⟩⟩ rfl rfl hl.1 rfl (lv_room (Nat.le_of_ble_eq_true rfl)) d_Search_follow_23 ⟨Nat.zero_le _, Nat.zero_le _⟩) hS (fun q _ h => hFc q h) hFc (fun u t H1 locs ht hvm hw hB hz1 hk1 hS => ?_)
    obtain ⟨hP1, hK1, hD1⟩ := hB
    rw [ht] at hP1
    obtain ⟨hP, hD⟩ := va_join (wr := [(a1, .inr (0, [.ref a6, .ref a7])), (a6, .inl (kA 0, 6, .inl f6)), (a7, .inl (kA 0, 6, .inl f7))]) (w1 := (wd_Search_keepIfHelping kA a0 a2 a3 a4 a5 a8 a9 a10 a11 a12 a13 a14 a15 a16 a17 a18 a19 (.ref a1) v2_5 v5_1 v12_2 v12_3 v12_4 v12_5 v12_6 v14_0 v14_4 x0_5 x0_6 u_2.1 u_2.2.1 u_2.2.2.1 f3 x5_2 u_2.2.2.2.1 u_2.2.2.2.2.1 u_2.2.2.2.2.2.1 u_2.2.2.2.2.2.2.1 u_2.2.2.2.2.2.2.2 x14_3 f15 f16 f17 f18 f19)) hP hD [0, 2, 3, 4, 5, 8, 9, 10, 11, 12, 13, 14, 15, 16, 17, 18, 19] [1, 6, 7] rfl rfl (by decide) (by decide) hk1 hFc hP1 hD1
    have hP := hP.sub (ws' := (wd_Search_follow kA a0 a1 a2 a3 a4 a5 a6 a7 a8 a9 a10 a11 a12 a13 a14 a15 a16 a17 a18 a19 v2_5 v5_1 v12_2 v12_3 v12_4 v12_5 v12_6 v14_0 v14_4 x0_5 x0_6 u_2.1 u_2.2.1 u_2.2.2.1 f3 x5_2 f6 f7 u_2.2.2.2.1 u_2.2.2.2.2.1 u_2.2.2.2.2.2.1 u_2.2.2.2.2.2.2.1 u_2.2.2.2.2.2.2.2 x14_3 f15 f16 f17 f18 f19)) [3, 0, 4, 5, 6, 7, 1, 2, 8, 9, 10, 11, 12, 13, 14, 15, 16, 17, 18, 19] rfl
    have hD := hD.sub (ws' := (wd_Search_follow kA a0 a1 a2 a3 a4 a5 a6 a7 a8 a9 a10 a11 a12 a13 a14 a15 a16 a17 a18 a19 v2_5 v5_1 v12_2 v12_3 v12_4 v12_5 v12_6 v14_0 v14_4 x0_5 x0_6 u_2.1 u_2.2.1 u_2.2.2.1 f3 x5_2 f6 f7 u_2.2.2.2.1 u_2.2.2.2.2.1 u_2.2.2.2.2.2.1 u_2.2.2.2.2.2.2.1 u_2.2.2.2.2.2.2.2 x14_3 f15 f16 f17 f18 f19)) [3, 0, 4, 5, 6, 7, 1, 2, 8, 9, 10, 11, 12, 13, 14, 15, 16, 17, 18, 19] (by decide) rfl
    clear hPc hDc hFc hP1 hK1 hD1
    generalize H1 = H at hP hS ⊢
    have e0 := Option.some.inj hF
    have q0 := Prod.mk.inj e0
    have q1 := Prod.mk.inj q0.2
    have q2 := Prod.mk.inj q1.2
    have q3 := Prod.mk.inj q2.2
    have q4 := Prod.mk.inj q3.2
    have q5 := Prod.mk.inj q4.2
    have q6 := Prod.mk.inj q5.2
    have q7 := Prod.mk.inj q6.2
    exact W.vret hx hb hr (fun t ht hW => ⟨⟨(), rfl, trivial, by rw [ht, ← q0.1, ← q1.1, ← q2.1, ← q3.1, ← q4.1, ← q5.1, ← q6.1, ← q7.1, ← q7.2]; exact hP, va_K.moved hW.alike hK, (by rw [← q0.1, ← q1.1, ← q2.1, ← q3.1, ← q4.1, ← q5.1, ← q6.1, ← q7.1, ← q7.2]; exact hD)⟩, hS.F ht⟩) hS.2.2 d_Search_follow_26 hlocks
  · rw [if_neg c_1] at hF
    refine lv_aload_n hx hb d_Search_follow_5 rfl (lv_at hl 0 rfl) ?_
    refine lv_iload_n hx hb d_Search_follow_6 rfl (lv_at hl 1 rfl) ?_
    refine lv_iload_n hx hb d_Search_follow_7 rfl (lv_at hl 2 rfl) ?_
    refine lv_iload_n hx hb d_Search_follow_8 rfl (lv_at hl 3 rfl) ?_
    refine lv_iload hx hb d_Search_follow_9 (lv_at hl 4 rfl) ?_
    refine lv_iload hx hb d_Search_follow_11 (lv_at hl 5 rfl) ?_
    obtain ⟨u_3, hS_3, hF⟩ := rd_bind hF
    have hPc := hP.sub (ws' := (wd_Search_explore kA a0 a1 a2 a3 a4 a5 a6 a7 a8 a9 a10 a11 a12 a13 a14 a15 a16 a17 a18 a19 v2_5 v5_1 v12_2 v12_3 v12_4 v12_5 v12_6 v14_0 v14_4 x0_5 x0_6 x0_7 x2_3 x2_4 f3 x5_2 f6 f7 f8 f9 f10 f11 f13 x14_3 f15 f16 f17 f18 f19)) [0, 1, 2, 3, 4, 5, 6, 7, 8, 9, 10, 11, 12, 13, 14, 15, 16, 17, 18, 19] rfl
    have hDc := hD.sub (ws' := (wd_Search_explore kA a0 a1 a2 a3 a4 a5 a6 a7 a8 a9 a10 a11 a12 a13 a14 a15 a16 a17 a18 a19 v2_5 v5_1 v12_2 v12_3 v12_4 v12_5 v12_6 v14_0 v14_4 x0_5 x0_6 x0_7 x2_3 x2_4 f3 x5_2 f6 f7 f8 f9 f10 f11 f13 x14_3 f15 f16 f17 f18 f19)) [0, 1, 2, 3, 4, 5, 6, 7, 8, 9, 10, 11, 12, 13, 14, 15, 16, 17, 18, 19] (by decide) rfl
    have hFc := va_free (wc := (wd_Search_explore kA a0 a1 a2 a3 a4 a5 a6 a7 a8 a9 a10 a11 a12 a13 a14 a15 a16 a17 a18 a19 v2_5 v5_1 v12_2 v12_3 v12_4 v12_5 v12_6 v14_0 v14_4 x0_5 x0_6 x0_7 x2_3 x2_4 f3 x5_2 f6 f7 f8 f9 f10 f11 f13 x14_3 f15 f16 f17 f18 f19)) hD hS hA [0, 1, 2, 3, 4, 5, 6, 7, 8, 9, 10, 11, 12, 13, 14, 15, 16, 17, 18, 19] rfl
    refine va_callv (va_runV (As := [.int p1, .int p2, .int p3, .int p4, .int p5]) (rest := []) ⟨hx, hb, hml, hown, hts⟩ (hKf s.heap.size a0 a1 a2 a3 a4 a5 a6 a7 a8 a9 a10 a11 a12 a13 a14 a15 a16 a17 a18 a19 v2_5 v5_1 v12_2 v12_3 v12_4 v12_5 v12_6 v14_0 v14_4 p1 p2 p3 p4 p5 x0_5 x0_6 x0_7 x2_3 x2_4 f3 x5_2 f6 f7 f8 f9 f10 f11 f13 x14_3 f15 f16 f17 f18 f19 u_3.1 u_3.2.1 u_3.2.2.1 u_3.2.2.2.1 u_3.2.2.2.2.1 u_3.2.2.2.2.2.1 u_3.2.2.2.2.2.2.1 u_3.2.2.2.2.2.2.2.1 u_3.2.2.2.2.2.2.2.2 hS_3) (cwV 5 hts (gw_V gw_157 gw_158 gw_159 gw_155 gw_160) rfl hrc hrs (by decide +kernel) ⟨hR1, hR2⟩) ⟨fun a U g mk q => by obtain ⟨q0, q1, qP, qK, qD⟩ := q; exact ⟨q0, q1, qP, va_K.moved (u := U) (U := U.calling g mk a) (Vm.Alike.refl U.vm) qK, qD⟩, va_recv hK hP (ci := 4) (q0 := 0) rfl rfl, fun U hU hW => ⟨rfl, by rw [hU], by rw [hU]; exact hPc, va_K.moved hW.alike hK, hDc.weaken (fun _ _ _ _ => trivial)⟩⟩ rfl rfl hl.1 rfl (lv_room (Nat.le_of_ble_eq_true rfl)) d_Search_follow_13 ⟨Nat.zero_le _, Nat.zero_le _⟩) hS (fun q _ h => hFc q h) hFc (fun u t H1 locs ht hvm hw hB hz1 hk1 hS => ?_)
    obtain ⟨hP1, hK1, hD1⟩ := hB
    rw [ht] at hP1
    obtain ⟨hP, hD⟩ := va_join (wr := []) (w1 := (wd_Search_explore kA a0 a1 a2 a3 a4 a5 a6 a7 a8 a9 a10 a11 a12 a13 a14 a15 a16 a17 a18 a19 v2_5 v5_1 v12_2 v12_3 v12_4 v12_5 v12_6 v14_0 v14_4 x0_5 x0_6 u_3.1 u_3.2.1 u_3.2.2.1 u_3.2.2.2.1 x5_2 f6 f7 u_3.2.2.2.2.1 u_3.2.2.2.2.2.1 u_3.2.2.2.2.2.2.1 u_3.2.2.2.2.2.2.2.1 u_3.2.2.2.2.2.2.2.2 x14_3 f15 f16 f17 f18 f19)) hP hD [0, 1, 2, 3, 4, 5, 6, 7, 8, 9, 10, 11, 12, 13, 14, 15, 16, 17, 18, 19] [] rfl rfl (by decide) (by decide) hk1 hFc hP1 hD1
    have hP := hP.sub (ws' := (wd_Search_follow kA a0 a1 a2 a3 a4 a5 a6 a7 a8 a9 a10 a11 a12 a13 a14 a15 a16 a17 a18 a19 v2_5 v5_1 v12_2 v12_3 v12_4 v12_5 v12_6 v14_0 v14_4 x0_5 x0_6 u_3.1 u_3.2.1 u_3.2.2.1 u_3.2.2.2.1 x5_2 f6 f7 u_3.2.2.2.2.1 u_3.2.2.2.2.2.1 u_3.2.2.2.2.2.2.1 u_3.2.2.2.2.2.2.2.1 u_3.2.2.2.2.2.2.2.2 x14_3 f15 f16 f17 f18 f19)) [0, 1, 2, 3, 4, 5, 6, 7, 8, 9, 10, 11, 12, 13, 14, 15, 16, 17, 18, 19] rfl
    have hD := hD.sub (ws' := (wd_Search_follow kA a0 a1 a2 a3 a4 a5 a6 a7 a8 a9 a10 a11 a12 a13 a14 a15 a16 a17 a18 a19 v2_5 v5_1 v12_2 v12_3 v12_4 v12_5 v12_6 v14_0 v14_4 x0_5 x0_6 u_3.1 u_3.2.1 u_3.2.2.1 u_3.2.2.2.1 x5_2 f6 f7 u_3.2.2.2.2.1 u_3.2.2.2.2.2.1 u_3.2.2.2.2.2.2.1 u_3.2.2.2.2.2.2.2.1 u_3.2.2.2.2.2.2.2.2 x14_3 f15 f16 f17 f18 f19)) [0, 1, 2, 3, 4, 5, 6, 7, 8, 9, 10, 11, 12, 13, 14, 15, 16, 17, 18, 19] (by decide) rfl
    clear hPc hDc hFc hP1 hK1 hD1
    generalize H1 = H at hP hS ⊢
    refine lv_goto (tgt := 26) hx hb d_Search_follow_16 (by decide) ?_
    have e0 := Option.some.inj hF
    have q0 := Prod.mk.inj e0
    have q1 := Prod.mk.inj q0.2
    have q2 := Prod.mk.inj q1.2
    have q3 := Prod.mk.inj q2.2
    have q4 := Prod.mk.inj q3.2
    have q5 := Prod.mk.inj q4.2
    have q6 := Prod.mk.inj q5.2
    have q7 := Prod.mk.inj q6.2
    exact W.vret hx hb hr (fun t ht hW => ⟨⟨(), rfl, trivial, by rw [ht, ← q0.1, ← q1.1, ← q2.1, ← q3.1, ← q4.1, ← q5.1, ← q6.1, ← q7.1, ← q7.2]; exact hP, va_K.moved hW.alike hK, (by rw [← q0.1, ← q1.1, ← q2.1, ← q3.1, ← q4.1, ← q5.1, ← q6.1, ← q7.1, ← q7.2]; exact hD)⟩, hS.F ht⟩) hS.2.2 d_Search_follow_26 hlocks
-- ===== RepairDesk$Search.explore(IIIII)V
abbrev wd_Search_explore (kA : Nat → ClassId) (a0 a1 a2 a3 a4 a5 a6 a7 a8 a9 a10 a11 a12 a13 a14 a15 a16 a17 a18 a19 : Nat) (v2_5 v5_1 v12_2 v12_3 v12_4 v12_5 v12_6 v14_0 v14_4 : Value) (x0_5 : Int32) (x0_6 : Int32) (x0_7 : Int32) (x2_3 : Int32) (x2_4 : Int32) (f3 : (Nat → Int32)) (x5_2 : Int32) (f6 : (Nat → Int32)) (f7 : (Nat → Int32)) (f8 : (Nat → Int32)) (f9 : (Nat → Int32)) (f10 : (Nat → Int32)) (f11 : (Nat → Int32)) (f13 : (Nat → Int32)) (x14_3 : Int32) (f15 : (Nat → Int32)) (f16 : (Nat → Int32)) (f17 : (Nat → Int32)) (f18 : (Nat → Int32)) (f19 : (Nat → Int32)) : va_W := [(a0, .inr (4, [.ref a4, .ref a5, .ref a1, .ref a2, .ref a3, .int x0_5, .int x0_6, .int x0_7])), (a1, .inr (0, [.ref a6, .ref a7])), (a2, .inr (1, [.ref a10, .ref a8, .ref a9, .int x2_3, .int x2_4, v2_5])), (a3, .inl (kA 0, 6, .inl f3)), (a4, .inr (5, [.ref a12, .ref a14, .ref a11, .ref a13])), (a5, .inr (7, [.ref a15, v5_1, .int x5_2])), (a6, .inl (kA 0, 6, .inl f6)), (a7, .inl (kA 0, 6, .inl f7)), (a8, .inl (kA 0, 40, .inl f8)), (a9, .inl (kA 0, 40, .inl f9)), (a10, .inl (kA 0, 240, .inl f10)), (a11, .inl (kA 0, 4096, .inl f11)), (a12, .inr (2, [.ref a16, .ref a17, v12_2, v12_3, v12_4, v12_5, v12_6])), (a13, .inl (kA 0, 8, .inl f13)), (a14, .inr (6, [v14_0, .ref a19, .ref a18, .int x14_3, v14_4])), (a15, .inl (kA 0, 16, .inl f15)), (a16, .inl (kA 0, 12, .inl f16)), (a17, .inl (kA 0, 12, .inl f17)), (a18, .inl (kA 0, 280, .inl f18)), (a19, .inl (kA 0, 480, .inl f19))]
abbrev rm_Search_explore : Room := { frames := 3, cells := 0, slots := 0, locals := 108 }
def B_Search_explore_0 (Kf : Int32 → Int32 → Int32 → Int32 → Int32 → Int32 → Int32 → Int32 → Int32 → Int32 → (Nat → Int32) → Int32 → (Nat → Int32) → (Nat → Int32) → (Nat → Int32) → (Nat → Int32) → (Nat → Int32) → (Nat → Int32) → (Nat → Int32) → Int32 → (Nat → Int32) → (Nat → Int32) → (Nat → Int32) → (Nat → Int32) → (Nat → Int32) → Option (Int32 × Int32 × Int32 × (Nat → Int32) × (Nat → Int32) × (Nat → Int32) × (Nat → Int32) × (Nat → Int32) × (Nat → Int32))) (K : Nat → Int32 → Int32 → Int32 → Int32 → Int32 → Int32 → Int32 → Int32 → Int32 → Int32 → Int32 → (Nat → Int32) → (Nat → Int32) → (Nat → Int32) → (Nat → Int32) → (Nat → Int32) → (Nat → Int32) → Option (Int32 × Int32 × Int32 × (Nat → Int32) × (Nat → Int32) × (Nat → Int32) × (Nat → Int32) × (Nat → Int32) × (Nat → Int32))) (x0_5 : Int32) (x0_6 : Int32) (x5_2 : Int32) (f6 : (Nat → Int32)) (f7 : (Nat → Int32)) (x14_3 : Int32) (f15 : (Nat → Int32)) (f16 : (Nat → Int32)) (f17 : (Nat → Int32)) (f18 : (Nat → Int32)) (f19 : (Nat → Int32)) (l1 : Int32) (l2 : Int32) (l3 : Int32) (l4 : Int32) (l5 : Int32) (l6 : Int32) (l7 : Int32) (l8 : Int32) (x0_7 : Int32) (x2_3 : Int32) (x2_4 : Int32) (f3 : (Nat → Int32)) (f8 : (Nat → Int32)) (f9 : (Nat → Int32)) (f10 : (Nat → Int32)) (f11 : (Nat → Int32)) (f13 : (Nat → Int32)) : Option (Int32 × Int32 × Int32 × (Nat → Int32) × (Nat → Int32) × (Nat → Int32) × (Nat → Int32) × (Nat → Int32) × (Nat → Int32)) := (if 6 ≤ l7 then (K 1 l1 l2 l3 l4 l5 l6 l7 0 x0_7 x2_3 x2_4 f3 f8 f9 f10 f11 f13) else (if ¬ l6 = 0 then (K 1 l1 l2 l3 l4 l5 l6 l7 0 x0_7 x2_3 x2_4 f3 f8 f9 f10 f11 f13) else ((S_Costs_ofPutting l7 f6).bind fun u_3 => (if (l4 - u_3) < 0 then (K 0 l1 l2 l3 l4 l5 l6 (l7 + 1) 0 x0_7 x2_3 x2_4 f3 f8 f9 f10 f11 f13) else ((S_Stacks_feed l2 (l2 + 1) l7 f11 f13 x14_3 f16 f17 f18 f19).bind fun u_5 => (if u_5.1 = 0 then (K 0 l1 l2 l3 l4 l5 l6 (l7 + 1) 0 x0_7 x2_3 x2_4 f3 f8 f9 f10 u_5.2.1 u_5.2.2) else (if (l1 : Int32) < 0 ∨ 6 ≤ (Int32.toNatClampNeg l1) then none else ((Kf (l1 + 1) (l2 + 1) l3 (l4 - u_3) l5 x0_5 x0_6 x0_7 x2_3 x2_4 (upd f3 (Int32.toNatClampNeg l1) l7) x5_2 f6 f7 f8 f9 f10 u_5.2.1 u_5.2.2 x14_3 f15 f16 f17 f18 f19).bind fun u_8 => (K 0 l1 l2 l3 l4 l5 l6 (l7 + 1) 0 u_8.1 u_8.2.1 u_8.2.2.1 u_8.2.2.2.1 u_8.2.2.2.2.1 u_8.2.2.2.2.2.1 u_8.2.2.2.2.2.2.1 u_8.2.2.2.2.2.2.2.1 u_8.2.2.2.2.2.2.2.2)))))))))
def B_Search_explore_1 (Kf : Int32 → Int32 → Int32 → Int32 → Int32 → Int32 → Int32 → Int32 → Int32 → Int32 → (Nat → Int32) → Int32 → (Nat → Int32) → (Nat → Int32) → (Nat → Int32) → (Nat → Int32) → (Nat → Int32) → (Nat → Int32) → (Nat → Int32) → Int32 → (Nat → Int32) → (Nat → Int32) → (Nat → Int32) → (Nat → Int32) → (Nat → Int32) → Option (Int32 × Int32 × Int32 × (Nat → Int32) × (Nat → Int32) × (Nat → Int32) × (Nat → Int32) × (Nat → Int32) × (Nat → Int32))) (K : Nat → Int32 → Int32 → Int32 → Int32 → Int32 → Int32 → Int32 → Int32 → Int32 → Int32 → Int32 → (Nat → Int32) → (Nat → Int32) → (Nat → Int32) → (Nat → Int32) → (Nat → Int32) → (Nat → Int32) → Option (Int32 × Int32 × Int32 × (Nat → Int32) × (Nat → Int32) × (Nat → Int32) × (Nat → Int32) × (Nat → Int32) × (Nat → Int32))) (x0_5 : Int32) (x0_6 : Int32) (x5_2 : Int32) (f6 : (Nat → Int32)) (f7 : (Nat → Int32)) (x14_3 : Int32) (f15 : (Nat → Int32)) (f16 : (Nat → Int32)) (f17 : (Nat → Int32)) (f18 : (Nat → Int32)) (f19 : (Nat → Int32)) (l1 : Int32) (l2 : Int32) (l3 : Int32) (l4 : Int32) (l5 : Int32) (l6 : Int32) (l7 : Int32) (l8 : Int32) (x0_7 : Int32) (x2_3 : Int32) (x2_4 : Int32) (f3 : (Nat → Int32)) (f8 : (Nat → Int32)) (f9 : (Nat → Int32)) (f10 : (Nat → Int32)) (f11 : (Nat → Int32)) (f13 : (Nat → Int32)) : Option (Int32 × Int32 × Int32 × (Nat → Int32) × (Nat → Int32) × (Nat → Int32) × (Nat → Int32) × (Nat → Int32) × (Nat → Int32)) := ((S_Text_letterAt l3 x5_2 f15).bind fun u_9 => ((S_Costs_ofTaking u_9 f7).bind fun u_10 => (if (l4 - u_10) < 0 then (K 2 l1 l2 l3 l4 l5 l6 u_9 (l4 - u_10) x0_7 x2_3 x2_4 f3 f8 f9 f10 f11 f13) else (if (l1 : Int32) < 0 ∨ 6 ≤ (Int32.toNatClampNeg l1) then none else ((Kf (l1 + 1) l2 (l3 + 1) (l4 - u_10) l5 x0_5 x0_6 x0_7 x2_3 x2_4 (upd f3 (Int32.toNatClampNeg l1) 6) x5_2 f6 f7 f8 f9 f10 f11 f13 x14_3 f15 f16 f17 f18 f19).bind fun u_13 => (K 2 l1 l2 l3 l4 l5 l6 u_9 (l4 - u_10) u_13.1 u_13.2.1 u_13.2.2.1 u_13.2.2.2.1 u_13.2.2.2.2.1 u_13.2.2.2.2.2.1 u_13.2.2.2.2.2.2.1 u_13.2.2.2.2.2.2.2.1 u_13.2.2.2.2.2.2.2.2))))))
def B_Search_explore_2 (Kf : Int32 → Int32 → Int32 → Int32 → Int32 → Int32 → Int32 → Int32 → Int32 → Int32 → (Nat → Int32) → Int32 → (Nat → Int32) → (Nat → Int32) → (Nat → Int32) → (Nat → Int32) → (Nat → Int32) → (Nat → Int32) → (Nat → Int32) → Int32 → (Nat → Int32) → (Nat → Int32) → (Nat → Int32) → (Nat → Int32) → (Nat → Int32) → Option (Int32 × Int32 × Int32 × (Nat → Int32) × (Nat → Int32) × (Nat → Int32) × (Nat → Int32) × (Nat → Int32) × (Nat → Int32))) (K : Nat → Int32 → Int32 → Int32 → Int32 → Int32 → Int32 → Int32 → Int32 → Int32 → Int32 → Int32 → (Nat → Int32) → (Nat → Int32) → (Nat → Int32) → (Nat → Int32) → (Nat → Int32) → (Nat → Int32) → Option (Int32 × Int32 × Int32 × (Nat → Int32) × (Nat → Int32) × (Nat → Int32) × (Nat → Int32) × (Nat → Int32) × (Nat → Int32))) (x0_5 : Int32) (x0_6 : Int32) (x5_2 : Int32) (f6 : (Nat → Int32)) (f7 : (Nat → Int32)) (x14_3 : Int32) (f15 : (Nat → Int32)) (f16 : (Nat → Int32)) (f17 : (Nat → Int32)) (f18 : (Nat → Int32)) (f19 : (Nat → Int32)) (l1 : Int32) (l2 : Int32) (l3 : Int32) (l4 : Int32) (l5 : Int32) (l6 : Int32) (l7 : Int32) (l8 : Int32) (x0_7 : Int32) (x2_3 : Int32) (x2_4 : Int32) (f3 : (Nat → Int32)) (f8 : (Nat → Int32)) (f9 : (Nat → Int32)) (f10 : (Nat → Int32)) (f11 : (Nat → Int32)) (f13 : (Nat → Int32)) : Option (Int32 × Int32 × Int32 × (Nat → Int32) × (Nat → Int32) × (Nat → Int32) × (Nat → Int32) × (Nat → Int32) × (Nat → Int32)) := (if 3 ≤ l5 then (some (x0_7, x2_3, x2_4, f3, f8, f9, f10, f11, f13)) else ((S_Stacks_feed l2 (l2 + 1) l7 f11 f13 x14_3 f16 f17 f18 f19).bind fun u_15 => (if u_15.1 = 0 then (some (x0_7, x2_3, x2_4, f3, f8, f9, f10, u_15.2.1, u_15.2.2)) else (if (l1 : Int32) < 0 ∨ 6 ≤ (Int32.toNatClampNeg l1) then none else ((Kf (l1 + 1) (l2 + 1) (l3 + 1) l4 (l5 + 1) x0_5 x0_6 x0_7 x2_3 x2_4 (upd f3 (Int32.toNatClampNeg l1) 7) x5_2 f6 f7 f8 f9 f10 u_15.2.1 u_15.2.2 x14_3 f15 f16 f17 f18 f19).bind fun u_18 => (some (u_18.1, u_18.2.1, u_18.2.2.1, u_18.2.2.2.1, u_18.2.2.2.2.1, u_18.2.2.2.2.2.1, u_18.2.2.2.2.2.2.1, u_18.2.2.2.2.2.2.2.1, u_18.2.2.2.2.2.2.2.2)))))))
def F_Search_explore (Kf : Int32 → Int32 → Int32 → Int32 → Int32 → Int32 → Int32 → Int32 → Int32 → Int32 → (Nat → Int32) → Int32 → (Nat → Int32) → (Nat → Int32) → (Nat → Int32) → (Nat → Int32) → (Nat → Int32) → (Nat → Int32) → (Nat → Int32) → Int32 → (Nat → Int32) → (Nat → Int32) → (Nat → Int32) → (Nat → Int32) → (Nat → Int32) → Option (Int32 × Int32 × Int32 × (Nat → Int32) × (Nat → Int32) × (Nat → Int32) × (Nat → Int32) × (Nat → Int32) × (Nat → Int32))) (x0_5 : Int32) (x0_6 : Int32) (x5_2 : Int32) (f6 : (Nat → Int32)) (f7 : (Nat → Int32)) (x14_3 : Int32) (f15 : (Nat → Int32)) (f16 : (Nat → Int32)) (f17 : (Nat → Int32)) (f18 : (Nat → Int32)) (f19 : (Nat → Int32)) : Nat → Nat → Int32 → Int32 → Int32 → Int32 → Int32 → Int32 → Int32 → Int32 → Int32 → Int32 → Int32 → (Nat → Int32) → (Nat → Int32) → (Nat → Int32) → (Nat → Int32) → (Nat → Int32) → (Nat → Int32) → Option (Int32 × Int32 × Int32 × (Nat → Int32) × (Nat → Int32) × (Nat → Int32) × (Nat → Int32) × (Nat → Int32) × (Nat → Int32))
  | 0 => fun _ _ _ _ _ _ _ _ _ _ _ _ _ _ _ _ _ _ => none
  | n + 1 => fun hd l1 l2 l3 l4 l5 l6 l7 l8 x0_7 x2_3 x2_4 f3 f8 f9 f10 f11 f13 => match hd with
    | 0 => B_Search_explore_0 Kf (F_Search_explore Kf x0_5 x0_6 x5_2 f6 f7 x14_3 f15 f16 f17 f18 f19 n) x0_5 x0_6 x5_2 f6 f7 x14_3 f15 f16 f17 f18 f19 l1 l2 l3 l4 l5 l6 l7 l8 x0_7 x2_3 x2_4 f3 f8 f9 f10 f11 f13
    | 1 => B_Search_explore_1 Kf (F_Search_explore Kf x0_5 x0_6 x5_2 f6 f7 x14_3 f15 f16 f17 f18 f19 n) x0_5 x0_6 x5_2 f6 f7 x14_3 f15 f16 f17 f18 f19 l1 l2 l3 l4 l5 l6 l7 l8 x0_7 x2_3 x2_4 f3 f8 f9 f10 f11 f13
    | 2 => B_Search_explore_2 Kf (F_Search_explore Kf x0_5 x0_6 x5_2 f6 f7 x14_3 f15 f16 f17 f18 f19 n) x0_5 x0_6 x5_2 f6 f7 x14_3 f15 f16 f17 f18 f19 l1 l2 l3 l4 l5 l6 l7 l8 x0_7 x2_3 x2_4 f3 f8 f9 f10 f11 f13
    | _ => none
set_option maxHeartbeats 4000000 in
set_option maxRecDepth 100000 in
theorem L_Search_explore {p : Program} {l : Launch} {e : Env} {s : State} {m : MethodId} {args : Array Value} {below : List Frame} {meth : Method} {c : Code} {A : Nat → Prop} {dC : Nat → ClassId} {dI : Nat → Nat → Nat} {kA : Nat → ClassId} (hx : p.tables.exec = Jvm.exec) (hb : c.code = b_Search_explore) (hr : meth.sig.returnType = none) (hlocks : meth.locks = false) (hml : c.maxLocals = 9) (hown : s.vm.findClass R_Search = some m.cls) (hts : ∀ w ∈ w_Search_explore, w.before args s = true) (hA : ∀ q : Nat, s.heap.size ≤ q → A q) (hK : va_K (dC, dI) classes (tys_ kA) s) (a0 a1 a2 a3 a4 a5 a6 a7 a8 a9 a10 a11 a12 a13 a14 a15 a16 a17 a18 a19 : Nat) (v2_5 v5_1 v12_2 v12_3 v12_4 v12_5 v12_6 v14_0 v14_4 : Value) (x0_5 : Int32) (x0_6 : Int32) (x5_2 : Int32) (f6 : (Nat → Int32)) (f7 : (Nat → Int32)) (x14_3 : Int32) (f15 : (Nat → Int32)) (f16 : (Nat → Int32)) (f17 : (Nat → Int32)) (f18 : (Nat → Int32)) (f19 : (Nat → Int32)) (ox0_7 : Int32) (ox2_3 : Int32) (ox2_4 : Int32) (of3 : (Nat → Int32)) (of8 : (Nat → Int32)) (of9 : (Nat → Int32)) (of10 : (Nat → Int32)) (of11 : (Nat → Int32)) (of13 : (Nat → Int32)) (fr lo : Nat) (rf : Room) (Kf : Int32 → Int32 → Int32 → Int32 → Int32 → Int32 → Int32 → Int32 → Int32 → Int32 → (Nat → Int32) → Int32 → (Nat → Int32) → (Nat → Int32) → (Nat → Int32) → (Nat → Int32) → (Nat → Int32) → (Nat → Int32) → (Nat → Int32) → Int32 → (Nat → Int32) → (Nat → Int32) → (Nat → Int32) → (Nat → Int32) → (Nat → Int32) → Option (Int32 × Int32 × Int32 × (Nat → Int32) × (Nat → Int32) × (Nat → Int32) × (Nat → Int32) × (Nat → Int32) × (Nat → Int32))) (hfr : 3 ≤ fr) (hlo : 108 ≤ lo) (hR1 : rf.frames + 1 ≤ fr) (hR2 : 8 + (6 + 11) + rf.locals ≤ lo) (hrc : rf.cells = 0) (hrs : rf.slots = 0) (hKf : ∀ (sz : Nat) (a0 a1 a2 a3 a4 a5 a6 a7 a8 a9 a10 a11 a12 a13 a14 a15 a16 a17 a18 a19 : Nat) (v2_5 v5_1 v12_2 v12_3 v12_4 v12_5 v12_6 v14_0 v14_4 : Value) (p1 : Int32) (p2 : Int32) (p3 : Int32) (p4 : Int32) (p5 : Int32) (x0_5 : Int32) (x0_6 : Int32) (x0_7 : Int32) (x2_3 : Int32) (x2_4 : Int32) (f3 : (Nat → Int32)) (x5_2 : Int32) (f6 : (Nat → Int32)) (f7 : (Nat → Int32)) (f8 : (Nat → Int32)) (f9 : (Nat → Int32)) (f10 : (Nat → Int32)) (f11 : (Nat → Int32)) (f13 : (Nat → Int32)) (x14_3 : Int32) (f15 : (Nat → Int32)) (f16 : (Nat → Int32)) (f17 : (Nat → Int32)) (f18 : (Nat → Int32)) (f19 : (Nat → Int32)) (ox0_7 : Int32) (ox2_3 : Int32) (ox2_4 : Int32) (of3 : (Nat → Int32)) (of8 : (Nat → Int32)) (of9 : (Nat → Int32)) (of10 : (Nat → Int32)) (of11 : (Nat → Int32)) (of13 : (Nat → Int32)), Kf p1 p2 p3 p4 p5 x0_5 x0_6 x0_7 x2_3 x2_4 f3 x5_2 f6 f7 f8 f9 f10 f11 f13 x14_3 f15 f16 f17 f18 f19 = some (ox0_7, ox2_3, ox2_4, of3, of8, of9, of10, of11, of13) → Met l y_Search_follow w_Search_follow rf (va_Pc [.ref a0, .int p1, .int p2, .int p3, .int p4, .int p5] (fun U => U.heap.size = sz ∧ va_P (dC, dI) classes (wd_Search_follow kA a0 a1 a2 a3 a4 a5 a6 a7 a8 a9 a10 a11 a12 a13 a14 a15 a16 a17 a18 a19 v2_5 v5_1 v12_2 v12_3 v12_4 v12_5 v12_6 v14_0 v14_4 x0_5 x0_6 x0_7 x2_3 x2_4 f3 x5_2 f6 f7 f8 f9 f10 f11 f13 x14_3 f15 f16 f17 f18 f19) U.heap ∧ va_K (dC, dI) classes (tys_ kA) U ∧ va_D (fun _ => True) (wd_Search_follow kA a0 a1 a2 a3 a4 a5 a6 a7 a8 a9 a10 a11 a12 a13 a14 a15 a16 a17 a18 a19 v2_5 v5_1 v12_2 v12_3 v12_4 v12_5 v12_6 v14_0 v14_4 x0_5 x0_6 x0_7 x2_3 x2_4 f3 x5_2 f6 f7 f8 f9 f10 f11 f13 x14_3 f15 f16 f17 f18 f19))) (va_Qv (fun (_ : Unit) => True) (fun _ t => va_P (dC, dI) classes (wd_Search_follow kA a0 a1 a2 a3 a4 a5 a6 a7 a8 a9 a10 a11 a12 a13 a14 a15 a16 a17 a18 a19 v2_5 v5_1 v12_2 v12_3 v12_4 v12_5 v12_6 v14_0 v14_4 x0_5 x0_6 ox0_7 ox2_3 ox2_4 of3 x5_2 f6 f7 of8 of9 of10 of11 of13 x14_3 f15 f16 f17 f18 f19) t.heap ∧ va_K (dC, dI) classes (tys_ kA) t ∧ va_D (va_A (wd_Search_follow kA a0 a1 a2 a3 a4 a5 a6 a7 a8 a9 a10 a11 a12 a13 a14 a15 a16 a17 a18 a19 v2_5 v5_1 v12_2 v12_3 v12_4 v12_5 v12_6 v14_0 v14_4 x0_5 x0_6 x0_7 x2_3 x2_4 f3 x5_2 f6 f7 f8 f9 f10 f11 f13 x14_3 f15 f16 f17 f18 f19) sz) (wd_Search_follow kA a0 a1 a2 a3 a4 a5 a6 a7 a8 a9 a10 a11 a12 a13 a14 a15 a16 a17 a18 a19 v2_5 v5_1 v12_2 v12_3 v12_4 v12_5 v12_6 v14_0 v14_4 x0_5 x0_6 ox0_7 ox2_3 ox2_4 of3 x5_2 f6 f7 of8 of9 of10 of11 of13 x14_3 f15 f16 f17 f18 f19)) (va_A (wd_Search_follow kA a0 a1 a2 a3 a4 a5 a6 a7 a8 a9 a10 a11 a12 a13 a14 a15 a16 a17 a18 a19 v2_5 v5_1 v12_2 v12_3 v12_4 v12_5 v12_6 v14_0 v14_4 x0_5 x0_6 x0_7 x2_3 x2_4 f3 x5_2 f6 f7 f8 f9 f10 f11 f13 x14_3 f15 f16 f17 f18 f19) sz)) 0 0 (va_A (wd_Search_follow kA a0 a1 a2 a3 a4 a5 a6 a7 a8 a9 a10 a11 a12 a13 a14 a15 a16 a17 a18 a19 v2_5 v5_1 v12_2 v12_3 v12_4 v12_5 v12_6 v14_0 v14_4 x0_5 x0_6 x0_7 x2_3 x2_4 f3 x5_2 f6 f7 f8 f9 f10 f11 f13 x14_3 f15 f16 f17 f18 f19) sz)) : ∀ n : Nat, (∀ (l1 l2 l3 l4 l5 l6 l7 l8 : Int32) (x0_7 : Int32) (x2_3 : Int32) (x2_4 : Int32) (f3 : (Nat → Int32)) (f8 : (Nat → Int32)) (f9 : (Nat → Int32)) (f10 : (Nat → Int32)) (f11 : (Nat → Int32)) (f13 : (Nat → Int32)), F_Search_explore Kf x0_5 x0_6 x5_2 f6 f7 x14_3 f15 f16 f17 f18 f19 n 0 l1 l2 l3 l4 l5 l6 l7 l8 x0_7 x2_3 x2_4 f3 f8 f9 f10 f11 f13 = some (ox0_7, ox2_3, ox2_4, of3, of8, of9, of10, of11, of13) → ∀ (H : Heap) (locs : List Loc) (ls : Array Slot), va_P (dC, dI) classes (wd_Search_explore kA a0 a1 a2 a3 a4 a5 a6 a7 a8 a9 a10 a11 a12 a13 a14 a15 a16 a17 a18 a19 v2_5 v5_1 v12_2 v12_3 v12_4 v12_5 v12_6 v14_0 v14_4 x0_5 x0_6 x0_7 x2_3 x2_4 f3 x5_2 f6 f7 f8 f9 f10 f11 f13 x14_3 f15 f16 f17 f18 f19) H → va_D A (wd_Search_explore kA a0 a1 a2 a3 a4 a5 a6 a7 a8 a9 a10 a11 a12 a13 a14 a15 a16 a17 a18 a19 v2_5 v5_1 v12_2 v12_3 v12_4 v12_5 v12_6 v14_0 v14_4 x0_5 x0_6 x0_7 x2_3 x2_4 f3 x5_2 f6 f7 f8 f9 f10 f11 f13 x14_3 f15 f16 f17 f18 f19) → va_S A s.heap H locs → lv_has ls 9 [(0, .ref a0), (1, .int l1), (2, .int l2), (3, .int l3), (4, .int l4), (5, .int l5), (6, .int l6), (7, .int l7)] → W p l e (headSpec w_Search_explore ({ frames := fr, cells := 0, slots := 0, locals := lo } : Room)).room s m args below meth c H locs 0 0 (MQ below (va_Qv (fun (_ : Unit) => True) (fun _ t => va_P (dC, dI) classes (wd_Search_explore kA a0 a1 a2 a3 a4 a5 a6 a7 a8 a9 a10 a11 a12 a13 a14 a15 a16 a17 a18 a19 v2_5 v5_1 v12_2 v12_3 v12_4 v12_5 v12_6 v14_0 v14_4 x0_5 x0_6 ox0_7 ox2_3 ox2_4 of3 x5_2 f6 f7 of8 of9 of10 of11 of13 x14_3 f15 f16 f17 f18 f19) t.heap ∧ va_K (dC, dI) classes (tys_ kA) t ∧ va_D A (wd_Search_explore kA a0 a1 a2 a3 a4 a5 a6 a7 a8 a9 a10 a11 a12 a13 a14 a15 a16 a17 a18 a19 v2_5 v5_1 v12_2 v12_3 v12_4 v12_5 v12_6 v14_0 v14_4 x0_5 x0_6 ox0_7 ox2_3 ox2_4 of3 x5_2 f6 f7 of8 of9 of10 of11 of13 x14_3 f15 f16 f17 f18 f19)) A) args s 0 0 A) (F0 m 46 ls [])) ∧ (∀ (l1 l2 l3 l4 l5 l6 l7 l8 : Int32) (x0_7 : Int32) (x2_3 : Int32) (x2_4 : Int32) (f3 : (Nat → Int32)) (f8 : (Nat → Int32)) (f9 : (Nat → Int32)) (f10 : (Nat → Int32)) (f11 : (Nat → Int32)) (f13 : (Nat → Int32)), F_Search_explore Kf x0_5 x0_6 x5_2 f6 f7 x14_3 f15 f16 f17 f18 f19 n 1 l1 l2 l3 l4 l5 l6 l7 l8 x0_7 x2_3 x2_4 f3 f8 f9 f10 f11 f13 = some (ox0_7, ox2_3, ox2_4, of3, of8, of9, of10, of11, of13) → ∀ (H : Heap) (locs : List Loc) (ls : Array Slot), va_P (dC, dI) classes (wd_Search_explore kA a0 a1 a2 a3 a4 a5 a6 a7 a8 a9 a10 a11 a12 a13 a14 a15 a16 a17 a18 a19 v2_5 v5_1 v12_2 v12_3 v12_4 v12_5 v12_6 v14_0 v14_4 x0_5 x0_6 x0_7 x2_3 x2_4 f3 x5_2 f6 f7 f8 f9 f10 f11 f13 x14_3 f15 f16 f17 f18 f19) H → va_D A (wd_Search_explore kA a0 a1 a2 a3 a4 a5 a6 a7 a8 a9 a10 a11 a12 a13 a14 a15 a16 a17 a18 a19 v2_5 v5_1 v12_2 v12_3 v12_4 v12_5 v12_6 v14_0 v14_4 x0_5 x0_6 x0_7 x2_3 x2_4 f3 x5_2 f6 f7 f8 f9 f10 f11 f13 x14_3 f15 f16 f17 f18 f19) → va_S A s.heap H locs → lv_has ls 9 [(0, .ref a0), (1, .int l1), (2, .int l2), (3, .int l3), (4, .int l4), (5, .int l5), (6, .int l6), (7, .int l7)] → W p l e (headSpec w_Search_explore ({ frames := fr, cells := 0, slots := 0, locals := lo } : Room)).room s m args below meth c H locs 0 0 (MQ below (va_Qv (fun (_ : Unit) => True) (fun _ t => va_P (dC, dI) classes (wd_Search_explore kA a0 a1 a2 a3 a4 a5 a6 a7 a8 a9 a10 a11 a12 a13 a14 a15 a16 a17 a18 a19 v2_5 v5_1 v12_2 v12_3 v12_4 v12_5 v12_6 v14_0 v14_4 x0_5 x0_6 ox0_7 ox2_3 ox2_4 of3 x5_2 f6 f7 of8 of9 of10 of11 of13 x14_3 f15 f16 f17 f18 f19) t.heap ∧ va_K (dC, dI) classes (tys_ kA) t ∧ va_D A (wd_Search_explore kA a0 a1 a2 a3 a4 a5 a6 a7 a8 a9 a10 a11 a12 a13 a14 a15 a16 a17 a18 a19 v2_5 v5_1 v12_2 v12_3 v12_4 v12_5 v12_6 v14_0 v14_4 x0_5 x0_6 ox0_7 ox2_3 ox2_4 of3 x5_2 f6 f7 of8 of9 of10 of11 of13 x14_3 f15 f16 f17 f18 f19)) A) args s 0 0 A) (F0 m 122 ls [])) ∧ (∀ (l1 l2 l3 l4 l5 l6 l7 l8 : Int32) (x0_7 : Int32) (x2_3 : Int32) (x2_4 : Int32) (f3 : (Nat → Int32)) (f8 : (Nat → Int32)) (f9 : (Nat → Int32)) (f10 : (Nat → Int32)) (f11 : (Nat → Int32)) (f13 : (Nat → Int32)), F_Search_explore Kf x0_5 x0_6 x5_2 f6 f7 x14_3 f15 f16 f17 f18 f19 n 2 l1 l2 l3 l4 l5 l6 l7 l8 x0_7 x2_3 x2_4 f3 f8 f9 f10 f11 f13 = some (ox0_7, ox2_3, ox2_4, of3, of8, of9, of10, of11, of13) → ∀ (H : Heap) (locs : List Loc) (ls : Array Slot), va_P (dC, dI) classes (wd_Search_explore kA a0 a1 a2 a3 a4 a5 a6 a7 a8 a9 a10 a11 a12 a13 a14 a15 a16 a17 a18 a19 v2_5 v5_1 v12_2 v12_3 v12_4 v12_5 v12_6 v14_0 v14_4 x0_5 x0_6 x0_7 x2_3 x2_4 f3 x5_2 f6 f7 f8 f9 f10 f11 f13 x14_3 f15 f16 f17 f18 f19) H → va_D A (wd_Search_explore kA a0 a1 a2 a3 a4 a5 a6 a7 a8 a9 a10 a11 a12 a13 a14 a15 a16 a17 a18 a19 v2_5 v5_1 v12_2 v12_3 v12_4 v12_5 v12_6 v14_0 v14_4 x0_5 x0_6 x0_7 x2_3 x2_4 f3 x5_2 f6 f7 f8 f9 f10 f11 f13 x14_3 f15 f16 f17 f18 f19) → va_S A s.heap H locs → lv_has ls 9 [(0, .ref a0), (1, .int l1), (2, .int l2), (3, .int l3), (4, .int l4), (5, .int l5), (6, .int l6), (7, .int l7), (8, .int l8)] → W p l e (headSpec w_Search_explore ({ frames := fr, cells := 0, slots := 0, locals := lo } : Room)).room s m args below meth c H locs 0 0 (MQ below (va_Qv (fun (_ : Unit) => True) (fun _ t => va_P (dC, dI) classes (wd_Search_explore kA a0 a1 a2 a3 a4 a5 a6 a7 a8 a9 a10 a11 a12 a13 a14 a15 a16 a17 a18 a19 v2_5 v5_1 v12_2 v12_3 v12_4 v12_5 v12_6 v14_0 v14_4 x0_5 x0_6 ox0_7 ox2_3 ox2_4 of3 x5_2 f6 f7 of8 of9 of10 of11 of13 x14_3 f15 f16 f17 f18 f19) t.heap ∧ va_K (dC, dI) classes (tys_ kA) t ∧ va_D A (wd_Search_explore kA a0 a1 a2 a3 a4 a5 a6 a7 a8 a9 a10 a11 a12 a13 a14 a15 a16 a17 a18 a19 v2_5 v5_1 v12_2 v12_3 v12_4 v12_5 v12_6 v14_0 v14_4 x0_5 x0_6 ox0_7 ox2_3 ox2_4 of3 x5_2 f6 f7 of8 of9 of10 of11 of13 x14_3 f15 f16 f17 f18 f19)) A) args s 0 0 A) (F0 m 174 ls [])) := by
  have hg := fun (w : Cond) (h : w ∈ gw) => hts w (List.mem_cons_of_mem _ h)
  intro n
  induction n with
  | zero =>
    exact ⟨fun _ _ _ _ _ _ _ _ _ _ _ _ _ _ _ _ _ hF => absurd (show (none : Option _) = some _ from hF) (fun z => by cases z), fun _ _ _ _ _ _ _ _ _ _ _ _ _ _ _ _ _ hF => absurd (show (none : Option _) = some _ from hF) (fun z => by cases z), fun _ _ _ _ _ _ _ _ _ _ _ _ _ _ _ _ _ hF => absurd (show (none : Option _) = some _ from hF) (fun z => by cases z)⟩
  | succ n ih =>
    refine ⟨?_, ?_, ?_⟩
    · intro l1 l2 l3 l4 l5 l6 l7 l8 x0_7 x2_3 x2_4 f3 f8 f9 f10 f11 f13 hF H locs ls hP hD hS hl
      have hF : B_Search_explore_0 Kf (F_Search_explore Kf x0_5 x0_6 x5_2 f6 f7 x14_3 f15 f16 f17 f18 f19 n) x0_5 x0_6 x5_2 f6 f7 x14_3 f15 f16 f17 f18 f19 l1 l2 l3 l4 l5 l6 l7 l8 x0_7 x2_3 x2_4 f3 f8 f9 f10 f11 f13 = some (ox0_7, ox2_3, ox2_4, of3, of8, of9, of10, of11, of13) := hF
      unfold B_Search_explore_0 at hF
      refine lv_iload hx hb d_Search_explore_46 (lv_at hl 7 rfl) ?_
      refine lv_bipush (v := 6) hx hb d_Search_explore_48 (by decide) ?_
      refine lv_icmp_ge (tgt := 122) hx hb d_Search_explore_50 (by decide) (fun c_1 => ?_) (fun c_1 => ?_)
      · rw [if_pos c_1] at hF
        exact ih.2.1 l1 l2 l3 l4 l5 l6 l7 0 x0_7 x2_3 x2_4 f3 f8 f9 f10 f11 f13 hF _ _ _ hP hD hS (lv_sub hl [0, 1, 2, 3, 4, 5, 6, 7] rfl)
      · rw [if_neg c_1] at hF
        refine lv_iload hx hb d_Search_explore_53 (lv_at hl 6 rfl) ?_
        refine lv_if_ne (tgt := 122) hx hb d_Search_explore_55 (by decide) (fun c_2 => ?_) (fun c_2 => ?_)
        · rw [if_pos c_2] at hF
          exact ih.2.1 l1 l2 l3 l4 l5 l6 l7 0 x0_7 x2_3 x2_4 f3 f8 f9 f10 f11 f13 hF _ _ _ hP hD hS (lv_sub hl [0, 1, 2, 3, 4, 5, 6, 7] rfl)
        · rw [if_neg (fun z => z c_2)] at hF
          refine lv_iload hx hb d_Search_explore_58 (lv_at hl 4 rfl) ?_
          refine lv_aload_n hx hb d_Search_explore_60 rfl (lv_at hl 0 rfl) ?_
          refine va_get (D := (dC, dI)) (ci := 4) (v := .ref a1) (C := R_Search) (T := F_Search) (N := 8) hx hb hg iw_Search hown hK hP 0 rfl rfl 2 (by decide) (hg _ gw_161) (fun _ h9 => h9) rfl d_Search_explore_61 ?_
          refine lv_iload hx hb d_Search_explore_64 (lv_at hl 7 rfl) ?_
          obtain ⟨u_3, hS_3, hF⟩ := rd_bind hF
          have hPc := hP.sub (ws' := (wd_Costs_ofPutting kA a1 a6 (.ref a7) f6)) [1, 6] rfl
          have hDc := hD.sub (ws' := (wd_Costs_ofPutting kA a1 a6 (.ref a7) f6)) [1, 6] (by decide) rfl
          have hFc := va_free (wc := (wd_Costs_ofPutting kA a1 a6 (.ref a7) f6)) hD hS hA [1, 6] rfl
          refine va_calli (va_runV (As := [.int l7]) (rest := [.int l4]) ⟨hx, hb, hml, hown, hts⟩ (c_Costs_ofPutting l dC dI kA H.size a1 a6 (.ref a7) l7 f6 u_3 hS_3) (cwV 1 hts (gw_V gw_162 gw_163 gw_164 gw_165 gw_166) rfl rfl rfl (by decide +kernel) ⟨Nat.le_trans (m := 3) (Nat.le_of_ble_eq_true rfl) hfr, Nat.le_trans (m := 108) (Nat.le_of_ble_eq_true rfl) hlo⟩) ⟨fun a U g mk q => by obtain ⟨q0, q1, qP, qK, qD⟩ := q; exact ⟨q0, q1, qP, va_K.moved (u := U) (U := U.calling g mk a) (Vm.Alike.refl U.vm) qK, qD⟩, va_recv hK hP (ci := 0) (q0 := 1) rfl rfl, fun U hU hW => ⟨rfl, by rw [hU], by rw [hU]; exact hPc, va_K.moved hW.alike hK, hDc.weaken (fun _ _ _ _ => trivial)⟩⟩ rfl rfl hl.1 rfl (lv_room (Nat.le_of_ble_eq_true rfl)) d_Search_explore_66 ⟨Nat.zero_le _, Nat.zero_le _⟩) hS (fun q _ h => hFc q h) hFc (fun r1 u t H1 locs ht hvm hw hB hz1 hk1 hS => ?_)
          rw [show r1 = _ from hw]
          obtain ⟨hP1, hK1, hD1⟩ := hB
          rw [ht] at hP1
          obtain ⟨hP, hD⟩ := va_join (wr := [(a0, .inr (4, [.ref a4, .ref a5, .ref a1, .ref a2, .ref a3, .int x0_5, .int x0_6, .int x0_7])), (a2, .inr (1, [.ref a10, .ref a8, .ref a9, .int x2_3, .int x2_4, v2_5])), (a3, .inl (kA 0, 6, .inl f3)), (a4, .inr (5, [.ref a12, .ref a14, .ref a11, .ref a13])), (a5, .inr (7, [.ref a15, v5_1, .int x5_2])), (a7, .inl (kA 0, 6, .inl f7)), (a8, .inl (kA 0, 40, .inl f8)), (a9, .inl (kA 0, 40, .inl f9)), (a10, .inl (kA 0, 240, .inl f10)), (a11, .inl (kA 0, 4096, .inl f11)), (a12, .inr (2, [.ref a16, .ref a17, v12_2, v12_3, v12_4, v12_5, v12_6])), (a13, .inl (kA 0, 8, .inl f13)), (a14, .inr (6, [v14_0, .ref a19, .ref a18, .int x14_3, v14_4])), (a15, .inl (kA 0, 16, .inl f15)), (a16, .inl (kA 0, 12, .inl f16)), (a17, .inl (kA 0, 12, .inl f17)), (a18, .inl (kA 0, 280, .inl f18)), (a19, .inl (kA 0, 480, .inl f19))]) (w1 := (wd_Costs_ofPutting kA a1 a6 (.ref a7) f6)) hP hD [1, 6] [0, 2, 3, 4, 5, 7, 8, 9, 10, 11, 12, 13, 14, 15, 16, 17, 18, 19] rfl rfl (by decide) (by decide) hk1 hFc hP1 hD1
          have hP := hP.sub (ws' := (wd_Search_explore kA a0 a1 a2 a3 a4 a5 a6 a7 a8 a9 a10 a11 a12 a13 a14 a15 a16 a17 a18 a19 v2_5 v5_1 v12_2 v12_3 v12_4 v12_5 v12_6 v14_0 v14_4 x0_5 x0_6 x0_7 x2_3 x2_4 f3 x5_2 f6 f7 f8 f9 f10 f11 f13 x14_3 f15 f16 f17 f18 f19)) [0, 18, 1, 2, 3, 4, 19, 5, 6, 7, 8, 9, 10, 11, 12, 13, 14, 15, 16, 17] rfl
          have hD := hD.sub (ws' := (wd_Search_explore kA a0 a1 a2 a3 a4 a5 a6 a7 a8 a9 a10 a11 a12 a13 a14 a15 a16 a17 a18 a19 v2_5 v5_1 v12_2 v12_3 v12_4 v12_5 v12_6 v14_0 v14_4 x0_5 x0_6 x0_7 x2_3 x2_4 f3 x5_2 f6 f7 f8 f9 f10 f11 f13 x14_3 f15 f16 f17 f18 f19)) [0, 18, 1, 2, 3, 4, 19, 5, 6, 7, 8, 9, 10, 11, 12, 13, 14, 15, 16, 17] (by decide) rfl
          clear hPc hDc hFc hP1 hK1 hD1
          generalize H1 = H at hP hS ⊢
          refine lv_isub hx hb d_Search_explore_69 ?_
          refine lv_istore (lv' := [(8, .int (l4 - u_3)), (0, .ref a0), (1, .int l1), (2, .int l2), (3, .int l3), (4, .int l4), (5, .int l5), (6, .int l6), (7, .int l7)]) hx hb d_Search_explore_70 hl (by decide) rfl (fun ls hl => ?_)
          refine lv_iload hx hb d_Search_explore_72 (lv_at hl 0 rfl) ?_
          refine lv_if_lt (tgt := 116) hx hb d_Search_explore_74 (by decide) (fun c_4 => ?_) (fun c_4 => ?_)
          · rw [if_pos c_4] at hF
            refine lv_iinc (v := (l7 + 1)) (lv' := [(7, .int (l7 + 1)), (8, .int (l4 - u_3)), (0, .ref a0), (1, .int l1), (2, .int l2), (3, .int l3), (4, .int l4), (5, .int l5), (6, .int l6)]) hx hb d_Search_explore_116 hl (k := 8) rfl (by rfl) (by decide) rfl (fun ls hl => ?_)
            refine lv_goto (tgt := 46) hx hb d_Search_explore_119 (by decide) ?_
            exact ih.1 l1 l2 l3 l4 l5 l6 (l7 + 1) 0 x0_7 x2_3 x2_4 f3 f8 f9 f10 f11 f13 hF _ _ _ hP hD hS (lv_sub hl [2, 3, 4, 5, 6, 7, 8, 0] rfl)
          · rw [if_neg c_4] at hF
            refine lv_aload_n hx hb d_Search_explore_77 rfl (lv_at hl 1 rfl) ?_
            refine va_get (D := (dC, dI)) (ci := 4) (v := .ref a4) (C := R_Search) (T := F_Search) (N := 8) hx hb hg iw_Search hown hK hP 0 rfl rfl 0 (by decide) (hg _ gw_139) (fun _ h9 => h9) rfl d_Search_explore_78 ?_
            refine lv_iload_n hx hb d_Search_explore_81 rfl (lv_at hl 3 rfl) ?_
            refine lv_iload_n hx hb d_Search_explore_82 rfl (lv_at hl 3 rfl) ?_
            refine lv_iconst (v := 1) hx hb d_Search_explore_83 (by decide) ?_
            refine lv_iadd hx hb d_Search_explore_84 ?_
            refine lv_iload hx hb d_Search_explore_85 (lv_at hl 8 rfl) ?_
            obtain ⟨u_5, hS_5, hF⟩ := rd_bind hF
            have hPc := hP.sub (ws' := (wd_Stacks_feed kA a4 a11 a12 a13 a14 a16 a17 a18 a19 v12_2 v12_3 v12_4 v12_5 v12_6 v14_0 v14_4 f11 f13 x14_3 f16 f17 f18 f19)) [4, 11, 12, 13, 14, 16, 17, 18, 19] rfl
            have hDc := hD.sub (ws' := (wd_Stacks_feed kA a4 a11 a12 a13 a14 a16 a17 a18 a19 v12_2 v12_3 v12_4 v12_5 v12_6 v14_0 v14_4 f11 f13 x14_3 f16 f17 f18 f19)) [4, 11, 12, 13, 14, 16, 17, 18, 19] (by decide) rfl
            have hFc := va_free (wc := (wd_Stacks_feed kA a4 a11 a12 a13 a14 a16 a17 a18 a19 v12_2 v12_3 v12_4 v12_5 v12_6 v14_0 v14_4 f11 f13 x14_3 f16 f17 f18 f19)) hD hS hA [4, 11, 12, 13, 14, 16, 17, 18, 19] rfl
            refine va_calli (va_runV (As := [.int l2, .int (l2 + 1), .int l7]) (rest := []) ⟨hx, hb, hml, hown, hts⟩ (c_Stacks_feed l dC dI kA H.size a4 a11 a12 a13 a14 a16 a17 a18 a19 v12_2 v12_3 v12_4 v12_5 v12_6 v14_0 v14_4 l2 (l2 + 1) l7 f11 f13 x14_3 f16 f17 f18 f19 u_5.1 u_5.2.1 u_5.2.2 hS_5) (cwV 3 hts (gw_V gw_141 gw_134 gw_135 gw_85 gw_136) rfl rfl rfl (by decide +kernel) ⟨Nat.le_trans (m := 3) (Nat.le_of_ble_eq_true rfl) hfr, Nat.le_trans (m := 108) (Nat.le_of_ble_eq_true rfl) hlo⟩) ⟨fun a U g mk q => by obtain ⟨q0, q1, qP, qK, qD⟩ := q; exact ⟨q0, q1, qP, va_K.moved (u := U) (U := U.calling g mk a) (Vm.Alike.refl U.vm) qK, qD⟩, va_recv hK hP (ci := 5) (q0 := 4) rfl rfl, fun U hU hW => ⟨rfl, by rw [hU], by rw [hU]; exact hPc, va_K.moved hW.alike hK, hDc.weaken (fun _ _ _ _ => trivial)⟩⟩ rfl rfl hl.1 rfl (lv_room (Nat.le_of_ble_eq_true rfl)) d_Search_explore_87 ⟨Nat.zero_le _, Nat.zero_le _⟩) hS (fun q _ h => hFc q h) hFc (fun r1 u t H1 locs ht hvm hw hB hz1 hk1 hS => ?_)
            rw [show r1 = _ from hw]
            obtain ⟨hP1, hK1, hD1⟩ := hB
            rw [ht] at hP1
            obtain ⟨hP, hD⟩ := va_join (wr := [(a0, .inr (4, [.ref a4, .ref a5, .ref a1, .ref a2, .ref a3, .int x0_5, .int x0_6, .int x0_7])), (a1, .inr (0, [.ref a6, .ref a7])), (a2, .inr (1, [.ref a10, .ref a8, .ref a9, .int x2_3, .int x2_4, v2_5])), (a3, .inl (kA 0, 6, .inl f3)), (a5, .inr (7, [.ref a15, v5_1, .int x5_2])), (a6, .inl (kA 0, 6, .inl f6)), (a7, .inl (kA 0, 6, .inl f7)), (a8, .inl (kA 0, 40, .inl f8)), (a9, .inl (kA 0, 40, .inl f9)), (a10, .inl (kA 0, 240, .inl f10)), (a15, .inl (kA 0, 16, .inl f15))]) (w1 := (wd_Stacks_feed kA a4 a11 a12 a13 a14 a16 a17 a18 a19 v12_2 v12_3 v12_4 v12_5 v12_6 v14_0 v14_4 u_5.2.1 u_5.2.2 x14_3 f16 f17 f18 f19)) hP hD [4, 11, 12, 13, 14, 16, 17, 18, 19] [0, 1, 2, 3, 5, 6, 7, 8, 9, 10, 15] rfl rfl (by decide) (by decide) hk1 hFc hP1 hD1
            have hP := hP.sub (ws' := (wd_Search_explore kA a0 a1 a2 a3 a4 a5 a6 a7 a8 a9 a10 a11 a12 a13 a14 a15 a16 a17 a18 a19 v2_5 v5_1 v12_2 v12_3 v12_4 v12_5 v12_6 v14_0 v14_4 x0_5 x0_6 x0_7 x2_3 x2_4 f3 x5_2 f6 f7 f8 f9 f10 u_5.2.1 u_5.2.2 x14_3 f15 f16 f17 f18 f19)) [0, 1, 2, 3, 11, 4, 5, 6, 7, 8, 9, 12, 13, 14, 15, 10, 16, 17, 18, 19] rfl
            have hD := hD.sub (ws' := (wd_Search_explore kA a0 a1 a2 a3 a4 a5 a6 a7 a8 a9 a10 a11 a12 a13 a14 a15 a16 a17 a18 a19 v2_5 v5_1 v12_2 v12_3 v12_4 v12_5 v12_6 v14_0 v14_4 x0_5 x0_6 x0_7 x2_3 x2_4 f3 x5_2 f6 f7 f8 f9 f10 u_5.2.1 u_5.2.2 x14_3 f15 f16 f17 f18 f19)) [0, 1, 2, 3, 11, 4, 5, 6, 7, 8, 9, 12, 13, 14, 15, 10, 16, 17, 18, 19] (by decide) rfl
            clear hPc hDc hFc hP1 hK1 hD1
            generalize H1 = H at hP hS ⊢
            refine lv_if_eq (tgt := 116) hx hb d_Search_explore_90 (by decide) (fun c_6 => ?_) (fun c_6 => ?_)
            · rw [if_pos c_6] at hF
              refine lv_iinc (v := (l7 + 1)) (lv' := [(7, .int (l7 + 1)), (8, .int (l4 - u_3)), (0, .ref a0), (1, .int l1), (2, .int l2), (3, .int l3), (4, .int l4), (5, .int l5), (6, .int l6)]) hx hb d_Search_explore_116 hl (k := 8) rfl (by rfl) (by decide) rfl (fun ls hl => ?_)
              refine lv_goto (tgt := 46) hx hb d_Search_explore_119 (by decide) ?_
              exact ih.1 l1 l2 l3 l4 l5 l6 (l7 + 1) 0 x0_7 x2_3 x2_4 f3 f8 f9 f10 u_5.2.1 u_5.2.2 hF _ _ _ hP hD hS (lv_sub hl [2, 3, 4, 5, 6, 7, 8, 0] rfl)
            · rw [if_neg c_6] at hF
              refine lv_aload_n hx hb d_Search_explore_93 rfl (lv_at hl 1 rfl) ?_
              refine va_get (D := (dC, dI)) (ci := 4) (v := .ref a3) (C := R_Search) (T := F_Search) (N := 8) hx hb hg iw_Search hown hK hP 0 rfl rfl 4 (by decide) (hg _ gw_145) (fun _ h9 => h9) rfl d_Search_explore_94 ?_
              refine lv_iload_n hx hb d_Search_explore_97 rfl (lv_at hl 2 rfl) ?_
              refine lv_iload hx hb d_Search_explore_98 (lv_at hl 8 rfl) ?_
              obtain ⟨h_7, hF⟩ := rd_chk hF
              refine va_iast hx hb hK hP hD hS 3 0 rfl rfl h_7 d_Search_explore_100 (fun H locs hP hD hS => ?_)
              have hP : va_P (dC, dI) classes (wd_Search_explore kA a0 a1 a2 a3 a4 a5 a6 a7 a8 a9 a10 a11 a12 a13 a14 a15 a16 a17 a18 a19 v2_5 v5_1 v12_2 v12_3 v12_4 v12_5 v12_6 v14_0 v14_4 x0_5 x0_6 x0_7 x2_3 x2_4 (upd f3 (Int32.toNatClampNeg l1) l7) x5_2 f6 f7 f8 f9 f10 u_5.2.1 u_5.2.2 x14_3 f15 f16 f17 f18 f19) H := hP
              have hD : va_D A (wd_Search_explore kA a0 a1 a2 a3 a4 a5 a6 a7 a8 a9 a10 a11 a12 a13 a14 a15 a16 a17 a18 a19 v2_5 v5_1 v12_2 v12_3 v12_4 v12_5 v12_6 v14_0 v14_4 x0_5 x0_6 x0_7 x2_3 x2_4 (upd f3 (Int32.toNatClampNeg l1) l7) x5_2 f6 f7 f8 f9 f10 u_5.2.1 u_5.2.2 x14_3 f15 f16 f17 f18 f19) := hD
              refine lv_aload_n hx hb d_Search_explore_101 rfl (lv_at hl 1 rfl) ?_
              refine lv_iload_n hx hb d_Search_explore_102 rfl (lv_at hl 2 rfl) ?_
              refine lv_iconst (v := 1) hx hb d_Search_explore_103 (by decide) ?_
              refine lv_iadd hx hb d_Search_explore_104 ?_
              refine lv_iload_n hx hb d_Search_explore_105 rfl (lv_at hl 3 rfl) ?_
              refine lv_iconst (v := 1) hx hb d_Search_explore_106 (by decide) ?_
              refine lv_iadd hx hb d_Search_explore_107 ?_
              refine lv_iload_n hx hb d_Search_explore_108 rfl (lv_at hl 4 rfl) ?_
              refine lv_iload hx hb d_Search_explore_109 (lv_at hl 0 rfl) ?_
              refine lv_iload hx hb d_Search_explore_111 (lv_at hl 6 rfl) ?_
              obtain ⟨u_8, hS_8, hF⟩ := rd_bind hF
              have hPc := hP.sub (ws' := (wd_Search_follow kA a0 a1 a2 a3 a4 a5 a6 a7 a8 a9 a10 a11 a12 a13 a14 a15 a16 a17 a18 a19 v2_5 v5_1 v12_2 v12_3 v12_4 v12_5 v12_6 v14_0 v14_4 x0_5 x0_6 x0_7 x2_3 x2_4 (upd f3 (Int32.toNatClampNeg l1) l7) x5_2 f6 f7 f8 f9 f10 u_5.2.1 u_5.2.2 x14_3 f15 f16 f17 f18 f19)) [0, 1, 2, 3, 4, 5, 6, 7, 8, 9, 10, 11, 12, 13, 14, 15, 16, 17, 18, 19] rfl
              have hDc := hD.sub (ws' := (wd_Search_follow kA a0 a1 a2 a3 a4 a5 a6 a7 a8 a9 a10 a11 a12 a13 a14 a15 a16 a17 a18 a19 v2_5 v5_1 v12_2 v12_3 v12_4 v12_5 v12_6 v14_0 v14_4 x0_5 x0_6 x0_7 x2_3 x2_4 (upd f3 (Int32.toNatClampNeg l1) l7) x5_2 f6 f7 f8 f9 f10 u_5.2.1 u_5.2.2 x14_3 f15 f16 f17 f18 f19)) [0, 1, 2, 3, 4, 5, 6, 7, 8, 9, 10, 11, 12, 13, 14, 15, 16, 17, 18, 19] (by decide) rfl
              have hFc := va_free (wc := (wd_Search_follow kA a0 a1 a2 a3 a4 a5 a6 a7 a8 a9 a10 a11 a12 a13 a14 a15 a16 a17 a18 a19 v2_5 v5_1 v12_2 v12_3 v12_4 v12_5 v12_6 v14_0 v14_4 x0_5 x0_6 x0_7 x2_3 x2_4 (upd f3 (Int32.toNatClampNeg l1) l7) x5_2 f6 f7 f8 f9 f10 u_5.2.1 u_5.2.2 x14_3 f15 f16 f17 f18 f19)) hD hS hA [0, 1, 2, 3, 4, 5, 6, 7, 8, 9, 10, 11, 12, 13, 14, 15, 16, 17, 18, 19] rfl
              refine va_callv (va_runV (As := [.int (l1 + 1), .int (l2 + 1), .int l3, .int (l4 - u_3), .int l5]) (rest := []) ⟨hx, hb, hml, hown, hts⟩ (hKf H.size a0 a1 a2 a3 a4 a5 a6 a7 a8 a9 a10 a11 a12 a13 a14 a15 a16 a17 a18 a19 v2_5 v5_1 v12_2 v12_3 v12_4 v12_5 v12_6 v14_0 v14_4 (l1 + 1) (l2 + 1) l3 (l4 - u_3) l5 x0_5 x0_6 x0_7 x2_3 x2_4 (upd f3 (Int32.toNatClampNeg l1) l7) x5_2 f6 f7 f8 f9 f10 u_5.2.1 u_5.2.2 x14_3 f15 f16 f17 f18 f19 u_8.1 u_8.2.1 u_8.2.2.1 u_8.2.2.2.1 u_8.2.2.2.2.1 u_8.2.2.2.2.2.1 u_8.2.2.2.2.2.2.1 u_8.2.2.2.2.2.2.2.1 u_8.2.2.2.2.2.2.2.2 hS_8) (cwV 5 hts (gw_V gw_167 gw_168 gw_169 gw_155 gw_170) rfl hrc hrs (by decide +kernel) ⟨hR1, hR2⟩) ⟨fun a U g mk q => by obtain ⟨q0, q1, qP, qK, qD⟩ := q; exact ⟨q0, q1, qP, va_K.moved (u := U) (U := U.calling g mk a) (Vm.Alike.refl U.vm) qK, qD⟩, va_recv hK hP (ci := 4) (q0 := 0) rfl rfl, fun U hU hW => ⟨rfl, by rw [hU], by rw [hU]; exact hPc, va_K.moved hW.alike hK, hDc.weaken (fun _ _ _ _ => trivial)⟩⟩ rfl rfl hl.1 rfl (lv_room (Nat.le_of_ble_eq_true rfl)) d_Search_explore_113 ⟨Nat.zero_le _, Nat.zero_le _⟩) hS (fun q _ h => hFc q h) hFc (fun u t H1 locs ht hvm hw hB hz1 hk1 hS => ?_)
              obtain ⟨hP1, hK1, hD1⟩ := hB
              rw [ht] at hP1
              obtain ⟨hP, hD⟩ := va_join (wr := []) (w1 := (wd_Search_follow kA a0 a1 a2 a3 a4 a5 a6 a7 a8 a9 a10 a11 a12 a13 a14 a15 a16 a17 a18 a19 v2_5 v5_1 v12_2 v12_3 v12_4 v12_5 v12_6 v14_0 v14_4 x0_5 x0_6 u_8.1 u_8.2.1 u_8.2.2.1 u_8.2.2.2.1 x5_2 f6 f7 u_8.2.2.2.2.1 u_8.2.2.2.2.2.1 u_8.2.2.2.2.2.2.1 u_8.2.2.2.2.2.2.2.1 u_8.2.2.2.2.2.2.2.2 x14_3 f15 f16 f17 f18 f19)) hP hD [0, 1, 2, 3, 4, 5, 6, 7, 8, 9, 10, 11, 12, 13, 14, 15, 16, 17, 18, 19] [] rfl rfl (by decide) (by decide) hk1 hFc hP1 hD1
              have hP := hP.sub (ws' := (wd_Search_explore kA a0 a1 a2 a3 a4 a5 a6 a7 a8 a9 a10 a11 a12 a13 a14 a15 a16 a17 a18 a19 v2_5 v5_1 v12_2 v12_3 v12_4 v12_5 v12_6 v14_0 v14_4 x0_5 x0_6 u_8.1 u_8.2.1 u_8.2.2.1 u_8.2.2.2.1 x5_2 f6 f7 u_8.2.2.2.2.1 u_8.2.2.2.2.2.1 u_8.2.2.2.2.2.2.1 u_8.2.2.2.2.2.2.2.1 u_8.2.2.2.2.2.2.2.2 x14_3 f15 f16 f17 f18 f19)) [0, 1, 2, 3, 4, 5, 6, 7, 8, 9, 10, 11, 12, 13, 14, 15, 16, 17, 18, 19] rfl
              have hD := hD.sub (ws' := (wd_Search_explore kA a0 a1 a2 a3 a4 a5 a6 a7 a8 a9 a10 a11 a12 a13 a14 a15 a16 a17 a18 a19 v2_5 v5_1 v12_2 v12_3 v12_4 v12_5 v12_6 v14_0 v14_4 x0_5 x0_6 u_8.1 u_8.2.1 u_8.2.2.1 u_8.2.2.2.1 x5_2 f6 f7 u_8.2.2.2.2.1 u_8.2.2.2.2.2.1 u_8.2.2.2.2.2.2.1 u_8.2.2.2.2.2.2.2.1 u_8.2.2.2.2.2.2.2.2 x14_3 f15 f16 f17 f18 f19)) [0, 1, 2, 3, 4, 5, 6, 7, 8, 9, 10, 11, 12, 13, 14, 15, 16, 17, 18, 19] (by decide) rfl
              clear hPc hDc hFc hP1 hK1 hD1
              generalize H1 = H at hP hS ⊢
              refine lv_iinc (v := (l7 + 1)) (lv' := [(7, .int (l7 + 1)), (8, .int (l4 - u_3)), (0, .ref a0), (1, .int l1), (2, .int l2), (3, .int l3), (4, .int l4), (5, .int l5), (6, .int l6)]) hx hb d_Search_explore_116 hl (k := 8) rfl (by rfl) (by decide) rfl (fun ls hl => ?_)
              refine lv_goto (tgt := 46) hx hb d_Search_explore_119 (by decide) ?_
              exact ih.1 l1 l2 l3 l4 l5 l6 (l7 + 1) 0 u_8.1 u_8.2.1 u_8.2.2.1 u_8.2.2.2.1 u_8.2.2.2.2.1 u_8.2.2.2.2.2.1 u_8.2.2.2.2.2.2.1 u_8.2.2.2.2.2.2.2.1 u_8.2.2.2.2.2.2.2.2 hF _ _ _ hP hD hS (lv_sub hl [2, 3, 4, 5, 6, 7, 8, 0] rfl)
    · intro l1 l2 l3 l4 l5 l6 l7 l8 x0_7 x2_3 x2_4 f3 f8 f9 f10 f11 f13 hF H locs ls hP hD hS hl
      have hF : B_Search_explore_1 Kf (F_Search_explore Kf x0_5 x0_6 x5_2 f6 f7 x14_3 f15 f16 f17 f18 f19 n) x0_5 x0_6 x5_2 f6 f7 x14_3 f15 f16 f17 f18 f19 l1 l2 l3 l4 l5 l6 l7 l8 x0_7 x2_3 x2_4 f3 f8 f9 f10 f11 f13 = some (ox0_7, ox2_3, ox2_4, of3, of8, of9, of10, of11, of13) := hF
      unfold B_Search_explore_1 at hF
      refine lv_aload_n hx hb d_Search_explore_122 rfl (lv_at hl 0 rfl) ?_
      refine va_get (D := (dC, dI)) (ci := 4) (v := .ref a5) (C := R_Search) (T := F_Search) (N := 8) hx hb hg iw_Search hown hK hP 0 rfl rfl 1 (by decide) (hg _ gw_137) (fun _ h9 => h9) rfl d_Search_explore_123 ?_
      refine lv_iload_n hx hb d_Search_explore_126 rfl (lv_at hl 3 rfl) ?_
      obtain ⟨u_9, hS_9, hF⟩ := rd_bind hF
      have hPc := hP.sub (ws' := (wd_Text_letterAt kA a5 a15 v5_1 x5_2 f15)) [5, 15] rfl
      have hDc := hD.sub (ws' := (wd_Text_letterAt kA a5 a15 v5_1 x5_2 f15)) [5, 15] (by decide) rfl
      have hFc := va_free (wc := (wd_Text_letterAt kA a5 a15 v5_1 x5_2 f15)) hD hS hA [5, 15] rfl
      refine va_calli (va_runV (As := [.int l3]) (rest := []) ⟨hx, hb, hml, hown, hts⟩ (c_Text_letterAt l dC dI kA H.size a5 a15 v5_1 l3 x5_2 f15 u_9 hS_9) (cwV 1 hts (gw_V gw_140 gw_130 gw_131 gw_123 gw_132) rfl rfl rfl (by decide +kernel) ⟨Nat.le_trans (m := 3) (Nat.le_of_ble_eq_true rfl) hfr, Nat.le_trans (m := 108) (Nat.le_of_ble_eq_true rfl) hlo⟩) ⟨fun a U g mk q => by obtain ⟨q0, q1, qP, qK, qD⟩ := q; exact ⟨q0, q1, qP, va_K.moved (u := U) (U := U.calling g mk a) (Vm.Alike.refl U.vm) qK, qD⟩, va_recv hK hP (ci := 7) (q0 := 5) rfl rfl, fun U hU hW => ⟨rfl, by rw [hU], by rw [hU]; exact hPc, va_K.moved hW.alike hK, hDc.weaken (fun _ _ _ _ => trivial)⟩⟩ rfl rfl hl.1 rfl (lv_room (Nat.le_of_ble_eq_true rfl)) d_Search_explore_127 ⟨Nat.zero_le _, Nat.zero_le _⟩) hS (fun q _ h => hFc q h) hFc (fun r1 u t H1 locs ht hvm hw hB hz1 hk1 hS => ?_)
      rw [show r1 = _ from hw]
      obtain ⟨hP1, hK1, hD1⟩ := hB
      rw [ht] at hP1
      obtain ⟨hP, hD⟩ := va_join (wr := [(a0, .inr (4, [.ref a4, .ref a5, .ref a1, .ref a2, .ref a3, .int x0_5, .int x0_6, .int x0_7])), (a1, .inr (0, [.ref a6, .ref a7])), (a2, .inr (1, [.ref a10, .ref a8, .ref a9, .int x2_3, .int x2_4, v2_5])), (a3, .inl (kA 0, 6, .inl f3)), (a4, .inr (5, [.ref a12, .ref a14, .ref a11, .ref a13])), (a6, .inl (kA 0, 6, .inl f6)), (a7, .inl (kA 0, 6, .inl f7)), (a8, .inl (kA 0, 40, .inl f8)), (a9, .inl (kA 0, 40, .inl f9)), (a10, .inl (kA 0, 240, .inl f10)), (a11, .inl (kA 0, 4096, .inl f11)), (a12, .inr (2, [.ref a16, .ref a17, v12_2, v12_3, v12_4, v12_5, v12_6])), (a13, .inl (kA 0, 8, .inl f13)), (a14, .inr (6, [v14_0, .ref a19, .ref a18, .int x14_3, v14_4])), (a16, .inl (kA 0, 12, .inl f16)), (a17, .inl (kA 0, 12, .inl f17)), (a18, .inl (kA 0, 280, .inl f18)), (a19, .inl (kA 0, 480, .inl f19))]) (w1 := (wd_Text_letterAt kA a5 a15 v5_1 x5_2 f15)) hP hD [5, 15] [0, 1, 2, 3, 4, 6, 7, 8, 9, 10, 11, 12, 13, 14, 16, 17, 18, 19] rfl rfl (by decide) (by decide) hk1 hFc hP1 hD1
      have hP := hP.sub (ws' := (wd_Search_explore kA a0 a1 a2 a3 a4 a5 a6 a7 a8 a9 a10 a11 a12 a13 a14 a15 a16 a17 a18 a19 v2_5 v5_1 v12_2 v12_3 v12_4 v12_5 v12_6 v14_0 v14_4 x0_5 x0_6 x0_7 x2_3 x2_4 f3 x5_2 f6 f7 f8 f9 f10 f11 f13 x14_3 f15 f16 f17 f18 f19)) [0, 1, 2, 3, 4, 18, 5, 6, 7, 8, 9, 10, 11, 12, 13, 19, 14, 15, 16, 17] rfl
      have hD := hD.sub (ws' := (wd_Search_explore kA a0 a1 a2 a3 a4 a5 a6 a7 a8 a9 a10 a11 a12 a13 a14 a15 a16 a17 a18 a19 v2_5 v5_1 v12_2 v12_3 v12_4 v12_5 v12_6 v14_0 v14_4 x0_5 x0_6 x0_7 x2_3 x2_4 f3 x5_2 f6 f7 f8 f9 f10 f11 f13 x14_3 f15 f16 f17 f18 f19)) [0, 1, 2, 3, 4, 18, 5, 6, 7, 8, 9, 10, 11, 12, 13, 19, 14, 15, 16, 17] (by decide) rfl
      clear hPc hDc hFc hP1 hK1 hD1
      generalize H1 = H at hP hS ⊢
      refine lv_istore (lv' := [(7, .int u_9), (0, .ref a0), (1, .int l1), (2, .int l2), (3, .int l3), (4, .int l4), (5, .int l5), (6, .int l6)]) hx hb d_Search_explore_130 hl (by decide) rfl (fun ls hl => ?_)
      refine lv_iload hx hb d_Search_explore_132 (lv_at hl 5 rfl) ?_
      refine lv_aload_n hx hb d_Search_explore_134 rfl (lv_at hl 1 rfl) ?_
      refine va_get (D := (dC, dI)) (ci := 4) (v := .ref a1) (C := R_Search) (T := F_Search) (N := 8) hx hb hg iw_Search hown hK hP 0 rfl rfl 2 (by decide) (hg _ gw_161) (fun _ h9 => h9) rfl d_Search_explore_135 ?_
      refine lv_iload hx hb d_Search_explore_138 (lv_at hl 0 rfl) ?_
      obtain ⟨u_10, hS_10, hF⟩ := rd_bind hF
      have hPc := hP.sub (ws' := (wd_Costs_ofTaking kA a1 a7 (.ref a6) f7)) [1, 7] rfl
      have hDc := hD.sub (ws' := (wd_Costs_ofTaking kA a1 a7 (.ref a6) f7)) [1, 7] (by decide) rfl
      have hFc := va_free (wc := (wd_Costs_ofTaking kA a1 a7 (.ref a6) f7)) hD hS hA [1, 7] rfl
      refine va_calli (va_runV (As := [.int u_9]) (rest := [.int l4]) ⟨hx, hb, hml, hown, hts⟩ (c_Costs_ofTaking l dC dI kA H.size a1 a7 (.ref a6) u_9 f7 u_10 hS_10) (cwV 1 hts (gw_V gw_171 gw_172 gw_173 gw_165 gw_174) rfl rfl rfl (by decide +kernel) ⟨Nat.le_trans (m := 3) (Nat.le_of_ble_eq_true rfl) hfr, Nat.le_trans (m := 108) (Nat.le_of_ble_eq_true rfl) hlo⟩) ⟨fun a U g mk q => by obtain ⟨q0, q1, qP, qK, qD⟩ := q; exact ⟨q0, q1, qP, va_K.moved (u := U) (U := U.calling g mk a) (Vm.Alike.refl U.vm) qK, qD⟩, va_recv hK hP (ci := 0) (q0 := 1) rfl rfl, fun U hU hW => ⟨rfl, by rw [hU], by rw [hU]; exact hPc, va_K.moved hW.alike hK, hDc.weaken (fun _ _ _ _ => trivial)⟩⟩ rfl rfl hl.1 rfl (lv_room (Nat.le_of_ble_eq_true rfl)) d_Search_explore_140 ⟨Nat.zero_le _, Nat.zero_le _⟩) hS (fun q _ h => hFc q h) hFc (fun r1 u t H1 locs ht hvm hw hB hz1 hk1 hS => ?_)
      rw [show r1 = _ from hw]
      obtain ⟨hP1, hK1, hD1⟩ := hB
      rw [ht] at hP1
      obtain ⟨hP, hD⟩ := va_join (wr := [(a0, .inr (4, [.ref a4, .ref a5, .ref a1, .ref a2, .ref a3, .int x0_5, .int x0_6, .int x0_7])), (a2, .inr (1, [.ref a10, .ref a8, .ref a9, .int x2_3, .int x2_4, v2_5])), (a3, .inl (kA 0, 6, .inl f3)), (a4, .inr (5, [.ref a12, .ref a14, .ref a11, .ref a13])), (a5, .inr (7, [.ref a15, v5_1, .int x5_2])), (a6, .inl (kA 0, 6, .inl f6)), (a8, .inl (kA 0, 40, .inl f8)), (a9, .inl (kA 0, 40, .inl f9)), (a10, .inl (kA 0, 240, .inl f10)), (a11, .inl (kA 0, 4096, .inl f11)), (a12, .inr (2, [.ref a16, .ref a17, v12_2, v12_3, v12_4, v12_5, v12_6])), (a13, .inl (kA 0, 8, .inl f13)), (a14, .inr (6, [v14_0, .ref a19, .ref a18, .int x14_3, v14_4])), (a15, .inl (kA 0, 16, .inl f15)), (a16, .inl (kA 0, 12, .inl f16)), (a17, .inl (kA 0, 12, .inl f17)), (a18, .inl (kA 0, 280, .inl f18)), (a19, .inl (kA 0, 480, .inl f19))]) (w1 := (wd_Costs_ofTaking kA a1 a7 (.ref a6) f7)) hP hD [1, 7] [0, 2, 3, 4, 5, 6, 8, 9, 10, 11, 12, 13, 14, 15, 16, 17, 18, 19] rfl rfl (by decide) (by decide) hk1 hFc hP1 hD1
      have hP := hP.sub (ws' := (wd_Search_explore kA a0 a1 a2 a3 a4 a5 a6 a7 a8 a9 a10 a11 a12 a13 a14 a15 a16 a17 a18 a19 v2_5 v5_1 v12_2 v12_3 v12_4 v12_5 v12_6 v14_0 v14_4 x0_5 x0_6 x0_7 x2_3 x2_4 f3 x5_2 f6 f7 f8 f9 f10 f11 f13 x14_3 f15 f16 f17 f18 f19)) [0, 18, 1, 2, 3, 4, 5, 19, 6, 7, 8, 9, 10, 11, 12, 13, 14, 15, 16, 17] rfl
      have hD := hD.sub (ws' := (wd_Search_explore kA a0 a1 a2 a3 a4 a5 a6 a7 a8 a9 a10 a11 a12 a13 a14 a15 a16 a17 a18 a19 v2_5 v5_1 v12_2 v12_3 v12_4 v12_5 v12_6 v14_0 v14_4 x0_5 x0_6 x0_7 x2_3 x2_4 f3 x5_2 f6 f7 f8 f9 f10 f11 f13 x14_3 f15 f16 f17 f18 f19)) [0, 18, 1, 2, 3, 4, 5, 19, 6, 7, 8, 9, 10, 11, 12, 13, 14, 15, 16, 17] (by decide) rfl
      clear hPc hDc hFc hP1 hK1 hD1
      generalize H1 = H at hP hS ⊢
      refine lv_isub hx hb d_Search_explore_143 ?_
      refine lv_istore (lv' := [(8, .int (l4 - u_10)), (7, .int u_9), (0, .ref a0), (1, .int l1), (2, .int l2), (3, .int l3), (4, .int l4), (5, .int l5), (6, .int l6)]) hx hb d_Search_explore_144 hl (by decide) rfl (fun ls hl => ?_)
      refine lv_iload hx hb d_Search_explore_146 (lv_at hl 0 rfl) ?_
      refine lv_if_lt (tgt := 174) hx hb d_Search_explore_148 (by decide) (fun c_11 => ?_) (fun c_11 => ?_)
      · rw [if_pos c_11] at hF
        exact ih.2.2 l1 l2 l3 l4 l5 l6 u_9 (l4 - u_10) x0_7 x2_3 x2_4 f3 f8 f9 f10 f11 f13 hF _ _ _ hP hD hS (lv_sub hl [2, 3, 4, 5, 6, 7, 8, 1, 0] rfl)
      · rw [if_neg c_11] at hF
        refine lv_aload_n hx hb d_Search_explore_151 rfl (lv_at hl 2 rfl) ?_
        refine va_get (D := (dC, dI)) (ci := 4) (v := .ref a3) (C := R_Search) (T := F_Search) (N := 8) hx hb hg iw_Search hown hK hP 0 rfl rfl 4 (by decide) (hg _ gw_145) (fun _ h9 => h9) rfl d_Search_explore_152 ?_
        refine lv_iload_n hx hb d_Search_explore_155 rfl (lv_at hl 3 rfl) ?_
        refine lv_bipush (v := 6) hx hb d_Search_explore_156 (by decide) ?_
        obtain ⟨h_12, hF⟩ := rd_chk hF
        refine va_iast hx hb hK hP hD hS 3 0 rfl rfl h_12 d_Search_explore_158 (fun H locs hP hD hS => ?_)
        have hP : va_P (dC, dI) classes (wd_Search_explore kA a0 a1 a2 a3 a4 a5 a6 a7 a8 a9 a10 a11 a12 a13 a14 a15 a16 a17 a18 a19 v2_5 v5_1 v12_2 v12_3 v12_4 v12_5 v12_6 v14_0 v14_4 x0_5 x0_6 x0_7 x2_3 x2_4 (upd f3 (Int32.toNatClampNeg l1) 6) x5_2 f6 f7 f8 f9 f10 f11 f13 x14_3 f15 f16 f17 f18 f19) H := hP
        have hD : va_D A (wd_Search_explore kA a0 a1 a2 a3 a4 a5 a6 a7 a8 a9 a10 a11 a12 a13 a14 a15 a16 a17 a18 a19 v2_5 v5_1 v12_2 v12_3 v12_4 v12_5 v12_6 v14_0 v14_4 x0_5 x0_6 x0_7 x2_3 x2_4 (upd f3 (Int32.toNatClampNeg l1) 6) x5_2 f6 f7 f8 f9 f10 f11 f13 x14_3 f15 f16 f17 f18 f19) := hD
        refine lv_aload_n hx hb d_Search_explore_159 rfl (lv_at hl 2 rfl) ?_
        refine lv_iload_n hx hb d_Search_explore_160 rfl (lv_at hl 3 rfl) ?_
        refine lv_iconst (v := 1) hx hb d_Search_explore_161 (by decide) ?_
        refine lv_iadd hx hb d_Search_explore_162 ?_
        refine lv_iload_n hx hb d_Search_explore_163 rfl (lv_at hl 4 rfl) ?_
        refine lv_iload_n hx hb d_Search_explore_164 rfl (lv_at hl 5 rfl) ?_
        refine lv_iconst (v := 1) hx hb d_Search_explore_165 (by decide) ?_
        refine lv_iadd hx hb d_Search_explore_166 ?_
        refine lv_iload hx hb d_Search_explore_167 (lv_at hl 0 rfl) ?_
        refine lv_iload hx hb d_Search_explore_169 (lv_at hl 7 rfl) ?_
        obtain ⟨u_13, hS_13, hF⟩ := rd_bind hF
        have hPc := hP.sub (ws' := (wd_Search_follow kA a0 a1 a2 a3 a4 a5 a6 a7 a8 a9 a10 a11 a12 a13 a14 a15 a16 a17 a18 a19 v2_5 v5_1 v12_2 v12_3 v12_4 v12_5 v12_6 v14_0 v14_4 x0_5 x0_6 x0_7 x2_3 x2_4 (upd f3 (Int32.toNatClampNeg l1) 6) x5_2 f6 f7 f8 f9 f10 f11 f13 x14_3 f15 f16 f17 f18 f19)) [0, 1, 2, 3, 4, 5, 6, 7, 8, 9, 10, 11, 12, 13, 14, 15, 16, 17, 18, 19] rfl
        have hDc := hD.sub (ws' := (wd_Search_follow kA a0 a1 a2 a3 a4 a5 a6 a7 a8 a9 a10 a11 a12 a13 a14 a15 a16 a17 a18 a19 v2_5 v5_1 v12_2 v12_3 v12_4 v12_5 v12_6 v14_0 v14_4 x0_5 x0_6 x0_7 x2_3 x2_4 (upd f3 (Int32.toNatClampNeg l1) 6) x5_2 f6 f7 f8 f9 f10 f11 f13 x14_3 f15 f16 f17 f18 f19)) [0, 1, 2, 3, 4, 5, 6, 7, 8, 9, 10, 11, 12, 13, 14, 15, 16, 17, 18, 19] (by decide) rfl
        have hFc := va_free (wc := (wd_Search_follow kA a0 a1 a2 a3 a4 a5 a6 a7 a8 a9 a10 a11 a12 a13 a14 a15 a16 a17 a18 a19 v2_5 v5_1 v12_2 v12_3 v12_4 v12_5 v12_6 v14_0 v14_4 x0_5 x0_6 x0_7 x2_3 x2_4 (upd f3 (Int32.toNatClampNeg l1) 6) x5_2 f6 f7 f8 f9 f10 f11 f13 x14_3 f15 f16 f17 f18 f19)) hD hS hA [0, 1, 2, 3, 4, 5, 6, 7, 8, 9, 10, 11, 12, 13, 14, 15, 16, 17, 18, 19] rfl
        refine va_callv (va_runV (As := [.int (l1 + 1), .int l2, .int (l3 + 1), .int (l4 - u_10), .int l5]) (rest := []) ⟨hx, hb, hml, hown, hts⟩ (hKf H.size a0 a1 a2 a3 a4 a5 a6 a7 a8 a9 a10 a11 a12 a13 a14 a15 a16 a17 a18 a19 v2_5 v5_1 v12_2 v12_3 v12_4 v12_5 v12_6 v14_0 v14_4 (l1 + 1) l2 (l3 + 1) (l4 - u_10) l5 x0_5 x0_6 x0_7 x2_3 x2_4 (upd f3 (Int32.toNatClampNeg l1) 6) x5_2 f6 f7 f8 f9 f10 f11 f13 x14_3 f15 f16 f17 f18 f19 u_13.1 u_13.2.1 u_13.2.2.1 u_13.2.2.2.1 u_13.2.2.2.2.1 u_13.2.2.2.2.2.1 u_13.2.2.2.2.2.2.1 u_13.2.2.2.2.2.2.2.1 u_13.2.2.2.2.2.2.2.2 hS_13) (cwV 5 hts (gw_V gw_167 gw_168 gw_169 gw_155 gw_170) rfl hrc hrs (by decide +kernel) ⟨hR1, hR2⟩) ⟨fun a U g mk q => by obtain ⟨q0, q1, qP, qK, qD⟩ := q; exact ⟨q0, q1, qP, va_K.moved (u := U) (U := U.calling g mk a) (Vm.Alike.refl U.vm) qK, qD⟩, va_recv hK hP (ci := 4) (q0 := 0) rfl rfl, fun U hU hW => ⟨rfl, by rw [hU], by rw [hU]; exact hPc, va_K.moved hW.alike hK, hDc.weaken (fun _ _ _ _ => trivial)⟩⟩ rfl rfl hl.1 rfl (lv_room (Nat.le_of_ble_eq_true rfl)) d_Search_explore_171 ⟨Nat.zero_le _, Nat.zero_le _⟩) hS (fun q _ h => hFc q h) hFc (fun u t H1 locs ht hvm hw hB hz1 hk1 hS => ?_)
        obtain ⟨hP1, hK1, hD1⟩ := hB
        rw [ht] at hP1
        obtain ⟨hP, hD⟩ := va_join (wr := []) (w1 := (wd_Search_follow kA a0 a1 a2 a3 a4 a5 a6 a7 a8 a9 a10 a11 a12 a13 a14 a15 a16 a17 a18 a19 v2_5 v5_1 v12_2 v12_3 v12_4 v12_5 v12_6 v14_0 v14_4 x0_5 x0_6 u_13.1 u_13.2.1 u_13.2.2.1 u_13.2.2.2.1 x5_2 f6 f7 u_13.2.2.2.2.1 u_13.2.2.2.2.2.1 u_13.2.2.2.2.2.2.1 u_13.2.2.2.2.2.2.2.1 u_13.2.2.2.2.2.2.2.2 x14_3 f15 f16 f17 f18 f19)) hP hD [0, 1, 2, 3, 4, 5, 6, 7, 8, 9, 10, 11, 12, 13, 14, 15, 16, 17, 18, 19] [] rfl rfl (by decide) (by decide) hk1 hFc hP1 hD1
        have hP := hP.sub (ws' := (wd_Search_explore kA a0 a1 a2 a3 a4 a5 a6 a7 a8 a9 a10 a11 a12 a13 a14 a15 a16 a17 a18 a19 v2_5 v5_1 v12_2 v12_3 v12_4 v12_5 v12_6 v14_0 v14_4 x0_5 x0_6 u_13.1 u_13.2.1 u_13.2.2.1 u_13.2.2.2.1 x5_2 f6 f7 u_13.2.2.2.2.1 u_13.2.2.2.2.2.1 u_13.2.2.2.2.2.2.1 u_13.2.2.2.2.2.2.2.1 u_13.2.2.2.2.2.2.2.2 x14_3 f15 f16 f17 f18 f19)) [0, 1, 2, 3, 4, 5, 6, 7, 8, 9, 10, 11, 12, 13, 14, 15, 16, 17, 18, 19] rfl
        have hD := hD.sub (ws' := (wd_Search_explore kA a0 a1 a2 a3 a4 a5 a6 a7 a8 a9 a10 a11 a12 a13 a14 a15 a16 a17 a18 a19 v2_5 v5_1 v12_2 v12_3 v12_4 v12_5 v12_6 v14_0 v14_4 x0_5 x0_6 u_13.1 u_13.2.1 u_13.2.2.1 u_13.2.2.2.1 x5_2 f6 f7 u_13.2.2.2.2.1 u_13.2.2.2.2.2.1 u_13.2.2.2.2.2.2.1 u_13.2.2.2.2.2.2.2.1 u_13.2.2.2.2.2.2.2.2 x14_3 f15 f16 f17 f18 f19)) [0, 1, 2, 3, 4, 5, 6, 7, 8, 9, 10, 11, 12, 13, 14, 15, 16, 17, 18, 19] (by decide) rfl
        clear hPc hDc hFc hP1 hK1 hD1
        generalize H1 = H at hP hS ⊢
        exact ih.2.2 l1 l2 l3 l4 l5 l6 u_9 (l4 - u_10) u_13.1 u_13.2.1 u_13.2.2.1 u_13.2.2.2.1 u_13.2.2.2.2.1 u_13.2.2.2.2.2.1 u_13.2.2.2.2.2.2.1 u_13.2.2.2.2.2.2.2.1 u_13.2.2.2.2.2.2.2.2 hF _ _ _ hP hD hS (lv_sub hl [2, 3, 4, 5, 6, 7, 8, 1, 0] rfl)
    · intro l1 l2 l3 l4 l5 l6 l7 l8 x0_7 x2_3 x2_4 f3 f8 f9 f10 f11 f13 hF H locs ls hP hD hS hl
      have hF : B_Search_explore_2 Kf (F_Search_explore Kf x0_5 x0_6 x5_2 f6 f7 x14_3 f15 f16 f17 f18 f19 n) x0_5 x0_6 x5_2 f6 f7 x14_3 f15 f16 f17 f18 f19 l1 l2 l3 l4 l5 l6 l7 l8 x0_7 x2_3 x2_4 f3 f8 f9 f10 f11 f13 = some (ox0_7, ox2_3, ox2_4, of3, of8, of9, of10, of11, of13) := hF
      unfold B_Search_explore_2 at hF
      refine lv_iload hx hb d_Search_explore_174 (lv_at hl 5 rfl) ?_
      refine lv_iconst (v := 3) hx hb d_Search_explore_176 (by decide) ?_
      refine lv_icmp_ge (tgt := 223) hx hb d_Search_explore_177 (by decide) (fun c_14 => ?_) (fun c_14 => ?_)
      · rw [if_pos c_14] at hF
        have e0 := Option.some.inj hF
        have q0 := Prod.mk.inj e0
        have q1 := Prod.mk.inj q0.2
        have q2 := Prod.mk.inj q1.2
        have q3 := Prod.mk.inj q2.2
        have q4 := Prod.mk.inj q3.2
        have q5 := Prod.mk.inj q4.2
        have q6 := Prod.mk.inj q5.2
        have q7 := Prod.mk.inj q6.2
        exact W.vret hx hb hr (fun t ht hW => ⟨⟨(), rfl, trivial, by rw [ht, ← q0.1, ← q1.1, ← q2.1, ← q3.1, ← q4.1, ← q5.1, ← q6.1, ← q7.1, ← q7.2]; exact hP, va_K.moved hW.alike hK, (by rw [← q0.1, ← q1.1, ← q2.1, ← q3.1, ← q4.1, ← q5.1, ← q6.1, ← q7.1, ← q7.2]; exact hD)⟩, hS.F ht⟩) hS.2.2 d_Search_explore_223 hlocks
      · rw [if_neg c_14] at hF
        refine lv_aload_n hx hb d_Search_explore_180 rfl (lv_at hl 0 rfl) ?_
        refine va_get (D := (dC, dI)) (ci := 4) (v := .ref a4) (C := R_Search) (T := F_Search) (N := 8) hx hb hg iw_Search hown hK hP 0 rfl rfl 0 (by decide) (hg _ gw_139) (fun _ h9 => h9) rfl d_Search_explore_181 ?_
        refine lv_iload_n hx hb d_Search_explore_184 rfl (lv_at hl 2 rfl) ?_
        refine lv_iload_n hx hb d_Search_explore_185 rfl (lv_at hl 2 rfl) ?_
        refine lv_iconst (v := 1) hx hb d_Search_explore_186 (by decide) ?_
        refine lv_iadd hx hb d_Search_explore_187 ?_
        refine lv_iload hx hb d_Search_explore_188 (lv_at hl 7 rfl) ?_
        obtain ⟨u_15, hS_15, hF⟩ := rd_bind hF
        have hPc := hP.sub (ws' := (wd_Stacks_feed kA a4 a11 a12 a13 a14 a16 a17 a18 a19 v12_2 v12_3 v12_4 v12_5 v12_6 v14_0 v14_4 f11 f13 x14_3 f16 f17 f18 f19)) [4, 11, 12, 13, 14, 16, 17, 18, 19] rfl
        have hDc := hD.sub (ws' := (wd_Stacks_feed kA a4 a11 a12 a13 a14 a16 a17 a18 a19 v12_2 v12_3 v12_4 v12_5 v12_6 v14_0 v14_4 f11 f13 x14_3 f16 f17 f18 f19)) [4, 11, 12, 13, 14, 16, 17, 18, 19] (by decide) rfl
        have hFc := va_free (wc := (wd_Stacks_feed kA a4 a11 a12 a13 a14 a16 a17 a18 a19 v12_2 v12_3 v12_4 v12_5 v12_6 v14_0 v14_4 f11 f13 x14_3 f16 f17 f18 f19)) hD hS hA [4, 11, 12, 13, 14, 16, 17, 18, 19] rfl
        refine va_calli (va_runV (As := [.int l2, .int (l2 + 1), .int l7]) (rest := []) ⟨hx, hb, hml, hown, hts⟩ (c_Stacks_feed l dC dI kA H.size a4 a11 a12 a13 a14 a16 a17 a18 a19 v12_2 v12_3 v12_4 v12_5 v12_6 v14_0 v14_4 l2 (l2 + 1) l7 f11 f13 x14_3 f16 f17 f18 f19 u_15.1 u_15.2.1 u_15.2.2 hS_15) (cwV 3 hts (gw_V gw_141 gw_134 gw_135 gw_85 gw_136) rfl rfl rfl (by decide +kernel) ⟨Nat.le_trans (m := 3) (Nat.le_of_ble_eq_true rfl) hfr, Nat.le_trans (m := 108) (Nat.le_of_ble_eq_true rfl) hlo⟩) ⟨fun a U g mk q => by obtain ⟨q0, q1, qP, qK, qD⟩ := q; exact ⟨q0, q1, qP, va_K.moved (u := U) (U := U.calling g mk a) (Vm.Alike.refl U.vm) qK, qD⟩, va_recv hK hP (ci := 5) (q0 := 4) rfl rfl, fun U hU hW => ⟨rfl, by rw [hU], by rw [hU]; exact hPc, va_K.moved hW.alike hK, hDc.weaken (fun _ _ _ _ => trivial)⟩⟩ rfl rfl hl.1 rfl (lv_room (Nat.le_of_ble_eq_true rfl)) d_Search_explore_190 ⟨Nat.zero_le _, Nat.zero_le _⟩) hS (fun q _ h => hFc q h) hFc (fun r1 u t H1 locs ht hvm hw hB hz1 hk1 hS => ?_)
        rw [show r1 = _ from hw]
        obtain ⟨hP1, hK1, hD1⟩ := hB
        rw [ht] at hP1
        obtain ⟨hP, hD⟩ := va_join (wr := [(a0, .inr (4, [.ref a4, .ref a5, .ref a1, .ref a2, .ref a3, .int x0_5, .int x0_6, .int x0_7])), (a1, .inr (0, [.ref a6, .ref a7])), (a2, .inr (1, [.ref a10, .ref a8, .ref a9, .int x2_3, .int x2_4, v2_5])), (a3, .inl (kA 0, 6, .inl f3)), (a5, .inr (7, [.ref a15, v5_1, .int x5_2])), (a6, .inl (kA 0, 6, .inl f6)), (a7, .inl (kA 0, 6, .inl f7)), (a8, .inl (kA 0, 40, .inl f8)), (a9, .inl (kA 0, 40, .inl f9)), (a10, .inl (kA 0, 240, .inl f10)), (a15, .inl (kA 0, 16, .inl f15))]) (w1 := (wd_Stacks_feed kA a4 a11 a12 a13 a14 a16 a17 a18 a19 v12_2 v12_3 v12_4 v12_5 v12_6 v14_0 v14_4 u_15.2.1 u_15.2.2 x14_3 f16 f17 f18 f19)) hP hD [4, 11, 12, 13, 14, 16, 17, 18, 19] [0, 1, 2, 3, 5, 6, 7, 8, 9, 10, 15] rfl rfl (by decide) (by decide) hk1 hFc hP1 hD1
        have hP := hP.sub (ws' := (wd_Search_explore kA a0 a1 a2 a3 a4 a5 a6 a7 a8 a9 a10 a11 a12 a13 a14 a15 a16 a17 a18 a19 v2_5 v5_1 v12_2 v12_3 v12_4 v12_5 v12_6 v14_0 v14_4 x0_5 x0_6 x0_7 x2_3 x2_4 f3 x5_2 f6 f7 f8 f9 f10 u_15.2.1 u_15.2.2 x14_3 f15 f16 f17 f18 f19)) [0, 1, 2, 3, 11, 4, 5, 6, 7, 8, 9, 12, 13, 14, 15, 10, 16, 17, 18, 19] rfl
        have hD := hD.sub (ws' := (wd_Search_explore kA a0 a1 a2 a3 a4 a5 a6 a7 a8 a9 a10 a11 a12 a13 a14 a15 a16 a17 a18 a19 v2_5 v5_1 v12_2 v12_3 v12_4 v12_5 v12_6 v14_0 v14_4 x0_5 x0_6 x0_7 x2_3 x2_4 f3 x5_2 f6 f7 f8 f9 f10 u_15.2.1 u_15.2.2 x14_3 f15 f16 f17 f18 f19)) [0, 1, 2, 3, 11, 4, 5, 6, 7, 8, 9, 12, 13, 14, 15, 10, 16, 17, 18, 19] (by decide) rfl
        clear hPc hDc hFc hP1 hK1 hD1
        generalize H1 = H at hP hS ⊢
        refine lv_if_eq (tgt := 223) hx hb d_Search_explore_193 (by decide) (fun c_16 => ?_) (fun c_16 => ?_)
        · rw [if_pos c_16] at hF
          have e0 := Option.some.inj hF
          have q0 := Prod.mk.inj e0
          have q1 := Prod.mk.inj q0.2
          have q2 := Prod.mk.inj q1.2
          have q3 := Prod.mk.inj q2.2
          have q4 := Prod.mk.inj q3.2
          have q5 := Prod.mk.inj q4.2
          have q6 := Prod.mk.inj q5.2
          have q7 := Prod.mk.inj q6.2
          exact W.vret hx hb hr (fun t ht hW => ⟨⟨(), rfl, trivial, by rw [ht, ← q0.1, ← q1.1, ← q2.1, ← q3.1, ← q4.1, ← q5.1, ← q6.1, ← q7.1, ← q7.2]; exact hP, va_K.moved hW.alike hK, (by rw [← q0.1, ← q1.1, ← q2.1, ← q3.1, ← q4.1, ← q5.1, ← q6.1, ← q7.1, ← q7.2]; exact hD)⟩, hS.F ht⟩) hS.2.2 d_Search_explore_223 hlocks
        · rw [if_neg c_16] at hF
          refine lv_aload_n hx hb d_Search_explore_196 rfl (lv_at hl 0 rfl) ?_
          refine va_get (D := (dC, dI)) (ci := 4) (v := .ref a3) (C := R_Search) (T := F_Search) (N := 8) hx hb hg iw_Search hown hK hP 0 rfl rfl 4 (by decide) (hg _ gw_145) (fun _ h9 => h9) rfl d_Search_explore_197 ?_
          refine lv_iload_n hx hb d_Search_explore_200 rfl (lv_at hl 1 rfl) ?_
          refine lv_bipush (v := 7) hx hb d_Search_explore_201 (by decide) ?_
          obtain ⟨h_17, hF⟩ := rd_chk hF
          refine va_iast hx hb hK hP hD hS 3 0 rfl rfl h_17 d_Search_explore_203 (fun H locs hP hD hS => ?_)
          have hP : va_P (dC, dI) classes (wd_Search_explore kA a0 a1 a2 a3 a4 a5 a6 a7 a8 a9 a10 a11 a12 a13 a14 a15 a16 a17 a18 a19 v2_5 v5_1 v12_2 v12_3 v12_4 v12_5 v12_6 v14_0 v14_4 x0_5 x0_6 x0_7 x2_3 x2_4 (upd f3 (Int32.toNatClampNeg l1) 7) x5_2 f6 f7 f8 f9 f10 u_15.2.1 u_15.2.2 x14_3 f15 f16 f17 f18 f19) H := hP
          have hD : va_D A (wd_Search_explore kA a0 a1 a2 a3 a4 a5 a6 a7 a8 a9 a10 a11 a12 a13 a14 a15 a16 a17 a18 a19 v2_5 v5_1 v12_2 v12_3 v12_4 v12_5 v12_6 v14_0 v14_4 x0_5 x0_6 x0_7 x2_3 x2_4 (upd f3 (Int32.toNatClampNeg l1) 7) x5_2 f6 f7 f8 f9 f10 u_15.2.1 u_15.2.2 x14_3 f15 f16 f17 f18 f19) := hD
          refine lv_aload_n hx hb d_Search_explore_204 rfl (lv_at hl 0 rfl) ?_
          refine lv_iload_n hx hb d_Search_explore_205 rfl (lv_at hl 1 rfl) ?_
          refine lv_iconst (v := 1) hx hb d_Search_explore_206 (by decide) ?_
          refine lv_iadd hx hb d_Search_explore_207 ?_
          refine lv_iload_n hx hb d_Search_explore_208 rfl (lv_at hl 2 rfl) ?_
          refine lv_iconst (v := 1) hx hb d_Search_explore_209 (by decide) ?_
          refine lv_iadd hx hb d_Search_explore_210 ?_
          refine lv_iload_n hx hb d_Search_explore_211 rfl (lv_at hl 3 rfl) ?_
          refine lv_iconst (v := 1) hx hb d_Search_explore_212 (by decide) ?_
          refine lv_iadd hx hb d_Search_explore_213 ?_
          refine lv_iload hx hb d_Search_explore_214 (lv_at hl 4 rfl) ?_
          refine lv_iload hx hb d_Search_explore_216 (lv_at hl 5 rfl) ?_
          refine lv_iconst (v := 1) hx hb d_Search_explore_218 (by decide) ?_
          refine lv_iadd hx hb d_Search_explore_219 ?_
          obtain ⟨u_18, hS_18, hF⟩ := rd_bind hF
          have hPc := hP.sub (ws' := (wd_Search_follow kA a0 a1 a2 a3 a4 a5 a6 a7 a8 a9 a10 a11 a12 a13 a14 a15 a16 a17 a18 a19 v2_5 v5_1 v12_2 v12_3 v12_4 v12_5 v12_6 v14_0 v14_4 x0_5 x0_6 x0_7 x2_3 x2_4 (upd f3 (Int32.toNatClampNeg l1) 7) x5_2 f6 f7 f8 f9 f10 u_15.2.1 u_15.2.2 x14_3 f15 f16 f17 f18 f19)) [0, 1, 2, 3, 4, 5, 6, 7, 8, 9, 10, 11, 12, 13, 14, 15, 16, 17, 18, 19] rfl
          have hDc := hD.sub (ws' := (wd_Search_follow kA a0 a1 a2 a3 a4 a5 a6 a7 a8 a9 a10 a11 a12 a13 a14 a15 a16 a17 a18 a19 v2_5 v5_1 v12_2 v12_3 v12_4 v12_5 v12_6 v14_0 v14_4 x0_5 x0_6 x0_7 x2_3 x2_4 (upd f3 (Int32.toNatClampNeg l1) 7) x5_2 f6 f7 f8 f9 f10 u_15.2.1 u_15.2.2 x14_3 f15 f16 f17 f18 f19)) [0, 1, 2, 3, 4, 5, 6, 7, 8, 9, 10, 11, 12, 13, 14, 15, 16, 17, 18, 19] (by decide) rfl
          have hFc := va_free (wc := (wd_Search_follow kA a0 a1 a2 a3 a4 a5 a6 a7 a8 a9 a10 a11 a12 a13 a14 a15 a16 a17 a18 a19 v2_5 v5_1 v12_2 v12_3 v12_4 v12_5 v12_6 v14_0 v14_4 x0_5 x0_6 x0_7 x2_3 x2_4 (upd f3 (Int32.toNatClampNeg l1) 7) x5_2 f6 f7 f8 f9 f10 u_15.2.1 u_15.2.2 x14_3 f15 f16 f17 f18 f19)) hD hS hA [0, 1, 2, 3, 4, 5, 6, 7, 8, 9, 10, 11, 12, 13, 14, 15, 16, 17, 18, 19] rfl
          refine va_callv (va_runV (As := [.int (l1 + 1), .int (l2 + 1), .int (l3 + 1), .int l4, .int (l5 + 1)]) (rest := []) ⟨hx, hb, hml, hown, hts⟩ (hKf H.size a0 a1 a2 a3 a4 a5 a6 a7 a8 a9 a10 a11 a12 a13 a14 a15 a16 a17 a18 a19 v2_5 v5_1 v12_2 v12_3 v12_4 v12_5 v12_6 v14_0 v14_4 (l1 + 1) (l2 + 1) (l3 + 1) l4 (l5 + 1) x0_5 x0_6 x0_7 x2_3 x2_4 (upd f3 (Int32.toNatClampNeg l1) 7) x5_2 f6 f7 f8 f9 f10 u_15.2.1 u_15.2.2 x14_3 f15 f16 f17 f18 f19 u_18.1 u_18.2.1 u_18.2.2.1 u_18.2.2.2.1 u_18.2.2.2.2.1 u_18.2.2.2.2.2.1 u_18.2.2.2.2.2.2.1 u_18.2.2.2.2.2.2.2.1 u_18.2.2.2.2.2.2.2.2 hS_18) (cwV 5 hts (gw_V gw_167 gw_168 gw_169 gw_155 gw_170) rfl hrc hrs (by decide +kernel) ⟨hR1, hR2⟩) ⟨fun a U g mk q => by obtain ⟨q0, q1, qP, qK, qD⟩ := q; exact ⟨q0, q1, qP, va_K.moved (u := U) (U := U.calling g mk a) (Vm.Alike.refl U.vm) qK, qD⟩, va_recv hK hP (ci := 4) (q0 := 0) rfl rfl, fun U hU hW => ⟨rfl, by rw [hU], by rw [hU]; exact hPc, va_K.moved hW.alike hK, hDc.weaken (fun _ _ _ _ => trivial)⟩⟩ rfl rfl hl.1 rfl (lv_room (Nat.le_of_ble_eq_true rfl)) d_Search_explore_220 ⟨Nat.zero_le _, Nat.zero_le _⟩) hS (fun q _ h => hFc q h) hFc (fun u t H1 locs ht hvm hw hB hz1 hk1 hS => ?_)
          obtain ⟨hP1, hK1, hD1⟩ := hB
          rw [ht] at hP1
          obtain ⟨hP, hD⟩ := va_join (wr := []) (w1 := (wd_Search_follow kA a0 a1 a2 a3 a4 a5 a6 a7 a8 a9 a10 a11 a12 a13 a14 a15 a16 a17 a18 a19 v2_5 v5_1 v12_2 v12_3 v12_4 v12_5 v12_6 v14_0 v14_4 x0_5 x0_6 u_18.1 u_18.2.1 u_18.2.2.1 u_18.2.2.2.1 x5_2 f6 f7 u_18.2.2.2.2.1 u_18.2.2.2.2.2.1 u_18.2.2.2.2.2.2.1 u_18.2.2.2.2.2.2.2.1 u_18.2.2.2.2.2.2.2.2 x14_3 f15 f16 f17 f18 f19)) hP hD [0, 1, 2, 3, 4, 5, 6, 7, 8, 9, 10, 11, 12, 13, 14, 15, 16, 17, 18, 19] [] rfl rfl (by decide) (by decide) hk1 hFc hP1 hD1
          have hP := hP.sub (ws' := (wd_Search_explore kA a0 a1 a2 a3 a4 a5 a6 a7 a8 a9 a10 a11 a12 a13 a14 a15 a16 a17 a18 a19 v2_5 v5_1 v12_2 v12_3 v12_4 v12_5 v12_6 v14_0 v14_4 x0_5 x0_6 u_18.1 u_18.2.1 u_18.2.2.1 u_18.2.2.2.1 x5_2 f6 f7 u_18.2.2.2.2.1 u_18.2.2.2.2.2.1 u_18.2.2.2.2.2.2.1 u_18.2.2.2.2.2.2.2.1 u_18.2.2.2.2.2.2.2.2 x14_3 f15 f16 f17 f18 f19)) [0, 1, 2, 3, 4, 5, 6, 7, 8, 9, 10, 11, 12, 13, 14, 15, 16, 17, 18, 19] rfl
          have hD := hD.sub (ws' := (wd_Search_explore kA a0 a1 a2 a3 a4 a5 a6 a7 a8 a9 a10 a11 a12 a13 a14 a15 a16 a17 a18 a19 v2_5 v5_1 v12_2 v12_3 v12_4 v12_5 v12_6 v14_0 v14_4 x0_5 x0_6 u_18.1 u_18.2.1 u_18.2.2.1 u_18.2.2.2.1 x5_2 f6 f7 u_18.2.2.2.2.1 u_18.2.2.2.2.2.1 u_18.2.2.2.2.2.2.1 u_18.2.2.2.2.2.2.2.1 u_18.2.2.2.2.2.2.2.2 x14_3 f15 f16 f17 f18 f19)) [0, 1, 2, 3, 4, 5, 6, 7, 8, 9, 10, 11, 12, 13, 14, 15, 16, 17, 18, 19] (by decide) rfl
          clear hPc hDc hFc hP1 hK1 hD1
          generalize H1 = H at hP hS ⊢
          have e0 := Option.some.inj hF
          have q0 := Prod.mk.inj e0
          have q1 := Prod.mk.inj q0.2
          have q2 := Prod.mk.inj q1.2
          have q3 := Prod.mk.inj q2.2
          have q4 := Prod.mk.inj q3.2
          have q5 := Prod.mk.inj q4.2
          have q6 := Prod.mk.inj q5.2
          have q7 := Prod.mk.inj q6.2
          exact W.vret hx hb hr (fun t ht hW => ⟨⟨(), rfl, trivial, by rw [ht, ← q0.1, ← q1.1, ← q2.1, ← q3.1, ← q4.1, ← q5.1, ← q6.1, ← q7.1, ← q7.2]; exact hP, va_K.moved hW.alike hK, (by rw [← q0.1, ← q1.1, ← q2.1, ← q3.1, ← q4.1, ← q5.1, ← q6.1, ← q7.1, ← q7.2]; exact hD)⟩, hS.F ht⟩) hS.2.2 d_Search_explore_223 hlocks
def S_Search_explore (Kf : Int32 → Int32 → Int32 → Int32 → Int32 → Int32 → Int32 → Int32 → Int32 → Int32 → (Nat → Int32) → Int32 → (Nat → Int32) → (Nat → Int32) → (Nat → Int32) → (Nat → Int32) → (Nat → Int32) → (Nat → Int32) → (Nat → Int32) → Int32 → (Nat → Int32) → (Nat → Int32) → (Nat → Int32) → (Nat → Int32) → (Nat → Int32) → Option (Int32 × Int32 × Int32 × (Nat → Int32) × (Nat → Int32) × (Nat → Int32) × (Nat → Int32) × (Nat → Int32) × (Nat → Int32))) (p1 : Int32) (p2 : Int32) (p3 : Int32) (p4 : Int32) (p5 : Int32) (x0_5 : Int32) (x0_6 : Int32) (x0_7 : Int32) (x2_3 : Int32) (x2_4 : Int32) (f3 : (Nat → Int32)) (x5_2 : Int32) (f6 : (Nat → Int32)) (f7 : (Nat → Int32)) (f8 : (Nat → Int32)) (f9 : (Nat → Int32)) (f10 : (Nat → Int32)) (f11 : (Nat → Int32)) (f13 : (Nat → Int32)) (x14_3 : Int32) (f15 : (Nat → Int32)) (f16 : (Nat → Int32)) (f17 : (Nat → Int32)) (f18 : (Nat → Int32)) (f19 : (Nat → Int32)) : Option (Int32 × Int32 × Int32 × (Nat → Int32) × (Nat → Int32) × (Nat → Int32) × (Nat → Int32) × (Nat → Int32) × (Nat → Int32)) := (if 6 ≤ p1 then (some (x0_7, x2_3, x2_4, f3, f8, f9, f10, f11, f13)) else (if p4 ≤ 0 then (some (x0_7, x2_3, x2_4, f3, f8, f9, f10, f11, f13)) else (if x0_7 = 0 then (if p1 ≤ 0 then (F_Search_explore Kf x0_5 x0_6 x5_2 f6 f7 x14_3 f15 f16 f17 f18 f19 fuel_ 0 p1 p2 p3 p4 p5 0 0 0 x0_7 x2_3 x2_4 f3 f8 f9 f10 f11 f13) else (if ((p1 - 1) : Int32) < 0 ∨ 6 ≤ (Int32.toNatClampNeg (p1 - 1)) then none else (if ¬ (f3 (Int32.toNatClampNeg (p1 - 1))) = 6 then (F_Search_explore Kf x0_5 x0_6 x5_2 f6 f7 x14_3 f15 f16 f17 f18 f19 fuel_ 0 p1 p2 p3 p4 p5 0 0 0 x0_7 x2_3 x2_4 f3 f8 f9 f10 f11 f13) else (F_Search_explore Kf x0_5 x0_6 x5_2 f6 f7 x14_3 f15 f16 f17 f18 f19 fuel_ 0 p1 p2 p3 p4 p5 1 0 0 x0_7 x2_3 x2_4 f3 f8 f9 f10 f11 f13)))) else (some (x0_7, x2_3, x2_4, f3, f8, f9, f10, f11, f13)))))
set_option maxHeartbeats 4000000 in
set_option maxRecDepth 100000 in
theorem c_Search_explore (l : Launch) (dC : Nat → ClassId) (dI : Nat → Nat → Nat) (kA : Nat → ClassId) (sz : Nat) (a0 a1 a2 a3 a4 a5 a6 a7 a8 a9 a10 a11 a12 a13 a14 a15 a16 a17 a18 a19 : Nat) (v2_5 v5_1 v12_2 v12_3 v12_4 v12_5 v12_6 v14_0 v14_4 : Value) (p1 : Int32) (p2 : Int32) (p3 : Int32) (p4 : Int32) (p5 : Int32) (x0_5 : Int32) (x0_6 : Int32) (x0_7 : Int32) (x2_3 : Int32) (x2_4 : Int32) (f3 : (Nat → Int32)) (x5_2 : Int32) (f6 : (Nat → Int32)) (f7 : (Nat → Int32)) (f8 : (Nat → Int32)) (f9 : (Nat → Int32)) (f10 : (Nat → Int32)) (f11 : (Nat → Int32)) (f13 : (Nat → Int32)) (x14_3 : Int32) (f15 : (Nat → Int32)) (f16 : (Nat → Int32)) (f17 : (Nat → Int32)) (f18 : (Nat → Int32)) (f19 : (Nat → Int32)) (ox0_7 : Int32) (ox2_3 : Int32) (ox2_4 : Int32) (of3 : (Nat → Int32)) (of8 : (Nat → Int32)) (of9 : (Nat → Int32)) (of10 : (Nat → Int32)) (of11 : (Nat → Int32)) (of13 : (Nat → Int32)) (fr lo : Nat) (rf : Room) (Kf : Int32 → Int32 → Int32 → Int32 → Int32 → Int32 → Int32 → Int32 → Int32 → Int32 → (Nat → Int32) → Int32 → (Nat → Int32) → (Nat → Int32) → (Nat → Int32) → (Nat → Int32) → (Nat → Int32) → (Nat → Int32) → (Nat → Int32) → Int32 → (Nat → Int32) → (Nat → Int32) → (Nat → Int32) → (Nat → Int32) → (Nat → Int32) → Option (Int32 × Int32 × Int32 × (Nat → Int32) × (Nat → Int32) × (Nat → Int32) × (Nat → Int32) × (Nat → Int32) × (Nat → Int32))) (hfr : 3 ≤ fr) (hlo : 108 ≤ lo) (hR1 : rf.frames + 1 ≤ fr) (hR2 : 8 + (6 + 11) + rf.locals ≤ lo) (hrc : rf.cells = 0) (hrs : rf.slots = 0) (hKf : ∀ (sz : Nat) (a0 a1 a2 a3 a4 a5 a6 a7 a8 a9 a10 a11 a12 a13 a14 a15 a16 a17 a18 a19 : Nat) (v2_5 v5_1 v12_2 v12_3 v12_4 v12_5 v12_6 v14_0 v14_4 : Value) (p1 : Int32) (p2 : Int32) (p3 : Int32) (p4 : Int32) (p5 : Int32) (x0_5 : Int32) (x0_6 : Int32) (x0_7 : Int32) (x2_3 : Int32) (x2_4 : Int32) (f3 : (Nat → Int32)) (x5_2 : Int32) (f6 : (Nat → Int32)) (f7 : (Nat → Int32)) (f8 : (Nat → Int32)) (f9 : (Nat → Int32)) (f10 : (Nat → Int32)) (f11 : (Nat → Int32)) (f13 : (Nat → Int32)) (x14_3 : Int32) (f15 : (Nat → Int32)) (f16 : (Nat → Int32)) (f17 : (Nat → Int32)) (f18 : (Nat → Int32)) (f19 : (Nat → Int32)) (ox0_7 : Int32) (ox2_3 : Int32) (ox2_4 : Int32) (of3 : (Nat → Int32)) (of8 : (Nat → Int32)) (of9 : (Nat → Int32)) (of10 : (Nat → Int32)) (of11 : (Nat → Int32)) (of13 : (Nat → Int32)), Kf p1 p2 p3 p4 p5 x0_5 x0_6 x0_7 x2_3 x2_4 f3 x5_2 f6 f7 f8 f9 f10 f11 f13 x14_3 f15 f16 f17 f18 f19 = some (ox0_7, ox2_3, ox2_4, of3, of8, of9, of10, of11, of13) → Met l y_Search_follow w_Search_follow rf (va_Pc [.ref a0, .int p1, .int p2, .int p3, .int p4, .int p5] (fun U => U.heap.size = sz ∧ va_P (dC, dI) classes (wd_Search_follow kA a0 a1 a2 a3 a4 a5 a6 a7 a8 a9 a10 a11 a12 a13 a14 a15 a16 a17 a18 a19 v2_5 v5_1 v12_2 v12_3 v12_4 v12_5 v12_6 v14_0 v14_4 x0_5 x0_6 x0_7 x2_3 x2_4 f3 x5_2 f6 f7 f8 f9 f10 f11 f13 x14_3 f15 f16 f17 f18 f19) U.heap ∧ va_K (dC, dI) classes (tys_ kA) U ∧ va_D (fun _ => True) (wd_Search_follow kA a0 a1 a2 a3 a4 a5 a6 a7 a8 a9 a10 a11 a12 a13 a14 a15 a16 a17 a18 a19 v2_5 v5_1 v12_2 v12_3 v12_4 v12_5 v12_6 v14_0 v14_4 x0_5 x0_6 x0_7 x2_3 x2_4 f3 x5_2 f6 f7 f8 f9 f10 f11 f13 x14_3 f15 f16 f17 f18 f19))) (va_Qv (fun (_ : Unit) => True) (fun _ t => va_P (dC, dI) classes (wd_Search_follow kA a0 a1 a2 a3 a4 a5 a6 a7 a8 a9 a10 a11 a12 a13 a14 a15 a16 a17 a18 a19 v2_5 v5_1 v12_2 v12_3 v12_4 v12_5 v12_6 v14_0 v14_4 x0_5 x0_6 ox0_7 ox2_3 ox2_4 of3 x5_2 f6 f7 of8 of9 of10 of11 of13 x14_3 f15 f16 f17 f18 f19) t.heap ∧ va_K (dC, dI) classes (tys_ kA) t ∧ va_D (va_A (wd_Search_follow kA a0 a1 a2 a3 a4 a5 a6 a7 a8 a9 a10 a11 a12 a13 a14 a15 a16 a17 a18 a19 v2_5 v5_1 v12_2 v12_3 v12_4 v12_5 v12_6 v14_0 v14_4 x0_5 x0_6 x0_7 x2_3 x2_4 f3 x5_2 f6 f7 f8 f9 f10 f11 f13 x14_3 f15 f16 f17 f18 f19) sz) (wd_Search_follow kA a0 a1 a2 a3 a4 a5 a6 a7 a8 a9 a10 a11 a12 a13 a14 a15 a16 a17 a18 a19 v2_5 v5_1 v12_2 v12_3 v12_4 v12_5 v12_6 v14_0 v14_4 x0_5 x0_6 ox0_7 ox2_3 ox2_4 of3 x5_2 f6 f7 of8 of9 of10 of11 of13 x14_3 f15 f16 f17 f18 f19)) (va_A (wd_Search_follow kA a0 a1 a2 a3 a4 a5 a6 a7 a8 a9 a10 a11 a12 a13 a14 a15 a16 a17 a18 a19 v2_5 v5_1 v12_2 v12_3 v12_4 v12_5 v12_6 v14_0 v14_4 x0_5 x0_6 x0_7 x2_3 x2_4 f3 x5_2 f6 f7 f8 f9 f10 f11 f13 x14_3 f15 f16 f17 f18 f19) sz)) 0 0 (va_A (wd_Search_follow kA a0 a1 a2 a3 a4 a5 a6 a7 a8 a9 a10 a11 a12 a13 a14 a15 a16 a17 a18 a19 v2_5 v5_1 v12_2 v12_3 v12_4 v12_5 v12_6 v14_0 v14_4 x0_5 x0_6 x0_7 x2_3 x2_4 f3 x5_2 f6 f7 f8 f9 f10 f11 f13 x14_3 f15 f16 f17 f18 f19) sz)) (hF : S_Search_explore Kf p1 p2 p3 p4 p5 x0_5 x0_6 x0_7 x2_3 x2_4 f3 x5_2 f6 f7 f8 f9 f10 f11 f13 x14_3 f15 f16 f17 f18 f19 = some (ox0_7, ox2_3, ox2_4, of3, of8, of9, of10, of11, of13)) : Met l y_Search_explore w_Search_explore ({ frames := fr, cells := 0, slots := 0, locals := lo } : Room) (va_Pc [.ref a0, .int p1, .int p2, .int p3, .int p4, .int p5] (fun U => U.heap.size = sz ∧ va_P (dC, dI) classes (wd_Search_explore kA a0 a1 a2 a3 a4 a5 a6 a7 a8 a9 a10 a11 a12 a13 a14 a15 a16 a17 a18 a19 v2_5 v5_1 v12_2 v12_3 v12_4 v12_5 v12_6 v14_0 v14_4 x0_5 x0_6 x0_7 x2_3 x2_4 f3 x5_2 f6 f7 f8 f9 f10 f11 f13 x14_3 f15 f16 f17 f18 f19) U.heap ∧ va_K (dC, dI) classes (tys_ kA) U ∧ va_D (fun _ => True) (wd_Search_explore kA a0 a1 a2 a3 a4 a5 a6 a7 a8 a9 a10 a11 a12 a13 a14 a15 a16 a17 a18 a19 v2_5 v5_1 v12_2 v12_3 v12_4 v12_5 v12_6 v14_0 v14_4 x0_5 x0_6 x0_7 x2_3 x2_4 f3 x5_2 f6 f7 f8 f9 f10 f11 f13 x14_3 f15 f16 f17 f18 f19))) (va_Qv (fun (_ : Unit) => True) (fun _ t => va_P (dC, dI) classes (wd_Search_explore kA a0 a1 a2 a3 a4 a5 a6 a7 a8 a9 a10 a11 a12 a13 a14 a15 a16 a17 a18 a19 v2_5 v5_1 v12_2 v12_3 v12_4 v12_5 v12_6 v14_0 v14_4 x0_5 x0_6 ox0_7 ox2_3 ox2_4 of3 x5_2 f6 f7 of8 of9 of10 of11 of13 x14_3 f15 f16 f17 f18 f19) t.heap ∧ va_K (dC, dI) classes (tys_ kA) t ∧ va_D (va_A (wd_Search_explore kA a0 a1 a2 a3 a4 a5 a6 a7 a8 a9 a10 a11 a12 a13 a14 a15 a16 a17 a18 a19 v2_5 v5_1 v12_2 v12_3 v12_4 v12_5 v12_6 v14_0 v14_4 x0_5 x0_6 x0_7 x2_3 x2_4 f3 x5_2 f6 f7 f8 f9 f10 f11 f13 x14_3 f15 f16 f17 f18 f19) sz) (wd_Search_explore kA a0 a1 a2 a3 a4 a5 a6 a7 a8 a9 a10 a11 a12 a13 a14 a15 a16 a17 a18 a19 v2_5 v5_1 v12_2 v12_3 v12_4 v12_5 v12_6 v14_0 v14_4 x0_5 x0_6 ox0_7 ox2_3 ox2_4 of3 x5_2 f6 f7 of8 of9 of10 of11 of13 x14_3 f15 f16 f17 f18 f19)) (va_A (wd_Search_explore kA a0 a1 a2 a3 a4 a5 a6 a7 a8 a9 a10 a11 a12 a13 a14 a15 a16 a17 a18 a19 v2_5 v5_1 v12_2 v12_3 v12_4 v12_5 v12_6 v14_0 v14_4 x0_5 x0_6 x0_7 x2_3 x2_4 f3 x5_2 f6 f7 f8 f9 f10 f11 f13 x14_3 f15 f16 f17 f18 f19) sz)) 0 0 (va_A (wd_Search_explore kA a0 a1 a2 a3 a4 a5 a6 a7 a8 a9 a10 a11 a12 a13 a14 a15 a16 a17 a18 a19 v2_5 v5_1 v12_2 v12_3 v12_4 v12_5 v12_6 v14_0 v14_4 x0_5 x0_6 x0_7 x2_3 x2_4 f3 x5_2 f6 f7 f8 f9 f10 f11 f13 x14_3 f15 f16 f17 f18 f19) sz) := by
  refine Met.ofW (cc := b_Search_explore) (maxL := 9) (ret := none) (by decide) rfl ?_
  intro p e s m args below meth c s₁ B hml hv
  obtain ⟨rfl, hsz, hP, hK, hD0⟩ := hv
  have hx := B.exec
  have hb := B.bytes
  have hr := B.returns
  have hts := atoms_spec (ws := w_Search_explore) B.pre
  have hown : s.vm.findClass R_Search = some m.cls := findClass_of_methodNamed B.named
  have hg := fun (w : Cond) (h : w ∈ gw) => hts w (List.mem_cons_of_mem _ h)
  have hlocks := B.notSynchronized
  subst hsz
  have hD := hD0.self (sz := s.heap.size)
  generalize hAe : va_A (wd_Search_explore kA a0 a1 a2 a3 a4 a5 a6 a7 a8 a9 a10 a11 a12 a13 a14 a15 a16 a17 a18 a19 v2_5 v5_1 v12_2 v12_3 v12_4 v12_5 v12_6 v14_0 v14_4 x0_5 x0_6 x0_7 x2_3 x2_4 f3 x5_2 f6 f7 f8 f9 f10 f11 f13 x14_3 f15 f16 f17 f18 f19) s.heap.size = A at hD ⊢
  have hA : ∀ q : Nat, s.heap.size ≤ q → A q := fun q h => by rw [← hAe]; exact Or.inr h
  have hS : va_S A s.heap s.heap [] := va_S.rf
  have hl := lv_entry ([.ref a0, .int p1, .int p2, .int p3, .int p4, .int p5]) (n := 9) (Nat.le_of_ble_eq_true rfl)
  rw [lg_entry_eq]
  generalize (lg_sl ([.ref a0, .int p1, .int p2, .int p3, .int p4, .int p5]) ++ List.replicate (9 - (lg_sl ([.ref a0, .int p1, .int p2, .int p3, .int p4, .int p5])).length) Slot.unset).toArray = ls at hl ⊢
  have hl : lv_has ls 9 [(0, .ref a0), (1, .int p1), (2, .int p2), (3, .int p3), (4, .int p4), (5, .int p5)] := hl
  unfold S_Search_explore at hF
  have ih := L_Search_explore (l := l) (e := e) (below := below) hx hb hr hlocks hml hown hts hA hK a0 a1 a2 a3 a4 a5 a6 a7 a8 a9 a10 a11 a12 a13 a14 a15 a16 a17 a18 a19 v2_5 v5_1 v12_2 v12_3 v12_4 v12_5 v12_6 v14_0 v14_4 x0_5 x0_6 x5_2 f6 f7 x14_3 f15 f16 f17 f18 f19 ox0_7 ox2_3 ox2_4 of3 of8 of9 of10 of11 of13 fr lo rf Kf hfr hlo hR1 hR2 hrc hrs hKf fuel_
  refine lv_iload_n hx hb d_Search_explore_0 rfl (lv_at hl 1 rfl) ?_
  refine lv_bipush (v := 6) hx hb d_Search_explore_1 (by decide) ?_
  refine lv_icmp_ge (tgt := 18) hx hb d_Search_explore_3 (by decide) (fun c_19 => ?_) (fun c_19 => ?_)
  · rw [if_pos c_19] at hF
    have e0 := Option.some.inj hF
    have q0 := Prod.mk.inj e0
    have q1 := Prod.mk.inj q0.2
    have q2 := Prod.mk.inj q1.2
    have q3 := Prod.mk.inj q2.2
    have q4 := Prod.mk.inj q3.2
    have q5 := Prod.mk.inj q4.2
    have q6 := Prod.mk.inj q5.2
    have q7 := Prod.mk.inj q6.2
    exact W.vret hx hb hr (fun t ht hW => ⟨⟨(), rfl, trivial, by rw [ht, ← q0.1, ← q1.1, ← q2.1, ← q3.1, ← q4.1, ← q5.1, ← q6.1, ← q7.1, ← q7.2]; exact hP, va_K.moved hW.alike hK, (by rw [← q0.1, ← q1.1, ← q2.1, ← q3.1, ← q4.1, ← q5.1, ← q6.1, ← q7.1, ← q7.2]; exact hD)⟩, hS.F ht⟩) hS.2.2 d_Search_explore_18 hlocks
  · rw [if_neg c_19] at hF
    refine lv_iload hx hb d_Search_explore_6 (lv_at hl 4 rfl) ?_
    refine lv_if_le (tgt := 18) hx hb d_Search_explore_8 (by decide) (fun c_20 => ?_) (fun c_20 => ?_)
    · rw [if_pos c_20] at hF
      have e0 := Option.some.inj hF
      have q0 := Prod.mk.inj e0
      have q1 := Prod.mk.inj q0.2
      have q2 := Prod.mk.inj q1.2
      have q3 := Prod.mk.inj q2.2
      have q4 := Prod.mk.inj q3.2
      have q5 := Prod.mk.inj q4.2
      have q6 := Prod.mk.inj q5.2
      have q7 := Prod.mk.inj q6.2
      exact W.vret hx hb hr (fun t ht hW => ⟨⟨(), rfl, trivial, by rw [ht, ← q0.1, ← q1.1, ← q2.1, ← q3.1, ← q4.1, ← q5.1, ← q6.1, ← q7.1, ← q7.2]; exact hP, va_K.moved hW.alike hK, (by rw [← q0.1, ← q1.1, ← q2.1, ← q3.1, ← q4.1, ← q5.1, ← q6.1, ← q7.1, ← q7.2]; exact hD)⟩, hS.F ht⟩) hS.2.2 d_Search_explore_18 hlocks
    · rw [if_neg c_20] at hF
      refine lv_aload_n hx hb d_Search_explore_11 rfl (lv_at hl 0 rfl) ?_
      refine va_get (D := (dC, dI)) (ci := 4) (v := .int x0_7) (C := R_Search) (T := F_Search) (N := 8) hx hb hg iw_Search hown hK hP 0 rfl rfl 7 (by decide) (hg _ gw_143) (fun _ h9 => h9) rfl d_Search_explore_12 ?_
      refine lv_if_eq (tgt := 19) hx hb d_Search_explore_15 (by decide) (fun c_21 => ?_) (fun c_21 => ?_)
      · rw [if_pos c_21] at hF
        refine lv_iload_n hx hb d_Search_explore_19 rfl (lv_at hl 1 rfl) ?_
        refine lv_if_le (tgt := 40) hx hb d_Search_explore_20 (by decide) (fun c_22 => ?_) (fun c_22 => ?_)
        · rw [if_pos c_22] at hF
          refine lv_iconst (v := 0) hx hb d_Search_explore_40 (by decide) ?_
          refine lv_istore (lv' := [(6, .int 0), (0, .ref a0), (1, .int p1), (2, .int p2), (3, .int p3), (4, .int p4), (5, .int p5)]) hx hb d_Search_explore_41 hl (by decide) rfl (fun ls hl => ?_)
          refine lv_iconst (v := 0) hx hb d_Search_explore_43 (by decide) ?_
          refine lv_istore (lv' := [(7, .int 0), (6, .int 0), (0, .ref a0), (1, .int p1), (2, .int p2), (3, .int p3), (4, .int p4), (5, .int p5)]) hx hb d_Search_explore_44 hl (by decide) rfl (fun ls hl => ?_)
          exact ih.1 p1 p2 p3 p4 p5 0 0 0 x0_7 x2_3 x2_4 f3 f8 f9 f10 f11 f13 hF _ _ _ hP hD hS (lv_sub hl [2, 3, 4, 5, 6, 7, 1, 0] rfl)
        · rw [if_neg c_22] at hF
          refine lv_aload_n hx hb d_Search_explore_23 rfl (lv_at hl 0 rfl) ?_
          refine va_get (D := (dC, dI)) (ci := 4) (v := .ref a3) (C := R_Search) (T := F_Search) (N := 8) hx hb hg iw_Search hown hK hP 0 rfl rfl 4 (by decide) (hg _ gw_145) (fun _ h9 => h9) rfl d_Search_explore_24 ?_
          refine lv_iload_n hx hb d_Search_explore_27 rfl (lv_at hl 1 rfl) ?_
          refine lv_iconst (v := 1) hx hb d_Search_explore_28 (by decide) ?_
          refine lv_isub hx hb d_Search_explore_29 ?_
          obtain ⟨h_23, hF⟩ := rd_chk hF
          refine va_iald hx hb hK hP 3 0 rfl rfl h_23 d_Search_explore_30 ?_
          refine lv_bipush (v := 6) hx hb d_Search_explore_31 (by decide) ?_
          refine lv_icmp_ne (tgt := 40) hx hb d_Search_explore_33 (by decide) (fun c_24 => ?_) (fun c_24 => ?_)
          · rw [if_pos c_24] at hF
            refine lv_iconst (v := 0) hx hb d_Search_explore_40 (by decide) ?_
            refine lv_istore (lv' := [(6, .int 0), (0, .ref a0), (1, .int p1), (2, .int p2), (3, .int p3), (4, .int p4), (5, .int p5)]) hx hb d_Search_explore_41 hl (by decide) rfl (fun ls hl => ?_)
            refine lv_iconst (v := 0) hx hb d_Search_explore_43 (by decide) ?_
            refine lv_istore (lv' := [(7, .int 0), (6, .int 0), (0, .ref a0), (1, .int p1), (2, .int p2), (3, .int p3), (4, .int p4), (5, .int p5)]) hx hb d_Search_explore_44 hl (by decide) rfl (fun ls hl => ?_)
            exact ih.1 p1 p2 p3 p4 p5 0 0 0 x0_7 x2_3 x2_4 f3 f8 f9 f10 f11 f13 hF _ _ _ hP hD hS (lv_sub hl [2, 3, 4, 5, 6, 7, 1, 0] rfl)
          · rw [if_neg (fun z => z c_24)] at hF
            refine lv_iconst (v := 1) hx hb d_Search_explore_36 (by decide) ?_
            refine lv_goto (tgt := 41) hx hb d_Search_explore_37 (by decide) ?_
            refine lv_istore (lv' := [(6, .int 1), (0, .ref a0), (1, .int p1), (2, .int p2), (3, .int p3), (4, .int p4), (5, .int p5)]) hx hb d_Search_explore_41 hl (by decide) rfl (fun ls hl => ?_)
            refine lv_iconst (v := 0) hx hb d_Search_explore_43 (by decide) ?_
            refine lv_istore (lv' := [(7, .int 0), (6, .int 1), (0, .ref a0), (1, .int p1), (2, .int p2), (3, .int p3), (4, .int p4), (5, .int p5)]) hx hb d_Search_explore_44 hl (by decide) rfl (fun ls hl => ?_)
            exact ih.1 p1 p2 p3 p4 p5 1 0 0 x0_7 x2_3 x2_4 f3 f8 f9 f10 f11 f13 hF _ _ _ hP hD hS (lv_sub hl [2, 3, 4, 5, 6, 7, 1, 0] rfl)
      · rw [if_neg c_21] at hF
        have e0 := Option.some.inj hF
        have q0 := Prod.mk.inj e0
        have q1 := Prod.mk.inj q0.2
        have q2 := Prod.mk.inj q1.2
        have q3 := Prod.mk.inj q2.2
        have q4 := Prod.mk.inj q3.2
        have q5 := Prod.mk.inj q4.2
        have q6 := Prod.mk.inj q5.2
        have q7 := Prod.mk.inj q6.2
        exact W.vret hx hb hr (fun t ht hW => ⟨⟨(), rfl, trivial, by rw [ht, ← q0.1, ← q1.1, ← q2.1, ← q3.1, ← q4.1, ← q5.1, ← q6.1, ← q7.1, ← q7.2]; exact hP, va_K.moved hW.alike hK, (by rw [← q0.1, ← q1.1, ← q2.1, ← q3.1, ← q4.1, ← q5.1, ← q6.1, ← q7.1, ← q7.2]; exact hD)⟩, hS.F ht⟩) hS.2.2 d_Search_explore_18 hlocks
-- ===== RepairDesk$Search.findBest(I)Z
abbrev wd_Search_findBest (kA : Nat → ClassId) (a0 a1 a2 a3 a4 a5 a6 a7 a8 a9 a10 a11 a12 a13 a14 a15 a16 a17 a18 a19 : Nat) (v5_1 v12_2 v12_3 v12_4 v12_5 v12_6 v14_0 v14_4 : Value) (x0_5 : Int32) (x0_6 : Int32) (x0_7 : Int32) (x2_3 : Int32) (x2_4 : Int32) (x2_5 : Int32) (f3 : (Nat → Int32)) (x5_2 : Int32) (f6 : (Nat → Int32)) (f7 : (Nat → Int32)) (f8 : (Nat → Int32)) (f9 : (Nat → Int32)) (f10 : (Nat → Int32)) (f11 : (Nat → Int32)) (f13 : (Nat → Int32)) (x14_3 : Int32) (f15 : (Nat → Int32)) (f16 : (Nat → Int32)) (f17 : (Nat → Int32)) (f18 : (Nat → Int32)) (f19 : (Nat → Int32)) : va_W := [(a0, .inr (4, [.ref a4, .ref a5, .ref a1, .ref a2, .ref a3, .int x0_5, .int x0_6, .int x0_7])), (a1, .inr (0, [.ref a6, .ref a7])), (a2, .inr (1, [.ref a10, .ref a8, .ref a9, .int x2_3, .int x2_4, .int x2_5])), (a3, .inl (kA 0, 6, .inl f3)), (a4, .inr (5, [.ref a12, .ref a14, .ref a11, .ref a13])), (a5, .inr (7, [.ref a15, v5_1, .int x5_2])), (a6, .inl (kA 0, 6, .inl f6)), (a7, .inl (kA 0, 6, .inl f7)), (a8, .inl (kA 0, 40, .inl f8)), (a9, .inl (kA 0, 40, .inl f9)), (a10, .inl (kA 0, 240, .inl f10)), (a11, .inl (kA 0, 4096, .inl f11)), (a12, .inr (2, [.ref a16, .ref a17, v12_2, v12_3, v12_4, v12_5, v12_6])), (a13, .inl (kA 0, 8, .inl f13)), (a14, .inr (6, [v14_0, .ref a19, .ref a18, .int x14_3, v14_4])), (a15, .inl (kA 0, 16, .inl f15)), (a16, .inl (kA 0, 12, .inl f16)), (a17, .inl (kA 0, 12, .inl f17)), (a18, .inl (kA 0, 280, .inl f18)), (a19, .inl (kA 0, 480, .inl f19))]
abbrev rm_Search_findBest : Room := { frames := 4, cells := 0, slots := 0, locals := 136 }
def B_Search_findBest_0 (K : Nat → Int32 → Int32 → Int32 → Int32 → Int32 → Int32 → Int32 → Int32 → Int32 → (Nat → Int32) → (Nat → Int32) → (Nat → Int32) → (Nat → Int32) → (Nat → Int32) → (Nat → Int32) → Option (Int32 × Int32 × Int32 × Int32 × Int32 × Int32 × Int32 × (Nat → Int32) × (Nat → Int32) × (Nat → Int32) × (Nat → Int32) × (Nat → Int32) × (Nat → Int32))) (x5_2 : Int32) (f6 : (Nat → Int32)) (f7 : (Nat → Int32)) (x14_3 : Int32) (f15 : (Nat → Int32)) (f16 : (Nat → Int32)) (f17 : (Nat → Int32)) (f18 : (Nat → Int32)) (f19 : (Nat → Int32)) (l1 : Int32) (l2 : Int32) (l3 : Int32) (x0_5 : Int32) (x0_6 : Int32) (x0_7 : Int32) (x2_3 : Int32) (x2_4 : Int32) (x2_5 : Int32) (f3 : (Nat → Int32)) (f8 : (Nat → Int32)) (f9 : (Nat → Int32)) (f10 : (Nat → Int32)) (f11 : (Nat → Int32)) (f13 : (Nat → Int32)) : Option (Int32 × Int32 × Int32 × Int32 × Int32 × Int32 × Int32 × (Nat → Int32) × (Nat → Int32) × (Nat → Int32) × (Nat → Int32) × (Nat → Int32) × (Nat → Int32)) := (if 3 < l3 then (if ¬ x0_7 = 0 then (some (0, x0_5, x0_6, x0_7, x2_3, x2_4, x2_5, f3, f8, f9, f10, f11, f13)) else (some (1, x0_5, x0_6, x0_7, x2_3, x2_4, x2_5, f3, f8, f9, f10, f11, f13))) else ((S_Finds_size x2_3).bind fun u_3 => (if ¬ u_3 = 0 then (if ¬ x0_7 = 0 then (some (0, x0_5, x0_6, x0_7, x2_3, x2_4, x2_5, f3, f8, f9, f10, f11, f13)) else (some (1, x0_5, x0_6, x0_7, x2_3, x2_4, x2_5, f3, f8, f9, f10, f11, f13))) else ((S_Search_explore 0 0 l2 l3 0 x0_5 l3 x0_7 x2_3 x2_4 f3 x5_2 f6 f7 f8 f9 f10 f11 f13 x14_3 f15 f16 f17 f18 f19).bind fun u_6 => (K 0 l1 l2 (l3 + 1) x0_5 l3 u_6.1 u_6.2.1 u_6.2.2.1 x2_5 u_6.2.2.2.1 u_6.2.2.2.2.1 u_6.2.2.2.2.2.1 u_6.2.2.2.2.2.2.1 u_6.2.2.2.2.2.2.2.1 u_6.2.2.2.2.2.2.2.2)))))
def F_Search_findBest (x5_2 : Int32) (f6 : (Nat → Int32)) (f7 : (Nat → Int32)) (x14_3 : Int32) (f15 : (Nat → Int32)) (f16 : (Nat → Int32)) (f17 : (Nat → Int32)) (f18 : (Nat → Int32)) (f19 : (Nat → Int32)) : Nat → Nat → Int32 → Int32 → Int32 → Int32 → Int32 → Int32 → Int32 → Int32 → Int32 → (Nat → Int32) → (Nat → Int32) → (Nat → Int32) → (Nat → Int32) → (Nat → Int32) → (Nat → Int32) → Option (Int32 × Int32 × Int32 × Int32 × Int32 × Int32 × Int32 × (Nat → Int32) × (Nat → Int32) × (Nat → Int32) × (Nat → Int32) × (Nat → Int32) × (Nat → Int32))
  | 0 => fun _ _ _ _ _ _ _ _ _ _ _ _ _ _ _ _ => none
  | n + 1 => fun hd l1 l2 l3 x0_5 x0_6 x0_7 x2_3 x2_4 x2_5 f3 f8 f9 f10 f11 f13 => match hd with
    | 0 => B_Search_findBest_0 (F_Search_findBest x5_2 f6 f7 x14_3 f15 f16 f17 f18 f19 n) x5_2 f6 f7 x14_3 f15 f16 f17 f18 f19 l1 l2 l3 x0_5 x0_6 x0_7 x2_3 x2_4 x2_5 f3 f8 f9 f10 f11 f13
    | _ => none
set_option maxHeartbeats 4000000 in
set_option maxRecDepth 100000 in
theorem L_Search_findBest {p : Program} {l : Launch} {e : Env} {s : State} {m : MethodId} {args : Array Value} {below : List Frame} {meth : Method} {c : Code} {A : Nat → Prop} {dC : Nat → ClassId} {dI : Nat → Nat → Nat} {kA : Nat → ClassId} (hx : p.tables.exec = Jvm.exec) (hb : c.code = b_Search_findBest) (hr : meth.sig.returnType = some .boolean) (hlocks : meth.locks = false) (hml : c.maxLocals = 4) (hown : s.vm.findClass R_Search = some m.cls) (hts : ∀ w ∈ w_Search_findBest, w.before args s = true) (hA : ∀ q : Nat, s.heap.size ≤ q → A q) (hK : va_K (dC, dI) classes (tys_ kA) s) (a0 a1 a2 a3 a4 a5 a6 a7 a8 a9 a10 a11 a12 a13 a14 a15 a16 a17 a18 a19 : Nat) (v5_1 v12_2 v12_3 v12_4 v12_5 v12_6 v14_0 v14_4 : Value) (x5_2 : Int32) (f6 : (Nat → Int32)) (f7 : (Nat → Int32)) (x14_3 : Int32) (f15 : (Nat → Int32)) (f16 : (Nat → Int32)) (f17 : (Nat → Int32)) (f18 : (Nat → Int32)) (f19 : (Nat → Int32)) (r : Int32) (ox0_5 : Int32) (ox0_6 : Int32) (ox0_7 : Int32) (ox2_3 : Int32) (ox2_4 : Int32) (ox2_5 : Int32) (of3 : (Nat → Int32)) (of8 : (Nat → Int32)) (of9 : (Nat → Int32)) (of10 : (Nat → Int32)) (of11 : (Nat → Int32)) (of13 : (Nat → Int32)) : ∀ n : Nat, (∀ (l1 l2 l3 : Int32) (x0_5 : Int32) (x0_6 : Int32) (x0_7 : Int32) (x2_3 : Int32) (x2_4 : Int32) (x2_5 : Int32) (f3 : (Nat → Int32)) (f8 : (Nat → Int32)) (f9 : (Nat → Int32)) (f10 : (Nat → Int32)) (f11 : (Nat → Int32)) (f13 : (Nat → Int32)), F_Search_findBest x5_2 f6 f7 x14_3 f15 f16 f17 f18 f19 n 0 l1 l2 l3 x0_5 x0_6 x0_7 x2_3 x2_4 x2_5 f3 f8 f9 f10 f11 f13 = some (r, ox0_5, ox0_6, ox0_7, ox2_3, ox2_4, ox2_5, of3, of8, of9, of10, of11, of13) → ∀ (H : Heap) (locs : List Loc) (ls : Array Slot), va_P (dC, dI) classes (wd_Search_findBest kA a0 a1 a2 a3 a4 a5 a6 a7 a8 a9 a10 a11 a12 a13 a14 a15 a16 a17 a18 a19 v5_1 v12_2 v12_3 v12_4 v12_5 v12_6 v14_0 v14_4 x0_5 x0_6 x0_7 x2_3 x2_4 x2_5 f3 x5_2 f6 f7 f8 f9 f10 f11 f13 x14_3 f15 f16 f17 f18 f19) H → va_D A (wd_Search_findBest kA a0 a1 a2 a3 a4 a5 a6 a7 a8 a9 a10 a11 a12 a13 a14 a15 a16 a17 a18 a19 v5_1 v12_2 v12_3 v12_4 v12_5 v12_6 v14_0 v14_4 x0_5 x0_6 x0_7 x2_3 x2_4 x2_5 f3 x5_2 f6 f7 f8 f9 f10 f11 f13 x14_3 f15 f16 f17 f18 f19) → va_S A s.heap H locs → lv_has ls 4 [(0, .ref a0), (1, .int l1), (2, .int l2), (3, .int l3)] → W p l e (headSpec w_Search_findBest rm_Search_findBest).room s m args below meth c H locs 0 0 (MQ below (va_Qi (fun (r1 : Int32) (_ : Unit) => r1 = r) (fun _ t => va_P (dC, dI) classes (wd_Search_findBest kA a0 a1 a2 a3 a4 a5 a6 a7 a8 a9 a10 a11 a12 a13 a14 a15 a16 a17 a18 a19 v5_1 v12_2 v12_3 v12_4 v12_5 v12_6 v14_0 v14_4 ox0_5 ox0_6 ox0_7 ox2_3 ox2_4 ox2_5 of3 x5_2 f6 f7 of8 of9 of10 of11 of13 x14_3 f15 f16 f17 f18 f19) t.heap ∧ va_K (dC, dI) classes (tys_ kA) t ∧ va_D A (wd_Search_findBest kA a0 a1 a2 a3 a4 a5 a6 a7 a8 a9 a10 a11 a12 a13 a14 a15 a16 a17 a18 a19 v5_1 v12_2 v12_3 v12_4 v12_5 v12_6 v14_0 v14_4 ox0_5 ox0_6 ox0_7 ox2_3 ox2_4 ox2_5 of3 x5_2 f6 f7 of8 of9 of10 of11 of13 x14_3 f15 f16 f17 f18 f19)) A) args s 0 0 A) (F0 m 38 ls [])) := by
  have hg := fun (w : Cond) (h : w ∈ gw) => hts w (List.mem_cons_of_mem _ h)
  intro n
  induction n with
  | zero =>
    exact fun _ _ _ _ _ _ _ _ _ _ _ _ _ _ _ hF => absurd (show (none : Option _) = some _ from hF) (fun z => by cases z)
  | succ n ih =>
    intro l1 l2 l3 x0_5 x0_6 x0_7 x2_3 x2_4 x2_5 f3 f8 f9 f10 f11 f13 hF H locs ls hP hD hS hl
    have hF : B_Search_findBest_0 (F_Search_findBest x5_2 f6 f7 x14_3 f15 f16 f17 f18 f19 n) x5_2 f6 f7 x14_3 f15 f16 f17 f18 f19 l1 l2 l3 x0_5 x0_6 x0_7 x2_3 x2_4 x2_5 f3 f8 f9 f10 f11 f13 = some (r, ox0_5, ox0_6, ox0_7, ox2_3, ox2_4, ox2_5, of3, of8, of9, of10, of11, of13) := hF
    unfold B_Search_findBest_0 at hF
    refine lv_iload_n hx hb d_Search_findBest_38 rfl (lv_at hl 3 rfl) ?_
    refine lv_iconst (v := 3) hx hb d_Search_findBest_39 (by decide) ?_
    refine lv_icmp_gt (tgt := 73) hx hb d_Search_findBest_40 (by decide) (fun c_1 => ?_) (fun c_1 => ?_)
    · rw [if_pos c_1] at hF
      refine lv_aload_n hx hb d_Search_findBest_73 rfl (lv_at hl 0 rfl) ?_
      refine va_get (D := (dC, dI)) (ci := 4) (v := .int x0_7) (C := R_Search) (T := F_Search) (N := 8) hx hb hg iw_Search hown hK hP 0 rfl rfl 7 (by decide) (hg _ gw_143) (fun _ h9 => h9) rfl d_Search_findBest_74 ?_
      refine lv_if_ne (tgt := 84) hx hb d_Search_findBest_77 (by decide) (fun c_2 => ?_) (fun c_2 => ?_)
      · rw [if_pos c_2] at hF
        refine lv_iconst (v := 0) hx hb d_Search_findBest_84 (by decide) ?_
        have e0 := Option.some.inj hF
        have q0 := Prod.mk.inj e0
        have q1 := Prod.mk.inj q0.2
        have q2 := Prod.mk.inj q1.2
        have q3 := Prod.mk.inj q2.2
        have q4 := Prod.mk.inj q3.2
        have q5 := Prod.mk.inj q4.2
        have q6 := Prod.mk.inj q5.2
        have q7 := Prod.mk.inj q6.2
        have q8 := Prod.mk.inj q7.2
        have q9 := Prod.mk.inj q8.2
        have q10 := Prod.mk.inj q9.2
        have q11 := Prod.mk.inj q10.2
        exact W.zret (v := 0) hx hb hr rfl (fun t ht hW => ⟨⟨0, (), rfl, q0.1, by rw [ht, ← q1.1, ← q2.1, ← q3.1, ← q4.1, ← q5.1, ← q6.1, ← q7.1, ← q8.1, ← q9.1, ← q10.1, ← q11.1, ← q11.2]; exact hP, va_K.moved hW.alike hK, (by rw [← q1.1, ← q2.1, ← q3.1, ← q4.1, ← q5.1, ← q6.1, ← q7.1, ← q8.1, ← q9.1, ← q10.1, ← q11.1, ← q11.2]; exact hD)⟩, hS.F ht⟩) hS.2.2 d_Search_findBest_85 hlocks
      · rw [if_neg (fun z => z c_2)] at hF
        refine lv_iconst (v := 1) hx hb d_Search_findBest_80 (by decide) ?_
        refine lv_goto (tgt := 85) hx hb d_Search_findBest_81 (by decide) ?_
        have e0 := Option.some.inj hF
        have q0 := Prod.mk.inj e0
        have q1 := Prod.mk.inj q0.2
        have q2 := Prod.mk.inj q1.2
        have q3 := Prod.mk.inj q2.2
        have q4 := Prod.mk.inj q3.2
        have q5 := Prod.mk.inj q4.2
        have q6 := Prod.mk.inj q5.2
        have q7 := Prod.mk.inj q6.2
        have q8 := Prod.mk.inj q7.2
        have q9 := Prod.mk.inj q8.2
        have q10 := Prod.mk.inj q9.2
        have q11 := Prod.mk.inj q10.2
        exact W.zret (v := 1) hx hb hr rfl (fun t ht hW => ⟨⟨1, (), rfl, q0.1, by rw [ht, ← q1.1, ← q2.1, ← q3.1, ← q4.1, ← q5.1, ← q6.1, ← q7.1, ← q8.1, ← q9.1, ← q10.1, ← q11.1, ← q11.2]; exact hP, va_K.moved hW.alike hK, (by rw [← q1.1, ← q2.1, ← q3.1, ← q4.1, ← q5.1, ← q6.1, ← q7.1, ← q8.1, ← q9.1, ← q10.1, ← q11.1, ← q11.2]; exact hD)⟩, hS.F ht⟩) hS.2.2 d_Search_findBest_85 hlocks
    · rw [if_neg c_1] at hF
      refine lv_aload_n hx hb d_Search_findBest_43 rfl (lv_at hl 0 rfl) ?_
      refine va_get (D := (dC, dI)) (ci := 4) (v := .ref a2) (C := R_Search) (T := F_Search) (N := 8) hx hb hg iw_Search hown hK hP 0 rfl rfl 3 (by decide) (hg _ gw_144) (fun _ h9 => h9) rfl d_Search_findBest_44 ?_
      obtain ⟨u_3, hS_3, hF⟩ := rd_bind hF
      have hPc := hP.sub (ws' := (wd_Finds_size kA a2 (.ref a10) (.ref a8) (.ref a9) (.int x2_4) (.int x2_5) x2_3)) [2] rfl
      have hDc := hD.sub (ws' := (wd_Finds_size kA a2 (.ref a10) (.ref a8) (.ref a9) (.int x2_4) (.int x2_5) x2_3)) [2] (by decide) rfl
      have hFc := va_free (wc := (wd_Finds_size kA a2 (.ref a10) (.ref a8) (.ref a9) (.int x2_4) (.int x2_5) x2_3)) hD hS hA [2] rfl
      refine va_calli (va_runV (As := []) (rest := []) ⟨hx, hb, hml, hown, hts⟩ (c_Finds_size l dC dI kA H.size a2 (.ref a10) (.ref a8) (.ref a9) (.int x2_4) (.int x2_5) x2_3 u_3 hS_3) (cwV 0 hts (gw_V gw_175 gw_176 gw_177 gw_11 gw_178) rfl rfl rfl (by decide +kernel) ⟨Nat.le_of_ble_eq_true rfl, Nat.le_of_ble_eq_true rfl⟩) ⟨fun a U g mk q => by obtain ⟨q0, q1, qP, qK, qD⟩ := q; exact ⟨q0, q1, qP, va_K.moved (u := U) (U := U.calling g mk a) (Vm.Alike.refl U.vm) qK, qD⟩, va_recv hK hP (ci := 1) (q0 := 2) rfl rfl, fun U hU hW => ⟨rfl, by rw [hU], by rw [hU]; exact hPc, va_K.moved hW.alike hK, hDc.weaken (fun _ _ _ _ => trivial)⟩⟩ rfl rfl hl.1 rfl (lv_room (Nat.le_of_ble_eq_true rfl)) d_Search_findBest_47 ⟨Nat.zero_le _, Nat.zero_le _⟩) hS (fun q _ h => hFc q h) hFc (fun r1 u t H1 locs ht hvm hw hB hz1 hk1 hS => ?_)
      rw [show r1 = _ from hw]
      obtain ⟨hP1, hK1, hD1⟩ := hB
      rw [ht] at hP1
      obtain ⟨hP, hD⟩ := va_join (wr := [(a0, .inr (4, [.ref a4, .ref a5, .ref a1, .ref a2, .ref a3, .int x0_5, .int x0_6, .int x0_7])), (a1, .inr (0, [.ref a6, .ref a7])), (a3, .inl (kA 0, 6, .inl f3)), (a4, .inr (5, [.ref a12, .ref a14, .ref a11, .ref a13])), (a5, .inr (7, [.ref a15, v5_1, .int x5_2])), (a6, .inl (kA 0, 6, .inl f6)), (a7, .inl (kA 0, 6, .inl f7)), (a8, .inl (kA 0, 40, .inl f8)), (a9, .inl (kA 0, 40, .inl f9)), (a10, .inl (kA 0, 240, .inl f10)), (a11, .inl (kA 0, 4096, .inl f11)), (a12, .inr (2, [.ref a16, .ref a17, v12_2, v12_3, v12_4, v12_5, v12_6])), (a13, .inl (kA 0, 8, .inl f13)), (a14, .inr (6, [v14_0, .ref a19, .ref a18, .int x14_3, v14_4])), (a15, .inl (kA 0, 16, .inl f15)), (a16, .inl (kA 0, 12, .inl f16)), (a17, .inl (kA 0, 12, .inl f17)), (a18, .inl (kA 0, 280, .inl f18)), (a19, .inl (kA 0, 480, .inl f19))]) (w1 := (wd_Finds_size kA a2 (.ref a10) (.ref a8) (.ref a9) (.int x2_4) (.int x2_5) x2_3)) hP hD [2] [0, 1, 3, 4, 5, 6, 7, 8, 9, 10, 11, 12, 13, 14, 15, 16, 17, 18, 19] rfl rfl (by decide) (by decide) hk1 hFc hP1 hD1
      have hP := hP.sub (ws' := (wd_Search_findBest kA a0 a1 a2 a3 a4 a5 a6 a7 a8 a9 a10 a11 a12 a13 a14 a15 a16 a17 a18 a19 v5_1 v12_2 v12_3 v12_4 v12_5 v12_6 v14_0 v14_4 x0_5 x0_6 x0_7 x2_3 x2_4 x2_5 f3 x5_2 f6 f7 f8 f9 f10 f11 f13 x14_3 f15 f16 f17 f18 f19)) [0, 1, 19, 2, 3, 4, 5, 6, 7, 8, 9, 10, 11, 12, 13, 14, 15, 16, 17, 18] rfl
      have hD := hD.sub (ws' := (wd_Search_findBest kA a0 a1 a2 a3 a4 a5 a6 a7 a8 a9 a10 a11 a12 a13 a14 a15 a16 a17 a18 a19 v5_1 v12_2 v12_3 v12_4 v12_5 v12_6 v14_0 v14_4 x0_5 x0_6 x0_7 x2_3 x2_4 x2_5 f3 x5_2 f6 f7 f8 f9 f10 f11 f13 x14_3 f15 f16 f17 f18 f19)) [0, 1, 19, 2, 3, 4, 5, 6, 7, 8, 9, 10, 11, 12, 13, 14, 15, 16, 17, 18] (by decide) rfl
      clear hPc hDc hFc hP1 hK1 hD1
      generalize H1 = H at hP hS ⊢
      refine lv_if_ne (tgt := 73) hx hb d_Search_findBest_50 (by decide) (fun c_4 => ?_) (fun c_4 => ?_)
      · rw [if_pos c_4] at hF
        refine lv_aload_n hx hb d_Search_findBest_73 rfl (lv_at hl 0 rfl) ?_
        refine va_get (D := (dC, dI)) (ci := 4) (v := .int x0_7) (C := R_Search) (T := F_Search) (N := 8) hx hb hg iw_Search hown hK hP 0 rfl rfl 7 (by decide) (hg _ gw_143) (fun _ h9 => h9) rfl d_Search_findBest_74 ?_
        refine lv_if_ne (tgt := 84) hx hb d_Search_findBest_77 (by decide) (fun c_5 => ?_) (fun c_5 => ?_)
        · rw [if_pos c_5] at hF
          refine lv_iconst (v := 0) hx hb d_Search_findBest_84 (by decide) ?_
          have e0 := Option.some.inj hF
          have q0 := Prod.mk.inj e0
          have q1 := Prod.mk.inj q0.2
          have q2 := Prod.mk.inj q1.2
          have q3 := Prod.mk.inj q2.2
          have q4 := Prod.mk.inj q3.2
          have q5 := Prod.mk.inj q4.2
          have q6 := Prod.mk.inj q5.2
          have q7 := Prod.mk.inj q6.2
          have q8 := Prod.mk.inj q7.2
          have q9 := Prod.mk.inj q8.2
          have q10 := Prod.mk.inj q9.2
          have q11 := Prod.mk.inj q10.2
          exact W.zret (v := 0) hx hb hr rfl (fun t ht hW => ⟨⟨0, (), rfl, q0.1, by rw [ht, ← q1.1, ← q2.1, ← q3.1, ← q4.1, ← q5.1, ← q6.1, ← q7.1, ← q8.1, ← q9.1, ← q10.1, ← q11.1, ← q11.2]; exact hP, va_K.moved hW.alike hK, (by rw [← q1.1, ← q2.1, ← q3.1, ← q4.1, ← q5.1, ← q6.1, ← q7.1, ← q8.1, ← q9.1, ← q10.1, ← q11.1, ← q11.2]; exact hD)⟩, hS.F ht⟩) hS.2.2 d_Search_findBest_85 hlocks
        · rw [if_neg (fun z => z c_5)] at hF
          refine lv_iconst (v := 1) hx hb d_Search_findBest_80 (by decide) ?_
          refine lv_goto (tgt := 85) hx hb d_Search_findBest_81 (by decide) ?_
          have e0 := Option.some.inj hF
          have q0 := Prod.mk.inj e0
          have q1 := Prod.mk.inj q0.2
          have q2 := Prod.mk.inj q1.2
          have q3 := Prod.mk.inj q2.2
          have q4 := Prod.mk.inj q3.2
          have q5 := Prod.mk.inj q4.2
          have q6 := Prod.mk.inj q5.2
          have q7 := Prod.mk.inj q6.2
          have q8 := Prod.mk.inj q7.2
          have q9 := Prod.mk.inj q8.2
          have q10 := Prod.mk.inj q9.2
          have q11 := Prod.mk.inj q10.2
          exact W.zret (v := 1) hx hb hr rfl (fun t ht hW => ⟨⟨1, (), rfl, q0.1, by rw [ht, ← q1.1, ← q2.1, ← q3.1, ← q4.1, ← q5.1, ← q6.1, ← q7.1, ← q8.1, ← q9.1, ← q10.1, ← q11.1, ← q11.2]; exact hP, va_K.moved hW.alike hK, (by rw [← q1.1, ← q2.1, ← q3.1, ← q4.1, ← q5.1, ← q6.1, ← q7.1, ← q8.1, ← q9.1, ← q10.1, ← q11.1, ← q11.2]; exact hD)⟩, hS.F ht⟩) hS.2.2 d_Search_findBest_85 hlocks
      · rw [if_neg (fun z => z c_4)] at hF
        refine lv_aload_n hx hb d_Search_findBest_53 rfl (lv_at hl 0 rfl) ?_
        refine lv_iload_n hx hb d_Search_findBest_54 rfl (lv_at hl 3 rfl) ?_
        refine va_put (D := (dC, dI)) (ci := 4) (v := .int l3) (ty := .int) (C := R_Search) (T := F_Search) (N := 8) hx hb hg iw_Search t_Search t_Search_ok n_Search hown hK hP hD hS 0 rfl rfl 6 (by decide) (hg _ gw_146) (fun _ h9 => h9) rfl (by decide +kernel) rfl rfl (Nat.le_of_ble_eq_true rfl) d_Search_findBest_55 (fun H locs hP hD hS => ?_)
        have hP : va_P (dC, dI) classes (wd_Search_findBest kA a0 a1 a2 a3 a4 a5 a6 a7 a8 a9 a10 a11 a12 a13 a14 a15 a16 a17 a18 a19 v5_1 v12_2 v12_3 v12_4 v12_5 v12_6 v14_0 v14_4 x0_5 l3 x0_7 x2_3 x2_4 x2_5 f3 x5_2 f6 f7 f8 f9 f10 f11 f13 x14_3 f15 f16 f17 f18 f19) H := hP
        have hD : va_D A (wd_Search_findBest kA a0 a1 a2 a3 a4 a5 a6 a7 a8 a9 a10 a11 a12 a13 a14 a15 a16 a17 a18 a19 v5_1 v12_2 v12_3 v12_4 v12_5 v12_6 v14_0 v14_4 x0_5 l3 x0_7 x2_3 x2_4 x2_5 f3 x5_2 f6 f7 f8 f9 f10 f11 f13 x14_3 f15 f16 f17 f18 f19) := hD
        refine lv_aload_n hx hb d_Search_findBest_58 rfl (lv_at hl 0 rfl) ?_
        refine lv_iconst (v := 0) hx hb d_Search_findBest_59 (by decide) ?_
        refine lv_iconst (v := 0) hx hb d_Search_findBest_60 (by decide) ?_
        refine lv_iload_n hx hb d_Search_findBest_61 rfl (lv_at hl 2 rfl) ?_
        refine lv_iload_n hx hb d_Search_findBest_62 rfl (lv_at hl 3 rfl) ?_
        refine lv_iconst (v := 0) hx hb d_Search_findBest_63 (by decide) ?_
        obtain ⟨u_6, hS_6, hF⟩ := rd_bind hF
        have hPc := hP.sub (ws' := (wd_Search_explore kA a0 a1 a2 a3 a4 a5 a6 a7 a8 a9 a10 a11 a12 a13 a14 a15 a16 a17 a18 a19 (.int x2_5) v5_1 v12_2 v12_3 v12_4 v12_5 v12_6 v14_0 v14_4 x0_5 l3 x0_7 x2_3 x2_4 f3 x5_2 f6 f7 f8 f9 f10 f11 f13 x14_3 f15 f16 f17 f18 f19)) [0, 1, 2, 3, 4, 5, 6, 7, 8, 9, 10, 11, 12, 13, 14, 15, 16, 17, 18, 19] rfl
        have hDc := hD.sub (ws' := (wd_Search_explore kA a0 a1 a2 a3 a4 a5 a6 a7 a8 a9 a10 a11 a12 a13 a14 a15 a16 a17 a18 a19 (.int x2_5) v5_1 v12_2 v12_3 v12_4 v12_5 v12_6 v14_0 v14_4 x0_5 l3 x0_7 x2_3 x2_4 f3 x5_2 f6 f7 f8 f9 f10 f11 f13 x14_3 f15 f16 f17 f18 f19)) [0, 1, 2, 3, 4, 5, 6, 7, 8, 9, 10, 11, 12, 13, 14, 15, 16, 17, 18, 19] (by decide) rfl
        have hFc := va_free (wc := (wd_Search_explore kA a0 a1 a2 a3 a4 a5 a6 a7 a8 a9 a10 a11 a12 a13 a14 a15 a16 a17 a18 a19 (.int x2_5) v5_1 v12_2 v12_3 v12_4 v12_5 v12_6 v14_0 v14_4 x0_5 l3 x0_7 x2_3 x2_4 f3 x5_2 f6 f7 f8 f9 f10 f11 f13 x14_3 f15 f16 f17 f18 f19)) hD hS hA [0, 1, 2, 3, 4, 5, 6, 7, 8, 9, 10, 11, 12, 13, 14, 15, 16, 17, 18, 19] rfl
        refine va_callv (va_runV (As := [.int 0, .int 0, .int l2, .int l3, .int 0]) (rest := []) ⟨hx, hb, hml, hown, hts⟩ (c_Search_explore l dC dI kA H.size a0 a1 a2 a3 a4 a5 a6 a7 a8 a9 a10 a11 a12 a13 a14 a15 a16 a17 a18 a19 (.int x2_5) v5_1 v12_2 v12_3 v12_4 v12_5 v12_6 v14_0 v14_4 0 0 l2 l3 0 x0_5 l3 x0_7 x2_3 x2_4 f3 x5_2 f6 f7 f8 f9 f10 f11 f13 x14_3 f15 f16 f17 f18 f19 u_6.1 u_6.2.1 u_6.2.2.1 u_6.2.2.2.1 u_6.2.2.2.2.1 u_6.2.2.2.2.2.1 u_6.2.2.2.2.2.2.1 u_6.2.2.2.2.2.2.2.1 u_6.2.2.2.2.2.2.2.2 hS_6) (cwV 5 hts (gw_V gw_157 gw_158 gw_159 gw_155 gw_160) rfl rfl rfl (by decide +kernel) ⟨Nat.le_of_ble_eq_true rfl, Nat.le_of_ble_eq_true rfl⟩) ⟨fun a U g mk q => by obtain ⟨q0, q1, qP, qK, qD⟩ := q; exact ⟨q0, q1, qP, va_K.moved (u := U) (U := U.calling g mk a) (Vm.Alike.refl U.vm) qK, qD⟩, va_recv hK hP (ci := 4) (q0 := 0) rfl rfl, fun U hU hW => ⟨rfl, by rw [hU], by rw [hU]; exact hPc, va_K.moved hW.alike hK, hDc.weaken (fun _ _ _ _ => trivial)⟩⟩ rfl rfl hl.1 rfl (lv_room (Nat.le_of_ble_eq_true rfl)) d_Search_findBest_64 ⟨Nat.zero_le _, Nat.zero_le _⟩) hS (fun q _ h => hFc q h) hFc (fun u t H1 locs ht hvm hw hB hz1 hk1 hS => ?_)
        obtain ⟨hP1, hK1, hD1⟩ := hB
        rw [ht] at hP1
        obtain ⟨hP, hD⟩ := va_join (wr := []) (w1 := (wd_Search_explore kA a0 a1 a2 a3 a4 a5 a6 a7 a8 a9 a10 a11 a12 a13 a14 a15 a16 a17 a18 a19 (.int x2_5) v5_1 v12_2 v12_3 v12_4 v12_5 v12_6 v14_0 v14_4 x0_5 l3 u_6.1 u_6.2.1 u_6.2.2.1 u_6.2.2.2.1 x5_2 f6 f7 u_6.2.2.2.2.1 u_6.2.2.2.2.2.1 u_6.2.2.2.2.2.2.1 u_6.2.2.2.2.2.2.2.1 u_6.2.2.2.2.2.2.2.2 x14_3 f15 f16 f17 f18 f19)) hP hD [0, 1, 2, 3, 4, 5, 6, 7, 8, 9, 10, 11, 12, 13, 14, 15, 16, 17, 18, 19] [] rfl rfl (by decide) (by decide) hk1 hFc hP1 hD1
        have hP := hP.sub (ws' := (wd_Search_findBest kA a0 a1 a2 a3 a4 a5 a6 a7 a8 a9 a10 a11 a12 a13 a14 a15 a16 a17 a18 a19 v5_1 v12_2 v12_3 v12_4 v12_5 v12_6 v14_0 v14_4 x0_5 l3 u_6.1 u_6.2.1 u_6.2.2.1 x2_5 u_6.2.2.2.1 x5_2 f6 f7 u_6.2.2.2.2.1 u_6.2.2.2.2.2.1 u_6.2.2.2.2.2.2.1 u_6.2.2.2.2.2.2.2.1 u_6.2.2.2.2.2.2.2.2 x14_3 f15 f16 f17 f18 f19)) [0, 1, 2, 3, 4, 5, 6, 7, 8, 9, 10, 11, 12, 13, 14, 15, 16, 17, 18, 19] rfl
        have hD := hD.sub (ws' := (wd_Search_findBest kA a0 a1 a2 a3 a4 a5 a6 a7 a8 a9 a10 a11 a12 a13 a14 a15 a16 a17 a18 a19 v5_1 v12_2 v12_3 v12_4 v12_5 v12_6 v14_0 v14_4 x0_5 l3 u_6.1 u_6.2.1 u_6.2.2.1 x2_5 u_6.2.2.2.1 x5_2 f6 f7 u_6.2.2.2.2.1 u_6.2.2.2.2.2.1 u_6.2.2.2.2.2.2.1 u_6.2.2.2.2.2.2.2.1 u_6.2.2.2.2.2.2.2.2 x14_3 f15 f16 f17 f18 f19)) [0, 1, 2, 3, 4, 5, 6, 7, 8, 9, 10, 11, 12, 13, 14, 15, 16, 17, 18, 19] (by decide) rfl
        clear hPc hDc hFc hP1 hK1 hD1
        generalize H1 = H at hP hS ⊢
        refine lv_iinc (v := (l3 + 1)) (lv' := [(3, .int (l3 + 1)), (0, .ref a0), (1, .int l1), (2, .int l2)]) hx hb d_Search_findBest_67 hl (k := 3) rfl (by rfl) (by decide) rfl (fun ls hl => ?_)
        refine lv_goto (tgt := 38) hx hb d_Search_findBest_70 (by decide) ?_
        exact ih l1 l2 (l3 + 1) x0_5 l3 u_6.1 u_6.2.1 u_6.2.2.1 x2_5 u_6.2.2.2.1 u_6.2.2.2.2.1 u_6.2.2.2.2.2.1 u_6.2.2.2.2.2.2.1 u_6.2.2.2.2.2.2.2.1 u_6.2.2.2.2.2.2.2.2 hF _ _ _ hP hD hS (lv_sub hl [1, 2, 3, 0] rfl)
def S_Search_findBest (p1 : Int32) (x0_5 : Int32) (x0_6 : Int32) (x0_7 : Int32) (x2_3 : Int32) (x2_4 : Int32) (x2_5 : Int32) (f3 : (Nat → Int32)) (x5_2 : Int32) (f6 : (Nat → Int32)) (f7 : (Nat → Int32)) (f8 : (Nat → Int32)) (f9 : (Nat → Int32)) (f10 : (Nat → Int32)) (f11 : (Nat → Int32)) (f13 : (Nat → Int32)) (x14_3 : Int32) (f15 : (Nat → Int32)) (f16 : (Nat → Int32)) (f17 : (Nat → Int32)) (f18 : (Nat → Int32)) (f19 : (Nat → Int32)) : Option (Int32 × Int32 × Int32 × Int32 × Int32 × Int32 × Int32 × (Nat → Int32) × (Nat → Int32) × (Nat → Int32) × (Nat → Int32) × (Nat → Int32) × (Nat → Int32)) := ((S_Stacks_wrongPlace f11 f13 x14_3 f16 f17 f18 f19 x5_2 f15).bind fun u_7 => (if 0 ≤ u_7.1 then ((S_Finds_setPlace u_7.1 x2_5).bind fun u_9 => (F_Search_findBest x5_2 f6 f7 x14_3 f15 f16 f17 f18 f19 fuel_ 0 p1 u_7.1 1 p1 x0_6 0 x2_3 x2_4 u_9 f3 f8 f9 f10 u_7.2.1 u_7.2.2)) else (some (1, p1, x0_6, 0, x2_3, x2_4, x2_5, f3, f8, f9, f10, u_7.2.1, u_7.2.2))))
set_option maxHeartbeats 4000000 in
set_option maxRecDepth 100000 in
theorem c_Search_findBest (l : Launch) (dC : Nat → ClassId) (dI : Nat → Nat → Nat) (kA : Nat → ClassId) (sz : Nat) (a0 a1 a2 a3 a4 a5 a6 a7 a8 a9 a10 a11 a12 a13 a14 a15 a16 a17 a18 a19 : Nat) (v5_1 v12_2 v12_3 v12_4 v12_5 v12_6 v14_0 v14_4 : Value) (p1 : Int32) (x0_5 : Int32) (x0_6 : Int32) (x0_7 : Int32) (x2_3 : Int32) (x2_4 : Int32) (x2_5 : Int32) (f3 : (Nat → Int32)) (x5_2 : Int32) (f6 : (Nat → Int32)) (f7 : (Nat → Int32)) (f8 : (Nat → Int32)) (f9 : (Nat → Int32)) (f10 : (Nat → Int32)) (f11 : (Nat → Int32)) (f13 : (Nat → Int32)) (x14_3 : Int32) (f15 : (Nat → Int32)) (f16 : (Nat → Int32)) (f17 : (Nat → Int32)) (f18 : (Nat → Int32)) (f19 : (Nat → Int32)) (r : Int32) (ox0_5 : Int32) (ox0_6 : Int32) (ox0_7 : Int32) (ox2_3 : Int32) (ox2_4 : Int32) (ox2_5 : Int32) (of3 : (Nat → Int32)) (of8 : (Nat → Int32)) (of9 : (Nat → Int32)) (of10 : (Nat → Int32)) (of11 : (Nat → Int32)) (of13 : (Nat → Int32)) (hF : S_Search_findBest p1 x0_5 x0_6 x0_7 x2_3 x2_4 x2_5 f3 x5_2 f6 f7 f8 f9 f10 f11 f13 x14_3 f15 f16 f17 f18 f19 = some (r, ox0_5, ox0_6, ox0_7, ox2_3, ox2_4, ox2_5, of3, of8, of9, of10, of11, of13)) : Met l y_Search_findBest w_Search_findBest rm_Search_findBest (va_Pc [.ref a0, .int p1] (fun U => U.heap.size = sz ∧ va_P (dC, dI) classes (wd_Search_findBest kA a0 a1 a2 a3 a4 a5 a6 a7 a8 a9 a10 a11 a12 a13 a14 a15 a16 a17 a18 a19 v5_1 v12_2 v12_3 v12_4 v12_5 v12_6 v14_0 v14_4 x0_5 x0_6 x0_7 x2_3 x2_4 x2_5 f3 x5_2 f6 f7 f8 f9 f10 f11 f13 x14_3 f15 f16 f17 f18 f19) U.heap ∧ va_K (dC, dI) classes (tys_ kA) U ∧ va_D (fun _ => True) (wd_Search_findBest kA a0 a1 a2 a3 a4 a5 a6 a7 a8 a9 a10 a11 a12 a13 a14 a15 a16 a17 a18 a19 v5_1 v12_2 v12_3 v12_4 v12_5 v12_6 v14_0 v14_4 x0_5 x0_6 x0_7 x2_3 x2_4 x2_5 f3 x5_2 f6 f7 f8 f9 f10 f11 f13 x14_3 f15 f16 f17 f18 f19))) (va_Qi (fun (r1 : Int32) (_ : Unit) => r1 = r) (fun _ t => va_P (dC, dI) classes (wd_Search_findBest kA a0 a1 a2 a3 a4 a5 a6 a7 a8 a9 a10 a11 a12 a13 a14 a15 a16 a17 a18 a19 v5_1 v12_2 v12_3 v12_4 v12_5 v12_6 v14_0 v14_4 ox0_5 ox0_6 ox0_7 ox2_3 ox2_4 ox2_5 of3 x5_2 f6 f7 of8 of9 of10 of11 of13 x14_3 f15 f16 f17 f18 f19) t.heap ∧ va_K (dC, dI) classes (tys_ kA) t ∧ va_D (va_A (wd_Search_findBest kA a0 a1 a2 a3 a4 a5 a6 a7 a8 a9 a10 a11 a12 a13 a14 a15 a16 a17 a18 a19 v5_1 v12_2 v12_3 v12_4 v12_5 v12_6 v14_0 v14_4 x0_5 x0_6 x0_7 x2_3 x2_4 x2_5 f3 x5_2 f6 f7 f8 f9 f10 f11 f13 x14_3 f15 f16 f17 f18 f19) sz) (wd_Search_findBest kA a0 a1 a2 a3 a4 a5 a6 a7 a8 a9 a10 a11 a12 a13 a14 a15 a16 a17 a18 a19 v5_1 v12_2 v12_3 v12_4 v12_5 v12_6 v14_0 v14_4 ox0_5 ox0_6 ox0_7 ox2_3 ox2_4 ox2_5 of3 x5_2 f6 f7 of8 of9 of10 of11 of13 x14_3 f15 f16 f17 f18 f19)) (va_A (wd_Search_findBest kA a0 a1 a2 a3 a4 a5 a6 a7 a8 a9 a10 a11 a12 a13 a14 a15 a16 a17 a18 a19 v5_1 v12_2 v12_3 v12_4 v12_5 v12_6 v14_0 v14_4 x0_5 x0_6 x0_7 x2_3 x2_4 x2_5 f3 x5_2 f6 f7 f8 f9 f10 f11 f13 x14_3 f15 f16 f17 f18 f19) sz)) 0 0 (va_A (wd_Search_findBest kA a0 a1 a2 a3 a4 a5 a6 a7 a8 a9 a10 a11 a12 a13 a14 a15 a16 a17 a18 a19 v5_1 v12_2 v12_3 v12_4 v12_5 v12_6 v14_0 v14_4 x0_5 x0_6 x0_7 x2_3 x2_4 x2_5 f3 x5_2 f6 f7 f8 f9 f10 f11 f13 x14_3 f15 f16 f17 f18 f19) sz) := by
  refine Met.ofW (cc := b_Search_findBest) (maxL := 4) (ret := some .boolean) (by decide) rfl ?_
  intro p e s m args below meth c s₁ B hml hv
  obtain ⟨rfl, hsz, hP, hK, hD0⟩ := hv
  have hx := B.exec
  have hb := B.bytes
  have hr := B.returns
  have hts := atoms_spec (ws := w_Search_findBest) B.pre
  have hown : s.vm.findClass R_Search = some m.cls := findClass_of_methodNamed B.named
  have hg := fun (w : Cond) (h : w ∈ gw) => hts w (List.mem_cons_of_mem _ h)
  have hlocks := B.notSynchronized
  subst hsz
  have hD := hD0.self (sz := s.heap.size)
  generalize hAe : va_A (wd_Search_findBest kA a0 a1 a2 a3 a4 a5 a6 a7 a8 a9 a10 a11 a12 a13 a14 a15 a16 a17 a18 a19 v5_1 v12_2 v12_3 v12_4 v12_5 v12_6 v14_0 v14_4 x0_5 x0_6 x0_7 x2_3 x2_4 x2_5 f3 x5_2 f6 f7 f8 f9 f10 f11 f13 x14_3 f15 f16 f17 f18 f19) s.heap.size = A at hD ⊢
  have hA : ∀ q : Nat, s.heap.size ≤ q → A q := fun q h => by rw [← hAe]; exact Or.inr h
  have hS : va_S A s.heap s.heap [] := va_S.rf
  have hl := lv_entry ([.ref a0, .int p1]) (n := 4) (Nat.le_of_ble_eq_true rfl)
  rw [lg_entry_eq]
  generalize (lg_sl ([.ref a0, .int p1]) ++ List.replicate (4 - (lg_sl ([.ref a0, .int p1])).length) Slot.unset).toArray = ls at hl ⊢
  have hl : lv_has ls 4 [(0, .ref a0), (1, .int p1)] := hl
  unfold S_Search_findBest at hF
  have ih := L_Search_findBest (l := l) (e := e) (below := below) hx hb hr hlocks hml hown hts hA hK a0 a1 a2 a3 a4 a5 a6 a7 a8 a9 a10 a11 a12 a13 a14 a15 a16 a17 a18 a19 v5_1 v12_2 v12_3 v12_4 v12_5 v12_6 v14_0 v14_4 x5_2 f6 f7 x14_3 f15 f16 f17 f18 f19 r ox0_5 ox0_6 ox0_7 ox2_3 ox2_4 ox2_5 of3 of8 of9 of10 of11 of13 fuel_
  refine lv_aload_n hx hb d_Search_findBest_0 rfl (lv_at hl 0 rfl) ?_
  refine va_get (D := (dC, dI)) (ci := 4) (v := .ref a4) (C := R_Search) (T := F_Search) (N := 8) hx hb hg iw_Search hown hK hP 0 rfl rfl 0 (by decide) (hg _ gw_139) (fun _ h9 => h9) rfl d_Search_findBest_1 ?_
  refine lv_aload_n hx hb d_Search_findBest_4 rfl (lv_at hl 0 rfl) ?_
  refine va_get (D := (dC, dI)) (ci := 4) (v := .ref a5) (C := R_Search) (T := F_Search) (N := 8) hx hb hg iw_Search hown hK hP 0 rfl rfl 1 (by decide) (hg _ gw_137) (fun _ h9 => h9) rfl d_Search_findBest_5 ?_
  obtain ⟨u_7, hS_7, hF⟩ := rd_bind hF
  have hPc := hP.sub (ws' := (wd_Stacks_wrongPlace kA a4 a11 a12 a13 a14 a16 a17 a18 a19 a5 a15 v12_2 v12_3 v12_4 v12_5 v12_6 v14_0 v14_4 v5_1 f11 f13 x14_3 f16 f17 f18 f19 x5_2 f15)) [4, 11, 12, 13, 14, 16, 17, 18, 19, 5, 15] rfl
  have hDc := hD.sub (ws' := (wd_Stacks_wrongPlace kA a4 a11 a12 a13 a14 a16 a17 a18 a19 a5 a15 v12_2 v12_3 v12_4 v12_5 v12_6 v14_0 v14_4 v5_1 f11 f13 x14_3 f16 f17 f18 f19 x5_2 f15)) [4, 11, 12, 13, 14, 16, 17, 18, 19, 5, 15] (by decide) rfl
  have hFc := va_free (wc := (wd_Stacks_wrongPlace kA a4 a11 a12 a13 a14 a16 a17 a18 a19 a5 a15 v12_2 v12_3 v12_4 v12_5 v12_6 v14_0 v14_4 v5_1 f11 f13 x14_3 f16 f17 f18 f19 x5_2 f15)) hD hS hA [4, 11, 12, 13, 14, 16, 17, 18, 19, 5, 15] rfl
  refine va_calli (va_runV (As := [.ref a5]) (rest := []) ⟨hx, hb, hml, hown, hts⟩ (c_Stacks_wrongPlace l dC dI kA s.heap.size a4 a11 a12 a13 a14 a16 a17 a18 a19 a5 a15 v12_2 v12_3 v12_4 v12_5 v12_6 v14_0 v14_4 v5_1 f11 f13 x14_3 f16 f17 f18 f19 x5_2 f15 u_7.1 u_7.2.1 u_7.2.2 hS_7) (cwV 1 hts (gw_V gw_179 gw_180 gw_181 gw_85 gw_182) rfl rfl rfl (by decide +kernel) ⟨Nat.le_of_ble_eq_true rfl, Nat.le_of_ble_eq_true rfl⟩) ⟨fun a U g mk q => by obtain ⟨q0, q1, qP, qK, qD⟩ := q; exact ⟨q0, q1, qP, va_K.moved (u := U) (U := U.calling g mk a) (Vm.Alike.refl U.vm) qK, qD⟩, va_recv hK hP (ci := 5) (q0 := 4) rfl rfl, fun U hU hW => ⟨rfl, by rw [hU], by rw [hU]; exact hPc, va_K.moved hW.alike hK, hDc.weaken (fun _ _ _ _ => trivial)⟩⟩ rfl rfl hl.1 rfl (lv_room (Nat.le_of_ble_eq_true rfl)) d_Search_findBest_8 ⟨Nat.zero_le _, Nat.zero_le _⟩) hS (fun q _ h => hFc q h) hFc (fun r1 u t H1 locs ht hvm hw hB hz1 hk1 hS => ?_)
  rw [show r1 = _ from hw]
  obtain ⟨hP1, hK1, hD1⟩ := hB
  rw [ht] at hP1
  obtain ⟨hP, hD⟩ := va_join (wr := [(a0, .inr (4, [.ref a4, .ref a5, .ref a1, .ref a2, .ref a3, .int x0_5, .int x0_6, .int x0_7])), (a1, .inr (0, [.ref a6, .ref a7])), (a2, .inr (1, [.ref a10, .ref a8, .ref a9, .int x2_3, .int x2_4, .int x2_5])), (a3, .inl (kA 0, 6, .inl f3)), (a6, .inl (kA 0, 6, .inl f6)), (a7, .inl (kA 0, 6, .inl f7)), (a8, .inl (kA 0, 40, .inl f8)), (a9, .inl (kA 0, 40, .inl f9)), (a10, .inl (kA 0, 240, .inl f10))]) (w1 := (wd_Stacks_wrongPlace kA a4 a11 a12 a13 a14 a16 a17 a18 a19 a5 a15 v12_2 v12_3 v12_4 v12_5 v12_6 v14_0 v14_4 v5_1 u_7.2.1 u_7.2.2 x14_3 f16 f17 f18 f19 x5_2 f15)) hP hD [4, 11, 12, 13, 14, 16, 17, 18, 19, 5, 15] [0, 1, 2, 3, 6, 7, 8, 9, 10] rfl rfl (by decide) (by decide) hk1 hFc hP1 hD1
  have hP := hP.sub (ws' := (wd_Search_findBest kA a0 a1 a2 a3 a4 a5 a6 a7 a8 a9 a10 a11 a12 a13 a14 a15 a16 a17 a18 a19 v5_1 v12_2 v12_3 v12_4 v12_5 v12_6 v14_0 v14_4 x0_5 x0_6 x0_7 x2_3 x2_4 x2_5 f3 x5_2 f6 f7 f8 f9 f10 u_7.2.1 u_7.2.2 x14_3 f15 f16 f17 f18 f19)) [0, 1, 2, 3, 9, 18, 4, 5, 6, 7, 8, 10, 11, 12, 13, 19, 14, 15, 16, 17] rfl
  have hD := hD.sub (ws' := (wd_Search_findBest kA a0 a1 a2 a3 a4 a5 a6 a7 a8 a9 a10 a11 a12 a13 a14 a15 a16 a17 a18 a19 v5_1 v12_2 v12_3 v12_4 v12_5 v12_6 v14_0 v14_4 x0_5 x0_6 x0_7 x2_3 x2_4 x2_5 f3 x5_2 f6 f7 f8 f9 f10 u_7.2.1 u_7.2.2 x14_3 f15 f16 f17 f18 f19)) [0, 1, 2, 3, 9, 18, 4, 5, 6, 7, 8, 10, 11, 12, 13, 19, 14, 15, 16, 17] (by decide) rfl
  clear hPc hDc hFc hP1 hK1 hD1
  generalize H1 = H at hP hS ⊢
  refine lv_istore_n (lv' := [(2, .int u_7.1), (0, .ref a0), (1, .int p1)]) hx hb d_Search_findBest_11 rfl hl (by decide) rfl (fun ls hl => ?_)
  refine lv_aload_n hx hb d_Search_findBest_12 rfl (lv_at hl 1 rfl) ?_
  refine lv_iload_n hx hb d_Search_findBest_13 rfl (lv_at hl 2 rfl) ?_
  refine va_put (D := (dC, dI)) (ci := 4) (v := .int p1) (ty := .int) (C := R_Search) (T := F_Search) (N := 8) hx hb hg iw_Search t_Search t_Search_ok n_Search hown hK hP hD hS 0 rfl rfl 5 (by decide) (hg _ gw_142) (fun _ h9 => h9) rfl (by decide +kernel) rfl rfl (Nat.le_of_ble_eq_true rfl) d_Search_findBest_14 (fun H locs hP hD hS => ?_)
  have hP : va_P (dC, dI) classes (wd_Search_findBest kA a0 a1 a2 a3 a4 a5 a6 a7 a8 a9 a10 a11 a12 a13 a14 a15 a16 a17 a18 a19 v5_1 v12_2 v12_3 v12_4 v12_5 v12_6 v14_0 v14_4 p1 x0_6 x0_7 x2_3 x2_4 x2_5 f3 x5_2 f6 f7 f8 f9 f10 u_7.2.1 u_7.2.2 x14_3 f15 f16 f17 f18 f19) H := hP
  have hD : va_D A (wd_Search_findBest kA a0 a1 a2 a3 a4 a5 a6 a7 a8 a9 a10 a11 a12 a13 a14 a15 a16 a17 a18 a19 v5_1 v12_2 v12_3 v12_4 v12_5 v12_6 v14_0 v14_4 p1 x0_6 x0_7 x2_3 x2_4 x2_5 f3 x5_2 f6 f7 f8 f9 f10 u_7.2.1 u_7.2.2 x14_3 f15 f16 f17 f18 f19) := hD
  refine lv_aload_n hx hb d_Search_findBest_17 rfl (lv_at hl 1 rfl) ?_
  refine lv_iconst (v := 0) hx hb d_Search_findBest_18 (by decide) ?_
  refine va_put (D := (dC, dI)) (ci := 4) (v := .int 0) (ty := .boolean) (C := R_Search) (T := F_Search) (N := 8) hx hb hg iw_Search t_Search t_Search_ok n_Search hown hK hP hD hS 0 rfl rfl 7 (by decide) (hg _ gw_143) (fun _ h9 => h9) rfl (by decide +kernel) rfl rfl (Nat.le_of_ble_eq_true rfl) d_Search_findBest_19 (fun H locs hP hD hS => ?_)
  have hP : va_P (dC, dI) classes (wd_Search_findBest kA a0 a1 a2 a3 a4 a5 a6 a7 a8 a9 a10 a11 a12 a13 a14 a15 a16 a17 a18 a19 v5_1 v12_2 v12_3 v12_4 v12_5 v12_6 v14_0 v14_4 p1 x0_6 0 x2_3 x2_4 x2_5 f3 x5_2 f6 f7 f8 f9 f10 u_7.2.1 u_7.2.2 x14_3 f15 f16 f17 f18 f19) H := hP
  have hD : va_D A (wd_Search_findBest kA a0 a1 a2 a3 a4 a5 a6 a7 a8 a9 a10 a11 a12 a13 a14 a15 a16 a17 a18 a19 v5_1 v12_2 v12_3 v12_4 v12_5 v12_6 v14_0 v14_4 p1 x0_6 0 x2_3 x2_4 x2_5 f3 x5_2 f6 f7 f8 f9 f10 u_7.2.1 u_7.2.2 x14_3 f15 f16 f17 f18 f19) := hD
  refine lv_iload_n hx hb d_Search_findBest_22 rfl (lv_at hl 0 rfl) ?_
  refine lv_if_ge (tgt := 28) hx hb d_Search_findBest_23 (by decide) (fun c_8 => ?_) (fun c_8 => ?_)
  · rw [if_pos c_8] at hF
    refine lv_aload_n hx hb d_Search_findBest_28 rfl (lv_at hl 1 rfl) ?_
    refine va_get (D := (dC, dI)) (ci := 4) (v := .ref a2) (C := R_Search) (T := F_Search) (N := 8) hx hb hg iw_Search hown hK hP 0 rfl rfl 3 (by decide) (hg _ gw_144) (fun _ h9 => h9) rfl d_Search_findBest_29 ?_
    refine lv_iload_n hx hb d_Search_findBest_32 rfl (lv_at hl 0 rfl) ?_
    obtain ⟨u_9, hS_9, hF⟩ := rd_bind hF
    have hPc := hP.sub (ws' := (wd_Finds_setPlace kA a2 (.ref a10) (.ref a8) (.ref a9) (.int x2_3) (.int x2_4) x2_5)) [2] rfl
    have hDc := hD.sub (ws' := (wd_Finds_setPlace kA a2 (.ref a10) (.ref a8) (.ref a9) (.int x2_3) (.int x2_4) x2_5)) [2] (by decide) rfl
    have hFc := va_free (wc := (wd_Finds_setPlace kA a2 (.ref a10) (.ref a8) (.ref a9) (.int x2_3) (.int x2_4) x2_5)) hD hS hA [2] rfl
    refine va_callv (va_runV (As := [.int u_7.1]) (rest := []) ⟨hx, hb, hml, hown, hts⟩ (c_Finds_setPlace l dC dI kA H.size a2 (.ref a10) (.ref a8) (.ref a9) (.int x2_3) (.int x2_4) u_7.1 x2_5 u_9 hS_9) (cwV 1 hts (gw_V gw_183 gw_184 gw_185 gw_11 gw_186) rfl rfl rfl (by decide +kernel) ⟨Nat.le_of_ble_eq_true rfl, Nat.le_of_ble_eq_true rfl⟩) ⟨fun a U g mk q => by obtain ⟨q0, q1, qP, qK, qD⟩ := q; exact ⟨q0, q1, qP, va_K.moved (u := U) (U := U.calling g mk a) (Vm.Alike.refl U.vm) qK, qD⟩, va_recv hK hP (ci := 1) (q0 := 2) rfl rfl, fun U hU hW => ⟨rfl, by rw [hU], by rw [hU]; exact hPc, va_K.moved hW.alike hK, hDc.weaken (fun _ _ _ _ => trivial)⟩⟩ rfl rfl hl.1 rfl (lv_room (Nat.le_of_ble_eq_true rfl)) d_Search_findBest_33 ⟨Nat.zero_le _, Nat.zero_le _⟩) hS (fun q _ h => hFc q h) hFc (fun u t H1 locs ht hvm hw hB hz1 hk1 hS => ?_)
    obtain ⟨hP1, hK1, hD1⟩ := hB
    rw [ht] at hP1
    obtain ⟨hP, hD⟩ := va_join (wr := [(a0, .inr (4, [.ref a4, .ref a5, .ref a1, .ref a2, .ref a3, .int p1, .int x0_6, .int 0])), (a1, .inr (0, [.ref a6, .ref a7])), (a3, .inl (kA 0, 6, .inl f3)), (a4, .inr (5, [.ref a12, .ref a14, .ref a11, .ref a13])), (a5, .inr (7, [.ref a15, v5_1, .int x5_2])), (a6, .inl (kA 0, 6, .inl f6)), (a7, .inl (kA 0, 6, .inl f7)), (a8, .inl (kA 0, 40, .inl f8)), (a9, .inl (kA 0, 40, .inl f9)), (a10, .inl (kA 0, 240, .inl f10)), (a11, .inl (kA 0, 4096, .inl u_7.2.1)), (a12, .inr (2, [.ref a16, .ref a17, v12_2, v12_3, v12_4, v12_5, v12_6])), (a13, .inl (kA 0, 8, .inl u_7.2.2)), (a14, .inr (6, [v14_0, .ref a19, .ref a18, .int x14_3, v14_4])), (a15, .inl (kA 0, 16, .inl f15)), (a16, .inl (kA 0, 12, .inl f16)), (a17, .inl (kA 0, 12, .inl f17)), (a18, .inl (kA 0, 280, .inl f18)), (a19, .inl (kA 0, 480, .inl f19))]) (w1 := (wd_Finds_setPlace kA a2 (.ref a10) (.ref a8) (.ref a9) (.int x2_3) (.int x2_4) u_9)) hP hD [2] [0, 1, 3, 4, 5, 6, 7, 8, 9, 10, 11, 12, 13, 14, 15, 16, 17, 18, 19] rfl rfl (by decide) (by decide) hk1 hFc hP1 hD1
    have hP := hP.sub (ws' := (wd_Search_findBest kA a0 a1 a2 a3 a4 a5 a6 a7 a8 a9 a10 a11 a12 a13 a14 a15 a16 a17 a18 a19 v5_1 v12_2 v12_3 v12_4 v12_5 v12_6 v14_0 v14_4 p1 x0_6 0 x2_3 x2_4 u_9 f3 x5_2 f6 f7 f8 f9 f10 u_7.2.1 u_7.2.2 x14_3 f15 f16 f17 f18 f19)) [0, 1, 19, 2, 3, 4, 5, 6, 7, 8, 9, 10, 11, 12, 13, 14, 15, 16, 17, 18] rfl
    have hD := hD.sub (ws' := (wd_Search_findBest kA a0 a1 a2 a3 a4 a5 a6 a7 a8 a9 a10 a11 a12 a13 a14 a15 a16 a17 a18 a19 v5_1 v12_2 v12_3 v12_4 v12_5 v12_6 v14_0 v14_4 p1 x0_6 0 x2_3 x2_4 u_9 f3 x5_2 f6 f7 f8 f9 f10 u_7.2.1 u_7.2.2 x14_3 f15 f16 f17 f18 f19)) [0, 1, 19, 2, 3, 4, 5, 6, 7, 8, 9, 10, 11, 12, 13, 14, 15, 16, 17, 18] (by decide) rfl
    clear hPc hDc hFc hP1 hK1 hD1
    generalize H1 = H at hP hS ⊢
    refine lv_iconst (v := 1) hx hb d_Search_findBest_36 (by decide) ?_
    refine lv_istore_n (lv' := [(3, .int 1), (2, .int u_7.1), (0, .ref a0), (1, .int p1)]) hx hb d_Search_findBest_37 rfl hl (by decide) rfl (fun ls hl => ?_)
    exact ih p1 u_7.1 1 p1 x0_6 0 x2_3 x2_4 u_9 f3 f8 f9 f10 u_7.2.1 u_7.2.2 hF _ _ _ hP hD hS (lv_sub hl [2, 3, 1, 0] rfl)
  · rw [if_neg c_8] at hF
    refine lv_iconst (v := 1) hx hb d_Search_findBest_26 (by decide) ?_
    have e0 := Option.some.inj hF
    have q0 := Prod.mk.inj e0
    have q1 := Prod.mk.inj q0.2
    have q2 := Prod.mk.inj q1.2
    have q3 := Prod.mk.inj q2.2
    have q4 := Prod.mk.inj q3.2
    have q5 := Prod.mk.inj q4.2
    have q6 := Prod.mk.inj q5.2
    have q7 := Prod.mk.inj q6.2
    have q8 := Prod.mk.inj q7.2
    have q9 := Prod.mk.inj q8.2
    have q10 := Prod.mk.inj q9.2
    have q11 := Prod.mk.inj q10.2
    exact W.zret (v := 1) hx hb hr rfl (fun t ht hW => ⟨⟨1, (), rfl, q0.1, by rw [ht, ← q1.1, ← q2.1, ← q3.1, ← q4.1, ← q5.1, ← q6.1, ← q7.1, ← q8.1, ← q9.1, ← q10.1, ← q11.1, ← q11.2]; exact hP, va_K.moved hW.alike hK, (by rw [← q1.1, ← q2.1, ← q3.1, ← q4.1, ← q5.1, ← q6.1, ← q7.1, ← q8.1, ← q9.1, ← q10.1, ← q11.1, ← q11.2]; exact hD)⟩, hS.F ht⟩) hS.2.2 d_Search_findBest_27 hlocks
