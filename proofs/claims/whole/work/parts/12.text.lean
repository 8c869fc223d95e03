-- ===== RepairDesk$Text.size()I
abbrev wd_Text_size (kA : Nat → ClassId) (a0 : Nat) (v0_0 v0_1 : Value) (x0_2 : Int32) : va_W := [(a0, .inr (7, [v0_0, v0_1, .int x0_2]))]
abbrev rm_Text_size : Room := { frames := 0, cells := 0, slots := 0, locals := 0 }
def S_Text_size (x0_2 : Int32) : Option (Int32) := (some x0_2)
set_option maxHeartbeats 4000000 in
set_option maxRecDepth 100000 in
theorem c_Text_size (l : Launch) (dC : Nat → ClassId) (dI : Nat → Nat → Nat) (kA : Nat → ClassId) (sz : Nat) (a0 : Nat) (v0_0 v0_1 : Value) (x0_2 : Int32) (r : Int32) (hF : S_Text_size x0_2 = some r) : Met l y_Text_size w_Text_size rm_Text_size (va_Pc [.ref a0] (fun U => U.heap.size = sz ∧ va_P (dC, dI) classes (wd_Text_size kA a0 v0_0 v0_1 x0_2) U.heap ∧ va_K (dC, dI) classes (tys_ kA) U ∧ va_D (fun _ => True) (wd_Text_size kA a0 v0_0 v0_1 x0_2))) (va_Qi (fun (r1 : Int32) (_ : Unit) => r1 = r) (fun _ t => va_P (dC, dI) classes (wd_Text_size kA a0 v0_0 v0_1 x0_2) t.heap ∧ va_K (dC, dI) classes (tys_ kA) t ∧ va_D (va_A (wd_Text_size kA a0 v0_0 v0_1 x0_2) sz) (wd_Text_size kA a0 v0_0 v0_1 x0_2)) (va_A (wd_Text_size kA a0 v0_0 v0_1 x0_2) sz)) 0 0 (va_A (wd_Text_size kA a0 v0_0 v0_1 x0_2) sz) := by
  refine Met.ofW (cc := b_Text_size) (maxL := 1) (ret := some .int) (by decide) rfl ?_
  intro p e s m args below meth c s₁ B hml hv
  obtain ⟨rfl, hsz, hP, hK, hD0⟩ := hv
  have hx := B.exec
  have hb := B.bytes
  have hr := B.returns
  have hts := atoms_spec (ws := w_Text_size) B.pre
  have hown : s.vm.findClass R_Text = some m.cls := findClass_of_methodNamed B.named
  have hg := fun (w : Cond) (h : w ∈ gw) => hts w (List.mem_cons_of_mem _ h)
  have hlocks := B.notSynchronized
  subst hsz
  have hD := hD0.self (sz := s.heap.size)
  generalize hAe : va_A (wd_Text_size kA a0 v0_0 v0_1 x0_2) s.heap.size = A at hD ⊢
  have hA : ∀ q : Nat, s.heap.size ≤ q → A q := fun q h => by rw [← hAe]; exact Or.inr h
  have hS : va_S A s.heap s.heap [] := va_S.rf
  have hl := lv_entry ([.ref a0]) (n := 1) (Nat.le_of_ble_eq_true rfl)
  rw [lg_entry_eq]
  generalize (lg_sl ([.ref a0]) ++ List.replicate (1 - (lg_sl ([.ref a0])).length) Slot.unset).toArray = ls at hl ⊢
  have hl : lv_has ls 1 [(0, .ref a0)] := hl
  unfold S_Text_size at hF
  refine lv_aload_n hx hb d_Text_size_0 rfl (lv_at hl 0 rfl) ?_
  refine va_get (D := (dC, dI)) (ci := 7) (v := .int x0_2) (C := R_Text) (T := F_Text) (N := 3) hx hb hg iw_Text hown hK hP 0 rfl rfl 2 (by decide) (hg _ gw_75) (fun _ h9 => h9) rfl d_Text_size_1 ?_
  have e0 := Option.some.inj hF
  exact W.iret (v := x0_2) hx hb hr (fun t ht hW => ⟨⟨x0_2, (), rfl, e0, by rw [ht]; exact hP, va_K.moved hW.alike hK, (by exact hD)⟩, hS.F ht⟩) hS.2.2 d_Text_size_4 hlocks
-- ===== RepairDesk$Text.letterAt(I)I
abbrev wd_Text_letterAt (kA : Nat → ClassId) (a0 a1 : Nat) (v0_1 : Value) (x0_2 : Int32) (f1 : (Nat → Int32)) : va_W := [(a0, .inr (7, [.ref a1, v0_1, .int x0_2])), (a1, .inl (kA 0, 16, .inl f1))]
abbrev rm_Text_letterAt : Room := { frames := 0, cells := 0, slots := 0, locals := 0 }
def S_Text_letterAt (p1 : Int32) (x0_2 : Int32) (f1 : (Nat → Int32)) : Option (Int32) := (if p1 < 0 then (some (-1)) else (if x0_2 ≤ p1 then (some (-1)) else (if (p1 : Int32) < 0 ∨ 16 ≤ (Int32.toNatClampNeg p1) then none else (some (f1 (Int32.toNatClampNeg p1))))))
set_option maxHeartbeats 4000000 in
set_option maxRecDepth 100000 in
theorem c_Text_letterAt (l : Launch) (dC : Nat → ClassId) (dI : Nat → Nat → Nat) (kA : Nat → ClassId) (sz : Nat) (a0 a1 : Nat) (v0_1 : Value) (p1 : Int32) (x0_2 : Int32) (f1 : (Nat → Int32)) (r : Int32) (hF : S_Text_letterAt p1 x0_2 f1 = some r) : Met l y_Text_letterAt w_Text_letterAt rm_Text_letterAt (va_Pc [.ref a0, .int p1] (fun U => U.heap.size = sz ∧ va_P (dC, dI) classes (wd_Text_letterAt kA a0 a1 v0_1 x0_2 f1) U.heap ∧ va_K (dC, dI) classes (tys_ kA) U ∧ va_D (fun _ => True) (wd_Text_letterAt kA a0 a1 v0_1 x0_2 f1))) (va_Qi (fun (r1 : Int32) (_ : Unit) => r1 = r) (fun _ t => va_P (dC, dI) classes (wd_Text_letterAt kA a0 a1 v0_1 x0_2 f1) t.heap ∧ va_K (dC, dI) classes (tys_ kA) t ∧ va_D (va_A (wd_Text_letterAt kA a0 a1 v0_1 x0_2 f1) sz) (wd_Text_letterAt kA a0 a1 v0_1 x0_2 f1)) (va_A (wd_Text_letterAt kA a0 a1 v0_1 x0_2 f1) sz)) 0 0 (va_A (wd_Text_letterAt kA a0 a1 v0_1 x0_2 f1) sz) := by
  refine Met.ofW (cc := b_Text_letterAt) (maxL := 2) (ret := some .int) (by decide) rfl ?_
  intro p e s m args below meth c s₁ B hml hv
  obtain ⟨rfl, hsz, hP, hK, hD0⟩ := hv
  have hx := B.exec
  have hb := B.bytes
  have hr := B.returns
  have hts := atoms_spec (ws := w_Text_letterAt) B.pre
  have hown : s.vm.findClass R_Text = some m.cls := findClass_of_methodNamed B.named
  have hg := fun (w : Cond) (h : w ∈ gw) => hts w (List.mem_cons_of_mem _ h)
  have hlocks := B.notSynchronized
  subst hsz
  have hD := hD0.self (sz := s.heap.size)
  generalize hAe : va_A (wd_Text_letterAt kA a0 a1 v0_1 x0_2 f1) s.heap.size = A at hD ⊢
  have hA : ∀ q : Nat, s.heap.size ≤ q → A q := fun q h => by rw [← hAe]; exact Or.inr h
  have hS : va_S A s.heap s.heap [] := va_S.rf
  have hl := lv_entry ([.ref a0, .int p1]) (n := 2) (Nat.le_of_ble_eq_true rfl)
  rw [lg_entry_eq]
  generalize (lg_sl ([.ref a0, .int p1]) ++ List.replicate (2 - (lg_sl ([.ref a0, .int p1])).length) Slot.unset).toArray = ls at hl ⊢
  have hl : lv_has ls 2 [(0, .ref a0), (1, .int p1)] := hl
  unfold S_Text_letterAt at hF
  refine lv_iload_n hx hb d_Text_letterAt_0 rfl (lv_at hl 1 rfl) ?_
  refine lv_if_lt (tgt := 21) hx hb d_Text_letterAt_1 (by decide) (fun c_1 => ?_) (fun c_1 => ?_)
  · rw [if_pos c_1] at hF
    refine lv_iconst (v := (-1)) hx hb d_Text_letterAt_21 (by decide) ?_
    have e0 := Option.some.inj hF
    exact W.iret (v := (-1)) hx hb hr (fun t ht hW => ⟨⟨(-1), (), rfl, e0, by rw [ht]; exact hP, va_K.moved hW.alike hK, (by exact hD)⟩, hS.F ht⟩) hS.2.2 d_Text_letterAt_22 hlocks
  · rw [if_neg c_1] at hF
    refine lv_iload_n hx hb d_Text_letterAt_4 rfl (lv_at hl 1 rfl) ?_
    refine lv_aload_n hx hb d_Text_letterAt_5 rfl (lv_at hl 0 rfl) ?_
    refine va_get (D := (dC, dI)) (ci := 7) (v := .int x0_2) (C := R_Text) (T := F_Text) (N := 3) hx hb hg iw_Text hown hK hP 0 rfl rfl 2 (by decide) (hg _ gw_75) (fun _ h9 => h9) rfl d_Text_letterAt_6 ?_
    refine lv_icmp_ge (tgt := 21) hx hb d_Text_letterAt_9 (by decide) (fun c_2 => ?_) (fun c_2 => ?_)
    · rw [if_pos c_2] at hF
      refine lv_iconst (v := (-1)) hx hb d_Text_letterAt_21 (by decide) ?_
      have e0 := Option.some.inj hF
      exact W.iret (v := (-1)) hx hb hr (fun t ht hW => ⟨⟨(-1), (), rfl, e0, by rw [ht]; exact hP, va_K.moved hW.alike hK, (by exact hD)⟩, hS.F ht⟩) hS.2.2 d_Text_letterAt_22 hlocks
    · rw [if_neg c_2] at hF
      refine lv_aload_n hx hb d_Text_letterAt_12 rfl (lv_at hl 0 rfl) ?_
      refine va_get (D := (dC, dI)) (ci := 7) (v := .ref a1) (C := R_Text) (T := F_Text) (N := 3) hx hb hg iw_Text hown hK hP 0 rfl rfl 0 (by decide) (hg _ gw_76) (fun _ h9 => h9) rfl d_Text_letterAt_13 ?_
      refine lv_iload_n hx hb d_Text_letterAt_16 rfl (lv_at hl 1 rfl) ?_
      obtain ⟨h_3, hF⟩ := rd_chk hF
      refine va_iald hx hb hK hP 1 0 rfl rfl h_3 d_Text_letterAt_17 ?_
      refine lv_goto (tgt := 22) hx hb d_Text_letterAt_18 (by decide) ?_
      have e0 := Option.some.inj hF
      exact W.iret (v := (f1 (Int32.toNatClampNeg p1))) hx hb hr (fun t ht hW => ⟨⟨(f1 (Int32.toNatClampNeg p1)), (), rfl, e0, by rw [ht]; exact hP, va_K.moved hW.alike hK, (by exact hD)⟩, hS.F ht⟩) hS.2.2 d_Text_letterAt_22 hlocks
-- ===== RepairDesk$Text.readFrom(LRepairDesk$Line;)Z
abbrev wd_Text_readFrom (kA : Nat → ClassId) (a0 a1 a2 a3 : Nat) (v0_1 : Value) (x0_2 : Int32) (f1 : (Nat → Int32)) (x2_1 : Int32) (f3 : (Nat → Int32)) : va_W := [(a0, .inr (7, [.ref a1, v0_1, .int x0_2])), (a1, .inl (kA 0, 16, .inl f1)), (a2, .inr (3, [.ref a3, .int x2_1])), (a3, .inl (kA 2, 10, .inl f3))]
abbrev rm_Text_readFrom : Room := { frames := 1, cells := 0, slots := 0, locals := 22 }
def B_Text_readFrom_0 (K : Nat → Int32 → Int32 → Int32 → (Nat → Int32) → Option (Int32 × Int32 × (Nat → Int32))) (x2_1 : Int32) (f3 : (Nat → Int32)) (l2 : Int32) (l3 : Int32) (x0_2 : Int32) (f1 : (Nat → Int32)) : Option (Int32 × Int32 × (Nat → Int32)) := (if l2 ≤ l3 then (K 1 l2 0 x0_2 f1) else ((S_Line_symbolAt l3 x2_1 f3).bind fun u_2 => (if u_2 < 0 then (some (0, x0_2, f1)) else (if u_2 < 6 then (K 0 l2 (l3 + 1) x0_2 f1) else (some (0, x0_2, f1))))))
def B_Text_readFrom_1 (K : Nat → Int32 → Int32 → Int32 → (Nat → Int32) → Option (Int32 × Int32 × (Nat → Int32))) (x2_1 : Int32) (f3 : (Nat → Int32)) (l2 : Int32) (l3 : Int32) (x0_2 : Int32) (f1 : (Nat → Int32)) : Option (Int32 × Int32 × (Nat → Int32)) := (if l2 ≤ l3 then (some (1, l2, f1)) else ((S_Line_symbolAt l3 x2_1 f3).bind fun u_6 => (if (l3 : Int32) < 0 ∨ 16 ≤ (Int32.toNatClampNeg l3) then none else (K 1 l2 (l3 + 1) x0_2 (upd f1 (Int32.toNatClampNeg l3) u_6)))))
def F_Text_readFrom (x2_1 : Int32) (f3 : (Nat → Int32)) : Nat → Nat → Int32 → Int32 → Int32 → (Nat → Int32) → Option (Int32 × Int32 × (Nat → Int32))
  | 0 => fun _ _ _ _ _ => none
  | n + 1 => fun hd l2 l3 x0_2 f1 => match hd with
    | 0 => B_Text_readFrom_0 (F_Text_readFrom x2_1 f3 n) x2_1 f3 l2 l3 x0_2 f1
    | 1 => B_Text_readFrom_1 (F_Text_readFrom x2_1 f3 n) x2_1 f3 l2 l3 x0_2 f1
    | _ => none
set_option maxHeartbeats 4000000 in
set_option maxRecDepth 100000 in
theorem L_Text_readFrom {p : Program} {l : Launch} {e : Env} {s : State} {m : MethodId} {args : Array Value} {below : List Frame} {meth : Method} {c : Code} {A : Nat → Prop} {dC : Nat → ClassId} {dI : Nat → Nat → Nat} {kA : Nat → ClassId} (hx : p.tables.exec = Jvm.exec) (hb : c.code = b_Text_readFrom) (hr : meth.sig.returnType = some .boolean) (hlocks : meth.locks = false) (hml : c.maxLocals = 5) (hown : s.vm.findClass R_Text = some m.cls) (hts : ∀ w ∈ w_Text_readFrom, w.before args s = true) (hA : ∀ q : Nat, s.heap.size ≤ q → A q) (hK : va_K (dC, dI) classes (tys_ kA) s) (a0 a1 a2 a3 : Nat) (v0_1 : Value) (x2_1 : Int32) (f3 : (Nat → Int32)) (r : Int32) (ox0_2 : Int32) (of1 : (Nat → Int32)) : ∀ n : Nat, (∀ (l2 l3 : Int32) (x0_2 : Int32) (f1 : (Nat → Int32)), F_Text_readFrom x2_1 f3 n 0 l2 l3 x0_2 f1 = some (r, ox0_2, of1) → ∀ (H : Heap) (locs : List Loc) (ls : Array Slot), va_P (dC, dI) classes (wd_Text_readFrom kA a0 a1 a2 a3 v0_1 x0_2 f1 x2_1 f3) H → va_D A (wd_Text_readFrom kA a0 a1 a2 a3 v0_1 x0_2 f1 x2_1 f3) → va_S A s.heap H locs → lv_has ls 5 [(0, .ref a0), (1, .ref a2), (2, .int l2), (3, .int l3)] → W p l e (headSpec w_Text_readFrom rm_Text_readFrom).room s m args below meth c H locs 0 0 (MQ below (va_Qi (fun (r1 : Int32) (_ : Unit) => r1 = r) (fun _ t => va_P (dC, dI) classes (wd_Text_readFrom kA a0 a1 a2 a3 v0_1 ox0_2 of1 x2_1 f3) t.heap ∧ va_K (dC, dI) classes (tys_ kA) t ∧ va_D A (wd_Text_readFrom kA a0 a1 a2 a3 v0_1 ox0_2 of1 x2_1 f3)) A) args s 0 0 A) (F0 m 15 ls [])) ∧ (∀ (l2 l3 : Int32) (x0_2 : Int32) (f1 : (Nat → Int32)), F_Text_readFrom x2_1 f3 n 1 l2 l3 x0_2 f1 = some (r, ox0_2, of1) → ∀ (H : Heap) (locs : List Loc) (ls : Array Slot), va_P (dC, dI) classes (wd_Text_readFrom kA a0 a1 a2 a3 v0_1 x0_2 f1 x2_1 f3) H → va_D A (wd_Text_readFrom kA a0 a1 a2 a3 v0_1 x0_2 f1 x2_1 f3) → va_S A s.heap H locs → lv_has ls 5 [(0, .ref a0), (1, .ref a2), (2, .int l2), (3, .int l3)] → W p l e (headSpec w_Text_readFrom rm_Text_readFrom).room s m args below meth c H locs 0 0 (MQ below (va_Qi (fun (r1 : Int32) (_ : Unit) => r1 = r) (fun _ t => va_P (dC, dI) classes (wd_Text_readFrom kA a0 a1 a2 a3 v0_1 ox0_2 of1 x2_1 f3) t.heap ∧ va_K (dC, dI) classes (tys_ kA) t ∧ va_D A (wd_Text_readFrom kA a0 a1 a2 a3 v0_1 ox0_2 of1 x2_1 f3)) A) args s 0 0 A) (F0 m 49 ls [])) := by
  have hg := fun (w : Cond) (h : w ∈ gw) => hts w (List.mem_cons_of_mem _ h)
  intro n
  induction n with
  | zero =>
    exact ⟨fun _ _ _ _ hF => absurd (show (none : Option _) = some _ from hF) (fun z => by cases z), fun _ _ _ _ hF => absurd (show (none : Option _) = some _ from hF) (fun z => by cases z)⟩
  | succ n ih =>
    refine ⟨?_, ?_⟩
    · intro l2 l3 x0_2 f1 hF H locs ls hP hD hS hl
      have hF : B_Text_readFrom_0 (F_Text_readFrom x2_1 f3 n) x2_1 f3 l2 l3 x0_2 f1 = some (r, ox0_2, of1) := hF
      unfold B_Text_readFrom_0 at hF
      refine lv_iload_n hx hb d_Text_readFrom_15 rfl (lv_at hl 3 rfl) ?_
      refine lv_iload_n hx hb d_Text_readFrom_16 rfl (lv_at hl 2 rfl) ?_
      refine lv_icmp_ge (tgt := 47) hx hb d_Text_readFrom_17 (by decide) (fun c_1 => ?_) (fun c_1 => ?_)
      · rw [if_pos c_1] at hF
        refine lv_iconst (v := 0) hx hb d_Text_readFrom_47 (by decide) ?_
        refine lv_istore_n (lv' := [(3, .int 0), (0, .ref a0), (1, .ref a2), (2, .int l2)]) hx hb d_Text_readFrom_48 rfl hl (by decide) rfl (fun ls hl => ?_)
        exact ih.2 l2 0 x0_2 f1 hF _ _ _ hP hD hS (lv_sub hl [1, 2, 3, 0] rfl)
      · rw [if_neg c_1] at hF
        refine lv_aload_n hx hb d_Text_readFrom_20 rfl (lv_at hl 1 rfl) ?_
        refine lv_iload_n hx hb d_Text_readFrom_21 rfl (lv_at hl 3 rfl) ?_
        obtain ⟨u_2, hS_2, hF⟩ := rd_bind hF
        have hPc := hP.sub (ws' := (wd_Line_symbolAt kA a2 a3 x2_1 f3)) [2, 3] rfl
        have hDc := hD.sub (ws' := (wd_Line_symbolAt kA a2 a3 x2_1 f3)) [2, 3] (by decide) rfl
        have hFc := va_free (wc := (wd_Line_symbolAt kA a2 a3 x2_1 f3)) hD hS hA [2, 3] rfl
        refine va_calli (va_runV (As := [.int l3]) (rest := []) ⟨hx, hb, hml, hown, hts⟩ (c_Line_symbolAt l dC dI kA H.size a2 a3 l3 x2_1 f3 u_2 hS_2) (cwV 1 hts (gw_V gw_243 gw_26 gw_27 gw_28 gw_29) rfl rfl rfl (by decide +kernel) ⟨Nat.le_of_ble_eq_true rfl, Nat.le_of_ble_eq_true rfl⟩) ⟨fun a U g mk q => by obtain ⟨q0, q1, qP, qK, qD⟩ := q; exact ⟨q0, q1, qP, va_K.moved (u := U) (U := U.calling g mk a) (Vm.Alike.refl U.vm) qK, qD⟩, va_recv hK hP (ci := 3) (q0 := 2) rfl rfl, fun U hU hW => ⟨rfl, by rw [hU], by rw [hU]; exact hPc, va_K.moved hW.alike hK, hDc.weaken (fun _ _ _ _ => trivial)⟩⟩ rfl rfl hl.1 rfl (lv_room (Nat.le_of_ble_eq_true rfl)) d_Text_readFrom_22 ⟨Nat.zero_le _, Nat.zero_le _⟩) hS (fun q _ h => hFc q h) hFc (fun r1 u t H1 locs ht hvm hw hB hz1 hk1 hS => ?_)
        rw [show r1 = _ from hw]
        obtain ⟨hP1, hK1, hD1⟩ := hB
        rw [ht] at hP1
        obtain ⟨hP, hD⟩ := va_join (wr := [(a0, .inr (7, [.ref a1, v0_1, .int x0_2])), (a1, .inl (kA 0, 16, .inl f1))]) (w1 := (wd_Line_symbolAt kA a2 a3 x2_1 f3)) hP hD [2, 3] [0, 1] rfl rfl (by decide) (by decide) hk1 hFc hP1 hD1
        have hP := hP.sub (ws' := (wd_Text_readFrom kA a0 a1 a2 a3 v0_1 x0_2 f1 x2_1 f3)) [0, 1, 2, 3] rfl
        have hD := hD.sub (ws' := (wd_Text_readFrom kA a0 a1 a2 a3 v0_1 x0_2 f1 x2_1 f3)) [0, 1, 2, 3] (by decide) rfl
        clear hPc hDc hFc hP1 hK1 hD1
        generalize H1 = H at hP hS ⊢
        refine lv_istore (lv' := [(4, .int u_2), (0, .ref a0), (1, .ref a2), (2, .int l2), (3, .int l3)]) hx hb d_Text_readFrom_25 hl (by decide) rfl (fun ls hl => ?_)
        refine lv_iload hx hb d_Text_readFrom_27 (lv_at hl 0 rfl) ?_
        refine lv_if_lt (tgt := 39) hx hb d_Text_readFrom_29 (by decide) (fun c_3 => ?_) (fun c_3 => ?_)
        · rw [if_pos c_3] at hF
          refine lv_iconst (v := 0) hx hb d_Text_readFrom_39 (by decide) ?_
          have e0 := Option.some.inj hF
          have q0 := Prod.mk.inj e0
          have q1 := Prod.mk.inj q0.2
          exact W.zret (v := 0) hx hb hr rfl (fun t ht hW => ⟨⟨0, (), rfl, q0.1, by rw [ht, ← q1.1, ← q1.2]; exact hP, va_K.moved hW.alike hK, (by rw [← q1.1, ← q1.2]; exact hD)⟩, hS.F ht⟩) hS.2.2 d_Text_readFrom_40 hlocks
        · rw [if_neg c_3] at hF
          refine lv_iload hx hb d_Text_readFrom_32 (lv_at hl 0 rfl) ?_
          refine lv_bipush (v := 6) hx hb d_Text_readFrom_34 (by decide) ?_
          refine lv_icmp_lt (tgt := 41) hx hb d_Text_readFrom_36 (by decide) (fun c_4 => ?_) (fun c_4 => ?_)
          · rw [if_pos c_4] at hF
            refine lv_iinc (v := (l3 + 1)) (lv' := [(3, .int (l3 + 1)), (4, .int u_2), (0, .ref a0), (1, .ref a2), (2, .int l2)]) hx hb d_Text_readFrom_41 hl (k := 4) rfl (by rfl) (by decide) rfl (fun ls hl => ?_)
            refine lv_goto (tgt := 15) hx hb d_Text_readFrom_44 (by decide) ?_
            exact ih.1 l2 (l3 + 1) x0_2 f1 hF _ _ _ hP hD hS (lv_sub hl [2, 3, 4, 0] rfl)
          · rw [if_neg c_4] at hF
            refine lv_iconst (v := 0) hx hb d_Text_readFrom_39 (by decide) ?_
            have e0 := Option.some.inj hF
            have q0 := Prod.mk.inj e0
            have q1 := Prod.mk.inj q0.2
            exact W.zret (v := 0) hx hb hr rfl (fun t ht hW => ⟨⟨0, (), rfl, q0.1, by rw [ht, ← q1.1, ← q1.2]; exact hP, va_K.moved hW.alike hK, (by rw [← q1.1, ← q1.2]; exact hD)⟩, hS.F ht⟩) hS.2.2 d_Text_readFrom_40 hlocks
    · intro l2 l3 x0_2 f1 hF H locs ls hP hD hS hl
      have hF : B_Text_readFrom_1 (F_Text_readFrom x2_1 f3 n) x2_1 f3 l2 l3 x0_2 f1 = some (r, ox0_2, of1) := hF
      unfold B_Text_readFrom_1 at hF
      refine lv_iload_n hx hb d_Text_readFrom_49 rfl (lv_at hl 3 rfl) ?_
      refine lv_iload_n hx hb d_Text_readFrom_50 rfl (lv_at hl 2 rfl) ?_
      refine lv_icmp_ge (tgt := 71) hx hb d_Text_readFrom_51 (by decide) (fun c_5 => ?_) (fun c_5 => ?_)
      · rw [if_pos c_5] at hF
        refine lv_aload_n hx hb d_Text_readFrom_71 rfl (lv_at hl 0 rfl) ?_
        refine lv_iload_n hx hb d_Text_readFrom_72 rfl (lv_at hl 2 rfl) ?_
        refine va_put (D := (dC, dI)) (ci := 7) (v := .int l2) (ty := .int) (C := R_Text) (T := F_Text) (N := 3) hx hb hg iw_Text t_Text t_Text_ok n_Text hown hK hP hD hS 0 rfl rfl 2 (by decide) (hg _ gw_75) (fun _ h9 => h9) rfl (by decide +kernel) rfl rfl (Nat.le_of_ble_eq_true rfl) d_Text_readFrom_73 (fun H locs hP hD hS => ?_)
        have hP : va_P (dC, dI) classes (wd_Text_readFrom kA a0 a1 a2 a3 v0_1 l2 f1 x2_1 f3) H := hP
        have hD : va_D A (wd_Text_readFrom kA a0 a1 a2 a3 v0_1 l2 f1 x2_1 f3) := hD
        refine lv_iconst (v := 1) hx hb d_Text_readFrom_76 (by decide) ?_
        have e0 := Option.some.inj hF
        have q0 := Prod.mk.inj e0
        have q1 := Prod.mk.inj q0.2
        exact W.zret (v := 1) hx hb hr rfl (fun t ht hW => ⟨⟨1, (), rfl, q0.1, by rw [ht, ← q1.1, ← q1.2]; exact hP, va_K.moved hW.alike hK, (by rw [← q1.1, ← q1.2]; exact hD)⟩, hS.F ht⟩) hS.2.2 d_Text_readFrom_77 hlocks
      · rw [if_neg c_5] at hF
        refine lv_aload_n hx hb d_Text_readFrom_54 rfl (lv_at hl 0 rfl) ?_
        refine va_get (D := (dC, dI)) (ci := 7) (v := .ref a1) (C := R_Text) (T := F_Text) (N := 3) hx hb hg iw_Text hown hK hP 0 rfl rfl 0 (by decide) (hg _ gw_76) (fun _ h9 => h9) rfl d_Text_readFrom_55 ?_
        refine lv_iload_n hx hb d_Text_readFrom_58 rfl (lv_at hl 3 rfl) ?_
        refine lv_aload_n hx hb d_Text_readFrom_59 rfl (lv_at hl 1 rfl) ?_
        refine lv_iload_n hx hb d_Text_readFrom_60 rfl (lv_at hl 3 rfl) ?_
        obtain ⟨u_6, hS_6, hF⟩ := rd_bind hF
        have hPc := hP.sub (ws' := (wd_Line_symbolAt kA a2 a3 x2_1 f3)) [2, 3] rfl
        have hDc := hD.sub (ws' := (wd_Line_symbolAt kA a2 a3 x2_1 f3)) [2, 3] (by decide) rfl
        have hFc := va_free (wc := (wd_Line_symbolAt kA a2 a3 x2_1 f3)) hD hS hA [2, 3] rfl
        refine va_calli (va_runV (As := [.int l3]) (rest := [.int l3, .ref a1]) ⟨hx, hb, hml, hown, hts⟩ (c_Line_symbolAt l dC dI kA H.size a2 a3 l3 x2_1 f3 u_6 hS_6) (cwV 1 hts (gw_V gw_243 gw_26 gw_27 gw_28 gw_29) rfl rfl rfl (by decide +kernel) ⟨Nat.le_of_ble_eq_true rfl, Nat.le_of_ble_eq_true rfl⟩) ⟨fun a U g mk q => by obtain ⟨q0, q1, qP, qK, qD⟩ := q; exact ⟨q0, q1, qP, va_K.moved (u := U) (U := U.calling g mk a) (Vm.Alike.refl U.vm) qK, qD⟩, va_recv hK hP (ci := 3) (q0 := 2) rfl rfl, fun U hU hW => ⟨rfl, by rw [hU], by rw [hU]; exact hPc, va_K.moved hW.alike hK, hDc.weaken (fun _ _ _ _ => trivial)⟩⟩ rfl rfl hl.1 rfl (lv_room (Nat.le_of_ble_eq_true rfl)) d_Text_readFrom_61 ⟨Nat.zero_le _, Nat.zero_le _⟩) hS (fun q _ h => hFc q h) hFc (fun r1 u t H1 locs ht hvm hw hB hz1 hk1 hS => ?_)
        rw [show r1 = _ from hw]
        obtain ⟨hP1, hK1, hD1⟩ := hB
        rw [ht] at hP1
        obtain ⟨hP, hD⟩ := va_join (wr := [(a0, .inr (7, [.ref a1, v0_1, .int x0_2])), (a1, .inl (kA 0, 16, .inl f1))]) (w1 := (wd_Line_symbolAt kA a2 a3 x2_1 f3)) hP hD [2, 3] [0, 1] rfl rfl (by decide) (by decide) hk1 hFc hP1 hD1
        have hP := hP.sub (ws' := (wd_Text_readFrom kA a0 a1 a2 a3 v0_1 x0_2 f1 x2_1 f3)) [0, 1, 2, 3] rfl
        have hD := hD.sub (ws' := (wd_Text_readFrom kA a0 a1 a2 a3 v0_1 x0_2 f1 x2_1 f3)) [0, 1, 2, 3] (by decide) rfl
        clear hPc hDc hFc hP1 hK1 hD1
        generalize H1 = H at hP hS ⊢
        obtain ⟨h_7, hF⟩ := rd_chk hF
        refine va_iast hx hb hK hP hD hS 1 0 rfl rfl h_7 d_Text_readFrom_64 (fun H locs hP hD hS => ?_)
        have hP : va_P (dC, dI) classes (wd_Text_readFrom kA a0 a1 a2 a3 v0_1 x0_2 (upd f1 (Int32.toNatClampNeg l3) u_6) x2_1 f3) H := hP
        have hD : va_D A (wd_Text_readFrom kA a0 a1 a2 a3 v0_1 x0_2 (upd f1 (Int32.toNatClampNeg l3) u_6) x2_1 f3) := hD
        refine lv_iinc (v := (l3 + 1)) (lv' := [(3, .int (l3 + 1)), (0, .ref a0), (1, .ref a2), (2, .int l2)]) hx hb d_Text_readFrom_65 hl (k := 3) rfl (by rfl) (by decide) rfl (fun ls hl => ?_)
        refine lv_goto (tgt := 49) hx hb d_Text_readFrom_68 (by decide) ?_
        exact ih.2 l2 (l3 + 1) x0_2 (upd f1 (Int32.toNatClampNeg l3) u_6) hF _ _ _ hP hD hS (lv_sub hl [1, 2, 3, 0] rfl)
def S_Text_readFrom (x0_2 : Int32) (f1 : (Nat → Int32)) (x2_1 : Int32) (f3 : (Nat → Int32)) : Option (Int32 × Int32 × (Nat → Int32)) := ((S_Line_size x2_1).bind fun u_8 => (if u_8 ≤ 8 then (F_Text_readFrom x2_1 f3 fuel_ 0 u_8 0 x0_2 f1) else (some (0, x0_2, f1))))
set_option maxHeartbeats 4000000 in
set_option maxRecDepth 100000 in
theorem c_Text_readFrom (l : Launch) (dC : Nat → ClassId) (dI : Nat → Nat → Nat) (kA : Nat → ClassId) (sz : Nat) (a0 a1 a2 a3 : Nat) (v0_1 : Value) (x0_2 : Int32) (f1 : (Nat → Int32)) (x2_1 : Int32) (f3 : (Nat → Int32)) (r : Int32) (ox0_2 : Int32) (of1 : (Nat → Int32)) (hF : S_Text_readFrom x0_2 f1 x2_1 f3 = some (r, ox0_2, of1)) : Met l y_Text_readFrom w_Text_readFrom rm_Text_readFrom (va_Pc [.ref a0, .ref a2] (fun U => U.heap.size = sz ∧ va_P (dC, dI) classes (wd_Text_readFrom kA a0 a1 a2 a3 v0_1 x0_2 f1 x2_1 f3) U.heap ∧ va_K (dC, dI) classes (tys_ kA) U ∧ va_D (fun _ => True) (wd_Text_readFrom kA a0 a1 a2 a3 v0_1 x0_2 f1 x2_1 f3))) (va_Qi (fun (r1 : Int32) (_ : Unit) => r1 = r) (fun _ t => va_P (dC, dI) classes (wd_Text_readFrom kA a0 a1 a2 a3 v0_1 ox0_2 of1 x2_1 f3) t.heap ∧ va_K (dC, dI) classes (tys_ kA) t ∧ va_D (va_A (wd_Text_readFrom kA a0 a1 a2 a3 v0_1 x0_2 f1 x2_1 f3) sz) (wd_Text_readFrom kA a0 a1 a2 a3 v0_1 ox0_2 of1 x2_1 f3)) (va_A (wd_Text_readFrom kA a0 a1 a2 a3 v0_1 x0_2 f1 x2_1 f3) sz)) 0 0 (va_A (wd_Text_readFrom kA a0 a1 a2 a3 v0_1 x0_2 f1 x2_1 f3) sz) := by
  refine Met.ofW (cc := b_Text_readFrom) (maxL := 5) (ret := some .boolean) (by decide) rfl ?_
  intro p e s m args below meth c s₁ B hml hv
  obtain ⟨rfl, hsz, hP, hK, hD0⟩ := hv
  have hx := B.exec
  have hb := B.bytes
  have hr := B.returns
  have hts := atoms_spec (ws := w_Text_readFrom) B.pre
  have hown : s.vm.findClass R_Text = some m.cls := findClass_of_methodNamed B.named
  have hg := fun (w : Cond) (h : w ∈ gw) => hts w (List.mem_cons_of_mem _ h)
  have hlocks := B.notSynchronized
  subst hsz
  have hD := hD0.self (sz := s.heap.size)
  generalize hAe : va_A (wd_Text_readFrom kA a0 a1 a2 a3 v0_1 x0_2 f1 x2_1 f3) s.heap.size = A at hD ⊢
  have hA : ∀ q : Nat, s.heap.size ≤ q → A q := fun q h => by rw [← hAe]; exact Or.inr h
  have hS : va_S A s.heap s.heap [] := va_S.rf
  have hl := lv_entry ([.ref a0, .ref a2]) (n := 5) (Nat.le_of_ble_eq_true rfl)
  rw [lg_entry_eq]
  generalize (lg_sl ([.ref a0, .ref a2]) ++ List.replicate (5 - (lg_sl ([.ref a0, .ref a2])).length) Slot.unset).toArray = ls at hl ⊢
  have hl : lv_has ls 5 [(0, .ref a0), (1, .ref a2)] := hl
  unfold S_Text_readFrom at hF
  have ih := L_Text_readFrom (l := l) (e := e) (below := below) hx hb hr hlocks hml hown hts hA hK a0 a1 a2 a3 v0_1 x2_1 f3 r ox0_2 of1 fuel_
  refine lv_aload_n hx hb d_Text_readFrom_0 rfl (lv_at hl 1 rfl) ?_
  obtain ⟨u_8, hS_8, hF⟩ := rd_bind hF
  have hPc := hP.sub (ws' := (wd_Line_size kA a2 (.ref a3) x2_1)) [2] rfl
  have hDc := hD.sub (ws' := (wd_Line_size kA a2 (.ref a3) x2_1)) [2] (by decide) rfl
  have hFc := va_free (wc := (wd_Line_size kA a2 (.ref a3) x2_1)) hD hS hA [2] rfl
  refine va_calli (va_runV (As := []) (rest := []) ⟨hx, hb, hml, hown, hts⟩ (c_Line_size l dC dI kA s.heap.size a2 (.ref a3) x2_1 u_8 hS_8) (cwV 0 hts (gw_V gw_244 gw_32 gw_33 gw_28 gw_34) rfl rfl rfl (by decide +kernel) ⟨Nat.le_of_ble_eq_true rfl, Nat.le_of_ble_eq_true rfl⟩) ⟨fun a U g mk q => by obtain ⟨q0, q1, qP, qK, qD⟩ := q; exact ⟨q0, q1, qP, va_K.moved (u := U) (U := U.calling g mk a) (Vm.Alike.refl U.vm) qK, qD⟩, va_recv hK hP (ci := 3) (q0 := 2) rfl rfl, fun U hU hW => ⟨rfl, by rw [hU], by rw [hU]; exact hPc, va_K.moved hW.alike hK, hDc.weaken (fun _ _ _ _ => trivial)⟩⟩ rfl rfl hl.1 rfl (lv_room (Nat.le_of_ble_eq_true rfl)) d_Text_readFrom_1 ⟨Nat.zero_le _, Nat.zero_le _⟩) hS (fun q _ h => hFc q h) hFc (fun r1 u t H1 locs ht hvm hw hB hz1 hk1 hS => ?_)
  rw [show r1 = _ from hw]
  obtain ⟨hP1, hK1, hD1⟩ := hB
  rw [ht] at hP1
  obtain ⟨hP, hD⟩ := va_join (wr := [(a0, .inr (7, [.ref a1, v0_1, .int x0_2])), (a1, .inl (kA 0, 16, .inl f1)), (a3, .inl (kA 2, 10, .inl f3))]) (w1 := (wd_Line_size kA a2 (.ref a3) x2_1)) hP hD [2] [0, 1, 3] rfl rfl (by decide) (by decide) hk1 hFc hP1 hD1
  have hP := hP.sub (ws' := (wd_Text_readFrom kA a0 a1 a2 a3 v0_1 x0_2 f1 x2_1 f3)) [0, 1, 3, 2] rfl
  have hD := hD.sub (ws' := (wd_Text_readFrom kA a0 a1 a2 a3 v0_1 x0_2 f1 x2_1 f3)) [0, 1, 3, 2] (by decide) rfl
  clear hPc hDc hFc hP1 hK1 hD1
  generalize H1 = H at hP hS ⊢
  refine lv_istore_n (lv' := [(2, .int u_8), (0, .ref a0), (1, .ref a2)]) hx hb d_Text_readFrom_4 rfl hl (by decide) rfl (fun ls hl => ?_)
  refine lv_iload_n hx hb d_Text_readFrom_5 rfl (lv_at hl 0 rfl) ?_
  refine lv_bipush (v := 8) hx hb d_Text_readFrom_6 (by decide) ?_
  refine lv_icmp_le (tgt := 13) hx hb d_Text_readFrom_8 (by decide) (fun c_9 => ?_) (fun c_9 => ?_)
  · rw [if_pos c_9] at hF
    refine lv_iconst (v := 0) hx hb d_Text_readFrom_13 (by decide) ?_
    refine lv_istore_n (lv' := [(3, .int 0), (2, .int u_8), (0, .ref a0), (1, .ref a2)]) hx hb d_Text_readFrom_14 rfl hl (by decide) rfl (fun ls hl => ?_)
    exact ih.1 u_8 0 x0_2 f1 hF _ _ _ hP hD hS (lv_sub hl [2, 3, 1, 0] rfl)
  · rw [if_neg c_9] at hF
    refine lv_iconst (v := 0) hx hb d_Text_readFrom_11 (by decide) ?_
    have e0 := Option.some.inj hF
    have q0 := Prod.mk.inj e0
    have q1 := Prod.mk.inj q0.2
    exact W.zret (v := 0) hx hb hr rfl (fun t ht hW => ⟨⟨0, (), rfl, q0.1, by rw [ht, ← q1.1, ← q1.2]; exact hP, va_K.moved hW.alike hK, (by rw [← q1.1, ← q1.2]; exact hD)⟩, hS.F ht⟩) hS.2.2 d_Text_readFrom_12 hlocks
-- ===== RepairDesk$Text.copyInto(III)I
abbrev wd_Text_copyInto (kA : Nat → ClassId) (a0 a1 a2 : Nat) (x0_2 : Int32) (f1 : (Nat → Int32)) (f2 : (Nat → Int32)) : va_W := [(a0, .inr (7, [.ref a1, .ref a2, .int x0_2])), (a1, .inl (kA 0, 16, .inl f1)), (a2, .inl (kA 0, 16, .inl f2))]
abbrev rm_Text_copyInto : Room := { frames := 0, cells := 0, slots := 0, locals := 0 }
def B_Text_copyInto_0 (K : Nat → Int32 → Int32 → Int32 → Int32 → Int32 → (Nat → Int32) → Option (Int32 × (Nat → Int32))) (x0_2 : Int32) (f1 : (Nat → Int32)) (l1 : Int32) (l2 : Int32) (l3 : Int32) (l4 : Int32) (l5 : Int32) (f2 : (Nat → Int32)) : Option (Int32 × (Nat → Int32)) := (if l3 ≤ l5 then (some (l4, f2)) else (if x0_2 ≤ l5 then (some (l4, f2)) else (if 16 ≤ l4 then (some (l4, f2)) else (if (l5 : Int32) < 0 ∨ 16 ≤ (Int32.toNatClampNeg l5) then none else (if (l4 : Int32) < 0 ∨ 16 ≤ (Int32.toNatClampNeg l4) then none else (K 0 l1 l2 l3 (l4 + 1) (l5 + 1) (upd f2 (Int32.toNatClampNeg l4) (f1 (Int32.toNatClampNeg l5)))))))))
def F_Text_copyInto (x0_2 : Int32) (f1 : (Nat → Int32)) : Nat → Nat → Int32 → Int32 → Int32 → Int32 → Int32 → (Nat → Int32) → Option (Int32 × (Nat → Int32))
  | 0 => fun _ _ _ _ _ _ _ => none
  | n + 1 => fun hd l1 l2 l3 l4 l5 f2 => match hd with
    | 0 => B_Text_copyInto_0 (F_Text_copyInto x0_2 f1 n) x0_2 f1 l1 l2 l3 l4 l5 f2
    | _ => none
set_option maxHeartbeats 4000000 in
set_option maxRecDepth 100000 in
theorem L_Text_copyInto {p : Program} {l : Launch} {e : Env} {s : State} {m : MethodId} {args : Array Value} {below : List Frame} {meth : Method} {c : Code} {A : Nat → Prop} {dC : Nat → ClassId} {dI : Nat → Nat → Nat} {kA : Nat → ClassId} (hx : p.tables.exec = Jvm.exec) (hb : c.code = b_Text_copyInto) (hr : meth.sig.returnType = some .int) (hlocks : meth.locks = false) (hml : c.maxLocals = 6) (hown : s.vm.findClass R_Text = some m.cls) (hts : ∀ w ∈ w_Text_copyInto, w.before args s = true) (hA : ∀ q : Nat, s.heap.size ≤ q → A q) (hK : va_K (dC, dI) classes (tys_ kA) s) (a0 a1 a2 : Nat) (x0_2 : Int32) (f1 : (Nat → Int32)) (r : Int32) (of2 : (Nat → Int32)) : ∀ n : Nat, (∀ (l1 l2 l3 l4 l5 : Int32) (f2 : (Nat → Int32)), F_Text_copyInto x0_2 f1 n 0 l1 l2 l3 l4 l5 f2 = some (r, of2) → ∀ (H : Heap) (locs : List Loc) (ls : Array Slot), va_P (dC, dI) classes (wd_Text_copyInto kA a0 a1 a2 x0_2 f1 f2) H → va_D A (wd_Text_copyInto kA a0 a1 a2 x0_2 f1 f2) → va_S A s.heap H locs → lv_has ls 6 [(0, .ref a0), (1, .int l1), (2, .int l2), (3, .int l3), (4, .int l4), (5, .int l5)] → W p l e (headSpec w_Text_copyInto rm_Text_copyInto).room s m args below meth c H locs 0 0 (MQ below (va_Qi (fun (r1 : Int32) (_ : Unit) => r1 = r) (fun _ t => va_P (dC, dI) classes (wd_Text_copyInto kA a0 a1 a2 x0_2 f1 of2) t.heap ∧ va_K (dC, dI) classes (tys_ kA) t ∧ va_D A (wd_Text_copyInto kA a0 a1 a2 x0_2 f1 of2)) A) args s 0 0 A) (F0 m 6 ls [])) := by
  have hg := fun (w : Cond) (h : w ∈ gw) => hts w (List.mem_cons_of_mem _ h)
  intro n
  induction n with
  | zero =>
    exact fun _ _ _ _ _ _ hF => absurd (show (none : Option _) = some _ from hF) (fun z => by cases z)
  | succ n ih =>
    intro l1 l2 l3 l4 l5 f2 hF H locs ls hP hD hS hl
    have hF : B_Text_copyInto_0 (F_Text_copyInto x0_2 f1 n) x0_2 f1 l1 l2 l3 l4 l5 f2 = some (r, of2) := hF
    unfold B_Text_copyInto_0 at hF
    refine lv_iload hx hb d_Text_copyInto_6 (lv_at hl 5 rfl) ?_
    refine lv_iload_n hx hb d_Text_copyInto_8 rfl (lv_at hl 3 rfl) ?_
    refine lv_icmp_ge (tgt := 51) hx hb d_Text_copyInto_9 (by decide) (fun c_1 => ?_) (fun c_1 => ?_)
    · rw [if_pos c_1] at hF
      refine lv_iload hx hb d_Text_copyInto_51 (lv_at hl 4 rfl) ?_
      have e0 := Option.some.inj hF
      have q0 := Prod.mk.inj e0
      exact W.iret (v := l4) hx hb hr (fun t ht hW => ⟨⟨l4, (), rfl, q0.1, by rw [ht, ← q0.2]; exact hP, va_K.moved hW.alike hK, (by rw [← q0.2]; exact hD)⟩, hS.F ht⟩) hS.2.2 d_Text_copyInto_53 hlocks
    · rw [if_neg c_1] at hF
      refine lv_iload hx hb d_Text_copyInto_12 (lv_at hl 5 rfl) ?_
      refine lv_aload_n hx hb d_Text_copyInto_14 rfl (lv_at hl 0 rfl) ?_
      refine va_get (D := (dC, dI)) (ci := 7) (v := .int x0_2) (C := R_Text) (T := F_Text) (N := 3) hx hb hg iw_Text hown hK hP 0 rfl rfl 2 (by decide) (hg _ gw_75) (fun _ h9 => h9) rfl d_Text_copyInto_15 ?_
      refine lv_icmp_ge (tgt := 51) hx hb d_Text_copyInto_18 (by decide) (fun c_2 => ?_) (fun c_2 => ?_)
      · rw [if_pos c_2] at hF
        refine lv_iload hx hb d_Text_copyInto_51 (lv_at hl 4 rfl) ?_
        have e0 := Option.some.inj hF
        have q0 := Prod.mk.inj e0
        exact W.iret (v := l4) hx hb hr (fun t ht hW => ⟨⟨l4, (), rfl, q0.1, by rw [ht, ← q0.2]; exact hP, va_K.moved hW.alike hK, (by rw [← q0.2]; exact hD)⟩, hS.F ht⟩) hS.2.2 d_Text_copyInto_53 hlocks
      · rw [if_neg c_2] at hF
        refine lv_iload hx hb d_Text_copyInto_21 (lv_at hl 4 rfl) ?_
        refine lv_bipush (v := 16) hx hb d_Text_copyInto_23 (by decide) ?_
        refine lv_icmp_ge (tgt := 51) hx hb d_Text_copyInto_25 (by decide) (fun c_3 => ?_) (fun c_3 => ?_)
        · rw [if_pos c_3] at hF
          refine lv_iload hx hb d_Text_copyInto_51 (lv_at hl 4 rfl) ?_
          have e0 := Option.some.inj hF
          have q0 := Prod.mk.inj e0
          exact W.iret (v := l4) hx hb hr (fun t ht hW => ⟨⟨l4, (), rfl, q0.1, by rw [ht, ← q0.2]; exact hP, va_K.moved hW.alike hK, (by rw [← q0.2]; exact hD)⟩, hS.F ht⟩) hS.2.2 d_Text_copyInto_53 hlocks
        · rw [if_neg c_3] at hF
          refine lv_aload_n hx hb d_Text_copyInto_28 rfl (lv_at hl 0 rfl) ?_
          refine va_get (D := (dC, dI)) (ci := 7) (v := .ref a2) (C := R_Text) (T := F_Text) (N := 3) hx hb hg iw_Text hown hK hP 0 rfl rfl 1 (by decide) (hg _ gw_245) (fun _ h9 => h9) rfl d_Text_copyInto_29 ?_
          refine lv_iload hx hb d_Text_copyInto_32 (lv_at hl 4 rfl) ?_
          refine lv_aload_n hx hb d_Text_copyInto_34 rfl (lv_at hl 0 rfl) ?_
          refine va_get (D := (dC, dI)) (ci := 7) (v := .ref a1) (C := R_Text) (T := F_Text) (N := 3) hx hb hg iw_Text hown hK hP 0 rfl rfl 0 (by decide) (hg _ gw_76) (fun _ h9 => h9) rfl d_Text_copyInto_35 ?_
          refine lv_iload hx hb d_Text_copyInto_38 (lv_at hl 5 rfl) ?_
          obtain ⟨h_4, hF⟩ := rd_chk hF
          refine va_iald hx hb hK hP 1 0 rfl rfl h_4 d_Text_copyInto_40 ?_
          obtain ⟨h_5, hF⟩ := rd_chk hF
          refine va_iast hx hb hK hP hD hS 2 0 rfl rfl h_5 d_Text_copyInto_41 (fun H locs hP hD hS => ?_)
          have hP : va_P (dC, dI) classes (wd_Text_copyInto kA a0 a1 a2 x0_2 f1 (upd f2 (Int32.toNatClampNeg l4) (f1 (Int32.toNatClampNeg l5)))) H := hP
          have hD : va_D A (wd_Text_copyInto kA a0 a1 a2 x0_2 f1 (upd f2 (Int32.toNatClampNeg l4) (f1 (Int32.toNatClampNeg l5)))) := hD
          refine lv_iinc (v := (l4 + 1)) (lv' := [(4, .int (l4 + 1)), (0, .ref a0), (1, .int l1), (2, .int l2), (3, .int l3), (5, .int l5)]) hx hb d_Text_copyInto_42 hl (k := 4) rfl (by rfl) (by decide) rfl (fun ls hl => ?_)
          refine lv_iinc (v := (l5 + 1)) (lv' := [(5, .int (l5 + 1)), (4, .int (l4 + 1)), (0, .ref a0), (1, .int l1), (2, .int l2), (3, .int l3)]) hx hb d_Text_copyInto_45 hl (k := 5) rfl (by rfl) (by decide) rfl (fun ls hl => ?_)
          refine lv_goto (tgt := 6) hx hb d_Text_copyInto_48 (by decide) ?_
          exact ih l1 l2 l3 (l4 + 1) (l5 + 1) (upd f2 (Int32.toNatClampNeg l4) (f1 (Int32.toNatClampNeg l5))) hF _ _ _ hP hD hS (lv_sub hl [2, 3, 4, 5, 1, 0] rfl)
def S_Text_copyInto (p1 : Int32) (p2 : Int32) (p3 : Int32) (x0_2 : Int32) (f1 : (Nat → Int32)) (f2 : (Nat → Int32)) : Option (Int32 × (Nat → Int32)) := (F_Text_copyInto x0_2 f1 fuel_ 0 p1 p2 p3 p1 p2 f2)
set_option maxHeartbeats 4000000 in
set_option maxRecDepth 100000 in
theorem c_Text_copyInto (l : Launch) (dC : Nat → ClassId) (dI : Nat → Nat → Nat) (kA : Nat → ClassId) (sz : Nat) (a0 a1 a2 : Nat) (p1 : Int32) (p2 : Int32) (p3 : Int32) (x0_2 : Int32) (f1 : (Nat → Int32)) (f2 : (Nat → Int32)) (r : Int32) (of2 : (Nat → Int32)) (hF : S_Text_copyInto p1 p2 p3 x0_2 f1 f2 = some (r, of2)) : Met l y_Text_copyInto w_Text_copyInto rm_Text_copyInto (va_Pc [.ref a0, .int p1, .int p2, .int p3] (fun U => U.heap.size = sz ∧ va_P (dC, dI) classes (wd_Text_copyInto kA a0 a1 a2 x0_2 f1 f2) U.heap ∧ va_K (dC, dI) classes (tys_ kA) U ∧ va_D (fun _ => True) (wd_Text_copyInto kA a0 a1 a2 x0_2 f1 f2))) (va_Qi (fun (r1 : Int32) (_ : Unit) => r1 = r) (fun _ t => va_P (dC, dI) classes (wd_Text_copyInto kA a0 a1 a2 x0_2 f1 of2) t.heap ∧ va_K (dC, dI) classes (tys_ kA) t ∧ va_D (va_A (wd_Text_copyInto kA a0 a1 a2 x0_2 f1 f2) sz) (wd_Text_copyInto kA a0 a1 a2 x0_2 f1 of2)) (va_A (wd_Text_copyInto kA a0 a1 a2 x0_2 f1 f2) sz)) 0 0 (va_A (wd_Text_copyInto kA a0 a1 a2 x0_2 f1 f2) sz) := by
  refine Met.ofW (cc := b_Text_copyInto) (maxL := 6) (ret := some .int) (by decide) rfl ?_
  intro p e s m args below meth c s₁ B hml hv
  obtain ⟨rfl, hsz, hP, hK, hD0⟩ := hv
  have hx := B.exec
  have hb := B.bytes
  have hr := B.returns
  have hts := atoms_spec (ws := w_Text_copyInto) B.pre
  have hown : s.vm.findClass R_Text = some m.cls := findClass_of_methodNamed B.named
  have hg := fun (w : Cond) (h : w ∈ gw) => hts w (List.mem_cons_of_mem _ h)
  have hlocks := B.notSynchronized
  subst hsz
  have hD := hD0.self (sz := s.heap.size)
  generalize hAe : va_A (wd_Text_copyInto kA a0 a1 a2 x0_2 f1 f2) s.heap.size = A at hD ⊢
  have hA : ∀ q : Nat, s.heap.size ≤ q → A q := fun q h => by rw [← hAe]; exact Or.inr h
  have hS : va_S A s.heap s.heap [] := va_S.rf
  have hl := lv_entry ([.ref a0, .int p1, .int p2, .int p3]) (n := 6) (Nat.le_of_ble_eq_true rfl)
  rw [lg_entry_eq]
  generalize (lg_sl ([.ref a0, .int p1, .int p2, .int p3]) ++ List.replicate (6 - (lg_sl ([.ref a0, .int p1, .int p2, .int p3])).length) Slot.unset).toArray = ls at hl ⊢
  have hl : lv_has ls 6 [(0, .ref a0), (1, .int p1), (2, .int p2), (3, .int p3)] := hl
  unfold S_Text_copyInto at hF
  have ih := L_Text_copyInto (l := l) (e := e) (below := below) hx hb hr hlocks hml hown hts hA hK a0 a1 a2  x0_2 f1 r of2 fuel_
  refine lv_iload_n hx hb d_Text_copyInto_0 rfl (lv_at hl 1 rfl) ?_
  refine lv_istore (lv' := [(4, .int p1), (0, .ref a0), (1, .int p1), (2, .int p2), (3, .int p3)]) hx hb d_Text_copyInto_1 hl (by decide) rfl (fun ls hl => ?_)
  refine lv_iload_n hx hb d_Text_copyInto_3 rfl (lv_at hl 3 rfl) ?_
  refine lv_istore (lv' := [(5, .int p2), (4, .int p1), (0, .ref a0), (1, .int p1), (2, .int p2), (3, .int p3)]) hx hb d_Text_copyInto_4 hl (by decide) rfl (fun ls hl => ?_)
  exact ih p1 p2 p3 p1 p2 f2 hF _ _ _ hP hD hS (lv_sub hl [2, 3, 4, 5, 1, 0] rfl)
-- ===== RepairDesk$Text.mend(LRepairDesk$Finds;I)V
abbrev wd_Text_mend (kA : Nat → ClassId) (a0 a1 a2 a3 a4 a5 : Nat) (v3_2 v3_4 : Value) (x0_2 : Int32) (f1 : (Nat → Int32)) (f2 : (Nat → Int32)) (x3_3 : Int32) (x3_5 : Int32) (f4 : (Nat → Int32)) (f5 : (Nat → Int32)) : va_W := [(a0, .inr (7, [.ref a1, .ref a2, .int x0_2])), (a1, .inl (kA 0, 16, .inl f1)), (a2, .inl (kA 0, 16, .inl f2)), (a3, .inr (1, [.ref a5, .ref a4, v3_2, .int x3_3, v3_4, .int x3_5])), (a4, .inl (kA 0, 40, .inl f4)), (a5, .inl (kA 0, 240, .inl f5))]
abbrev rm_Text_mend : Room := { frames := 3, cells := 0, slots := 0, locals := 64 }
def B_Text_mend_0 (K : Nat → Int32 → Int32 → Int32 → Int32 → Int32 → Int32 → (Nat → Int32) → (Nat → Int32) → Option (Int32 × (Nat → Int32) × (Nat → Int32))) (x3_3 : Int32) (x3_5 : Int32) (f4 : (Nat → Int32)) (f5 : (Nat → Int32)) (l2 : Int32) (l3 : Int32) (l4 : Int32) (l5 : Int32) (l6 : Int32) (x0_2 : Int32) (f1 : (Nat → Int32)) (f2 : (Nat → Int32)) : Option (Int32 × (Nat → Int32) × (Nat → Int32)) := ((S_Finds_lengthOf l2 x3_3 f4).bind fun u_1 => (if u_1 ≤ l5 then ((S_Text_copyInto l4 l3 x0_2 x0_2 f1 f2).bind fun u_3 => (K 2 l2 l3 l4 0 0 u_3.1 f1 u_3.2)) else (if 6 ≤ l5 then ((S_Text_copyInto l4 l3 x0_2 x0_2 f1 f2).bind fun u_5 => (K 2 l2 l3 l4 0 0 u_5.1 f1 u_5.2)) else ((S_Finds_stepAt l2 l5 x3_3 f4 f5).bind fun u_6 => (if ¬ u_6 = 7 then (if u_6 = 6 then (K 1 l2 l3 l4 l5 u_6 x0_2 f1 f2) else (if 16 ≤ l4 then (K 1 l2 l3 l4 l5 u_6 x0_2 f1 f2) else (if (l4 : Int32) < 0 ∨ 16 ≤ (Int32.toNatClampNeg l4) then none else (K 1 l2 l3 (l4 + 1) l5 u_6 x0_2 f1 (upd f2 (Int32.toNatClampNeg l4) u_6))))) else ((S_Text_copyInto l4 l3 (l3 + 1) x0_2 f1 f2).bind fun u_11 => (K 1 l2 l3 u_11.1 l5 u_6 x0_2 f1 u_11.2)))))))
def B_Text_mend_1 (K : Nat → Int32 → Int32 → Int32 → Int32 → Int32 → Int32 → (Nat → Int32) → (Nat → Int32) → Option (Int32 × (Nat → Int32) × (Nat → Int32))) (x3_3 : Int32) (x3_5 : Int32) (f4 : (Nat → Int32)) (f5 : (Nat → Int32)) (l2 : Int32) (l3 : Int32) (l4 : Int32) (l5 : Int32) (l6 : Int32) (x0_2 : Int32) (f1 : (Nat → Int32)) (f2 : (Nat → Int32)) : Option (Int32 × (Nat → Int32) × (Nat → Int32)) := (if l6 = 7 then (K 0 l2 (l3 + 1) l4 (l5 + 1) 0 x0_2 f1 f2) else (if ¬ l6 = 6 then (K 0 l2 l3 l4 (l5 + 1) 0 x0_2 f1 f2) else (K 0 l2 (l3 + 1) l4 (l5 + 1) 0 x0_2 f1 f2)))
def B_Text_mend_2 (K : Nat → Int32 → Int32 → Int32 → Int32 → Int32 → Int32 → (Nat → Int32) → (Nat → Int32) → Option (Int32 × (Nat → Int32) × (Nat → Int32))) (x3_3 : Int32) (x3_5 : Int32) (f4 : (Nat → Int32)) (f5 : (Nat → Int32)) (l2 : Int32) (l3 : Int32) (l4 : Int32) (l5 : Int32) (l6 : Int32) (x0_2 : Int32) (f1 : (Nat → Int32)) (f2 : (Nat → Int32)) : Option (Int32 × (Nat → Int32) × (Nat → Int32)) := (if x0_2 ≤ l5 then (some (x0_2, f1, f2)) else (if (l5 : Int32) < 0 ∨ 16 ≤ (Int32.toNatClampNeg l5) then none else (if (l5 : Int32) < 0 ∨ 16 ≤ (Int32.toNatClampNeg l5) then none else (K 2 l2 l3 l4 (l5 + 1) 0 x0_2 (upd f1 (Int32.toNatClampNeg l5) (f2 (Int32.toNatClampNeg l5))) f2))))
def F_Text_mend (x3_3 : Int32) (x3_5 : Int32) (f4 : (Nat → Int32)) (f5 : (Nat → Int32)) : Nat → Nat → Int32 → Int32 → Int32 → Int32 → Int32 → Int32 → (Nat → Int32) → (Nat → Int32) → Option (Int32 × (Nat → Int32) × (Nat → Int32))
  | 0 => fun _ _ _ _ _ _ _ _ _ => none
  | n + 1 => fun hd l2 l3 l4 l5 l6 x0_2 f1 f2 => match hd with
    | 0 => B_Text_mend_0 (F_Text_mend x3_3 x3_5 f4 f5 n) x3_3 x3_5 f4 f5 l2 l3 l4 l5 l6 x0_2 f1 f2
    | 1 => B_Text_mend_1 (F_Text_mend x3_3 x3_5 f4 f5 n) x3_3 x3_5 f4 f5 l2 l3 l4 l5 l6 x0_2 f1 f2
    | 2 => B_Text_mend_2 (F_Text_mend x3_3 x3_5 f4 f5 n) x3_3 x3_5 f4 f5 l2 l3 l4 l5 l6 x0_2 f1 f2
    | _ => none
set_option maxHeartbeats 4000000 in
set_option maxRecDepth 100000 in
theorem L_Text_mend {p : Program} {l : Launch} {e : Env} {s : State} {m : MethodId} {args : Array Value} {below : List Frame} {meth : Method} {c : Code} {A : Nat → Prop} {dC : Nat → ClassId} {dI : Nat → Nat → Nat} {kA : Nat → ClassId} (hx : p.tables.exec = Jvm.exec) (hb : c.code = b_Text_mend) (hr : meth.sig.returnType = none) (hlocks : meth.locks = false) (hml : c.maxLocals = 7) (hown : s.vm.findClass R_Text = some m.cls) (hts : ∀ w ∈ w_Text_mend, w.before args s = true) (hA : ∀ q : Nat, s.heap.size ≤ q → A q) (hK : va_K (dC, dI) classes (tys_ kA) s) (a0 a1 a2 a3 a4 a5 : Nat) (v3_2 v3_4 : Value) (x3_3 : Int32) (x3_5 : Int32) (f4 : (Nat → Int32)) (f5 : (Nat → Int32)) (ox0_2 : Int32) (of1 : (Nat → Int32)) (of2 : (Nat → Int32)) : ∀ n : Nat, (∀ (l2 l3 l4 l5 l6 : Int32) (x0_2 : Int32) (f1 : (Nat → Int32)) (f2 : (Nat → Int32)), F_Text_mend x3_3 x3_5 f4 f5 n 0 l2 l3 l4 l5 l6 x0_2 f1 f2 = some (ox0_2, of1, of2) → ∀ (H : Heap) (locs : List Loc) (ls : Array Slot), va_P (dC, dI) classes (wd_Text_mend kA a0 a1 a2 a3 a4 a5 v3_2 v3_4 x0_2 f1 f2 x3_3 x3_5 f4 f5) H → va_D A (wd_Text_mend kA a0 a1 a2 a3 a4 a5 v3_2 v3_4 x0_2 f1 f2 x3_3 x3_5 f4 f5) → va_S A s.heap H locs → lv_has ls 7 [(0, .ref a0), (1, .ref a3), (2, .int l2), (3, .int l3), (4, .int l4), (5, .int l5)] → W p l e (headSpec w_Text_mend rm_Text_mend).room s m args below meth c H locs 0 0 (MQ below (va_Qv (fun (_ : Unit) => True) (fun _ t => va_P (dC, dI) classes (wd_Text_mend kA a0 a1 a2 a3 a4 a5 v3_2 v3_4 ox0_2 of1 of2 x3_3 x3_5 f4 f5) t.heap ∧ va_K (dC, dI) classes (tys_ kA) t ∧ va_D A (wd_Text_mend kA a0 a1 a2 a3 a4 a5 v3_2 v3_4 ox0_2 of1 of2 x3_3 x3_5 f4 f5)) A) args s 0 0 A) (F0 m 17 ls [])) ∧ (∀ (l2 l3 l4 l5 l6 : Int32) (x0_2 : Int32) (f1 : (Nat → Int32)) (f2 : (Nat → Int32)), F_Text_mend x3_3 x3_5 f4 f5 n 1 l2 l3 l4 l5 l6 x0_2 f1 f2 = some (ox0_2, of1, of2) → ∀ (H : Heap) (locs : List Loc) (ls : Array Slot), va_P (dC, dI) classes (wd_Text_mend kA a0 a1 a2 a3 a4 a5 v3_2 v3_4 x0_2 f1 f2 x3_3 x3_5 f4 f5) H → va_D A (wd_Text_mend kA a0 a1 a2 a3 a4 a5 v3_2 v3_4 x0_2 f1 f2 x3_3 x3_5 f4 f5) → va_S A s.heap H locs → lv_has ls 7 [(0, .ref a0), (1, .ref a3), (2, .int l2), (3, .int l3), (4, .int l4), (5, .int l5), (6, .int l6)] → W p l e (headSpec w_Text_mend rm_Text_mend).room s m args below meth c H locs 0 0 (MQ below (va_Qv (fun (_ : Unit) => True) (fun _ t => va_P (dC, dI) classes (wd_Text_mend kA a0 a1 a2 a3 a4 a5 v3_2 v3_4 ox0_2 of1 of2 x3_3 x3_5 f4 f5) t.heap ∧ va_K (dC, dI) classes (tys_ kA) t ∧ va_D A (wd_Text_mend kA a0 a1 a2 a3 a4 a5 v3_2 v3_4 ox0_2 of1 of2 x3_3 x3_5 f4 f5)) A) args s 0 0 A) (F0 m 91 ls [])) ∧ (∀ (l2 l3 l4 l5 l6 : Int32) (x0_2 : Int32) (f1 : (Nat → Int32)) (f2 : (Nat → Int32)), F_Text_mend x3_3 x3_5 f4 f5 n 2 l2 l3 l4 l5 l6 x0_2 f1 f2 = some (ox0_2, of1, of2) → ∀ (H : Heap) (locs : List Loc) (ls : Array Slot), va_P (dC, dI) classes (wd_Text_mend kA a0 a1 a2 a3 a4 a5 v3_2 v3_4 x0_2 f1 f2 x3_3 x3_5 f4 f5) H → va_D A (wd_Text_mend kA a0 a1 a2 a3 a4 a5 v3_2 v3_4 x0_2 f1 f2 x3_3 x3_5 f4 f5) → va_S A s.heap H locs → lv_has ls 7 [(0, .ref a0), (1, .ref a3), (2, .int l2), (3, .int l3), (4, .int l4), (5, .int l5)] → W p l e (headSpec w_Text_mend rm_Text_mend).room s m args below meth c H locs 0 0 (MQ below (va_Qv (fun (_ : Unit) => True) (fun _ t => va_P (dC, dI) classes (wd_Text_mend kA a0 a1 a2 a3 a4 a5 v3_2 v3_4 ox0_2 of1 of2 x3_3 x3_5 f4 f5) t.heap ∧ va_K (dC, dI) classes (tys_ kA) t ∧ va_D A (wd_Text_mend kA a0 a1 a2 a3 a4 a5 v3_2 v3_4 ox0_2 of1 of2 x3_3 x3_5 f4 f5)) A) args s 0 0 A) (F0 m 132 ls [])) := by
  have hg := fun (w : Cond) (h : w ∈ gw) => hts w (List.mem_cons_of_mem _ h)
  intro n
  induction n with
  | zero =>
    exact ⟨fun _ _ _ _ _ _ _ _ hF => absurd (show (none : Option _) = some _ from hF) (fun z => by cases z), fun _ _ _ _ _ _ _ _ hF => absurd (show (none : Option _) = some _ from hF) (fun z => by cases z), fun _ _ _ _ _ _ _ _ hF => absurd (show (none : Option _) = some _ from hF) (fun z => by cases z)⟩
  | succ n ih =>
    refine ⟨?_, ?_, ?_⟩
    · intro l2 l3 l4 l5 l6 x0_2 f1 f2 hF H locs ls hP hD hS hl
      have hF : B_Text_mend_0 (F_Text_mend x3_3 x3_5 f4 f5 n) x3_3 x3_5 f4 f5 l2 l3 l4 l5 l6 x0_2 f1 f2 = some (ox0_2, of1, of2) := hF
      unfold B_Text_mend_0 at hF
      refine lv_iload hx hb d_Text_mend_17 (lv_at hl 5 rfl) ?_
      refine lv_aload_n hx hb d_Text_mend_19 rfl (lv_at hl 1 rfl) ?_
      refine lv_iload_n hx hb d_Text_mend_20 rfl (lv_at hl 2 rfl) ?_
      obtain ⟨u_1, hS_1, hF⟩ := rd_bind hF
      have hPc := hP.sub (ws' := (wd_Finds_lengthOf kA a3 a4 (.ref a5) v3_2 v3_4 (.int x3_5) x3_3 f4)) [3, 4] rfl
      have hDc := hD.sub (ws' := (wd_Finds_lengthOf kA a3 a4 (.ref a5) v3_2 v3_4 (.int x3_5) x3_3 f4)) [3, 4] (by decide) rfl
      have hFc := va_free (wc := (wd_Finds_lengthOf kA a3 a4 (.ref a5) v3_2 v3_4 (.int x3_5) x3_3 f4)) hD hS hA [3, 4] rfl
      refine va_calli (va_runV (As := [.int l2]) (rest := [.int l5]) ⟨hx, hb, hml, hown, hts⟩ (c_Finds_lengthOf l dC dI kA H.size a3 a4 (.ref a5) v3_2 v3_4 (.int x3_5) l2 x3_3 f4 u_1 hS_1) (cwV 1 hts (gw_V gw_246 gw_15 gw_16 gw_11 gw_17) rfl rfl rfl (by decide +kernel) ⟨Nat.le_of_ble_eq_true rfl, Nat.le_of_ble_eq_true rfl⟩) ⟨fun a U g mk q => by obtain ⟨q0, q1, qP, qK, qD⟩ := q; exact ⟨q0, q1, qP, va_K.moved (u := U) (U := U.calling g mk a) (Vm.Alike.refl U.vm) qK, qD⟩, va_recv hK hP (ci := 1) (q0 := 3) rfl rfl, fun U hU hW => ⟨rfl, by rw [hU], by rw [hU]; exact hPc, va_K.moved hW.alike hK, hDc.weaken (fun _ _ _ _ => trivial)⟩⟩ rfl rfl hl.1 rfl (lv_room (Nat.le_of_ble_eq_true rfl)) d_Text_mend_21 ⟨Nat.zero_le _, Nat.zero_le _⟩) hS (fun q _ h => hFc q h) hFc (fun r1 u t H1 locs ht hvm hw hB hz1 hk1 hS => ?_)
      rw [show r1 = _ from hw]
      obtain ⟨hP1, hK1, hD1⟩ := hB
      rw [ht] at hP1
      obtain ⟨hP, hD⟩ := va_join (wr := [(a0, .inr (7, [.ref a1, .ref a2, .int x0_2])), (a1, .inl (kA 0, 16, .inl f1)), (a2, .inl (kA 0, 16, .inl f2)), (a5, .inl (kA 0, 240, .inl f5))]) (w1 := (wd_Finds_lengthOf kA a3 a4 (.ref a5) v3_2 v3_4 (.int x3_5) x3_3 f4)) hP hD [3, 4] [0, 1, 2, 5] rfl rfl (by decide) (by decide) hk1 hFc hP1 hD1
      have hP := hP.sub (ws' := (wd_Text_mend kA a0 a1 a2 a3 a4 a5 v3_2 v3_4 x0_2 f1 f2 x3_3 x3_5 f4 f5)) [0, 1, 2, 4, 5, 3] rfl
      have hD := hD.sub (ws' := (wd_Text_mend kA a0 a1 a2 a3 a4 a5 v3_2 v3_4 x0_2 f1 f2 x3_3 x3_5 f4 f5)) [0, 1, 2, 4, 5, 3] (by decide) rfl
      clear hPc hDc hFc hP1 hK1 hD1
      generalize H1 = H at hP hS ⊢
      refine lv_icmp_ge (tgt := 114) hx hb d_Text_mend_24 (by decide) (fun c_2 => ?_) (fun c_2 => ?_)
      · rw [if_pos c_2] at hF
        refine lv_aload_n hx hb d_Text_mend_114 rfl (lv_at hl 0 rfl) ?_
        refine lv_aload_n hx hb d_Text_mend_115 rfl (lv_at hl 0 rfl) ?_
        refine lv_iload hx hb d_Text_mend_116 (lv_at hl 4 rfl) ?_
        refine lv_iload_n hx hb d_Text_mend_118 rfl (lv_at hl 3 rfl) ?_
        refine lv_aload_n hx hb d_Text_mend_119 rfl (lv_at hl 0 rfl) ?_
        refine va_get (D := (dC, dI)) (ci := 7) (v := .int x0_2) (C := R_Text) (T := F_Text) (N := 3) hx hb hg iw_Text hown hK hP 0 rfl rfl 2 (by decide) (hg _ gw_75) (fun _ h9 => h9) rfl d_Text_mend_120 ?_
        obtain ⟨u_3, hS_3, hF⟩ := rd_bind hF
        have hPc := hP.sub (ws' := (wd_Text_copyInto kA a0 a1 a2 x0_2 f1 f2)) [0, 1, 2] rfl
        have hDc := hD.sub (ws' := (wd_Text_copyInto kA a0 a1 a2 x0_2 f1 f2)) [0, 1, 2] (by decide) rfl
        have hFc := va_free (wc := (wd_Text_copyInto kA a0 a1 a2 x0_2 f1 f2)) hD hS hA [0, 1, 2] rfl
        refine va_calli (va_runV (As := [.int l4, .int l3, .int x0_2]) (rest := [.ref a0]) ⟨hx, hb, hml, hown, hts⟩ (c_Text_copyInto l dC dI kA H.size a0 a1 a2 l4 l3 x0_2 x0_2 f1 f2 u_3.1 u_3.2 hS_3) (cwV 3 hts (gw_V gw_247 gw_248 gw_249 gw_123 gw_250) rfl rfl rfl (by decide +kernel) ⟨Nat.le_of_ble_eq_true rfl, Nat.le_of_ble_eq_true rfl⟩) ⟨fun a U g mk q => by obtain ⟨q0, q1, qP, qK, qD⟩ := q; exact ⟨q0, q1, qP, va_K.moved (u := U) (U := U.calling g mk a) (Vm.Alike.refl U.vm) qK, qD⟩, va_recv hK hP (ci := 7) (q0 := 0) rfl rfl, fun U hU hW => ⟨rfl, by rw [hU], by rw [hU]; exact hPc, va_K.moved hW.alike hK, hDc.weaken (fun _ _ _ _ => trivial)⟩⟩ rfl rfl hl.1 rfl (lv_room (Nat.le_of_ble_eq_true rfl)) d_Text_mend_123 ⟨Nat.zero_le _, Nat.zero_le _⟩) hS (fun q _ h => hFc q h) hFc (fun r1 u t H1 locs ht hvm hw hB hz1 hk1 hS => ?_)
        rw [show r1 = _ from hw]
        obtain ⟨hP1, hK1, hD1⟩ := hB
        rw [ht] at hP1
        obtain ⟨hP, hD⟩ := va_join (wr := [(a3, .inr (1, [.ref a5, .ref a4, v3_2, .int x3_3, v3_4, .int x3_5])), (a4, .inl (kA 0, 40, .inl f4)), (a5, .inl (kA 0, 240, .inl f5))]) (w1 := (wd_Text_copyInto kA a0 a1 a2 x0_2 f1 u_3.2)) hP hD [0, 1, 2] [3, 4, 5] rfl rfl (by decide) (by decide) hk1 hFc hP1 hD1
        have hP := hP.sub (ws' := (wd_Text_mend kA a0 a1 a2 a3 a4 a5 v3_2 v3_4 x0_2 f1 u_3.2 x3_3 x3_5 f4 f5)) [3, 4, 5, 0, 1, 2] rfl
        have hD := hD.sub (ws' := (wd_Text_mend kA a0 a1 a2 a3 a4 a5 v3_2 v3_4 x0_2 f1 u_3.2 x3_3 x3_5 f4 f5)) [3, 4, 5, 0, 1, 2] (by decide) rfl
        clear hPc hDc hFc hP1 hK1 hD1
        generalize H1 = H at hP hS ⊢
        refine va_put (D := (dC, dI)) (ci := 7) (v := .int u_3.1) (ty := .int) (C := R_Text) (T := F_Text) (N := 3) hx hb hg iw_Text t_Text t_Text_ok n_Text hown hK hP hD hS 0 rfl rfl 2 (by decide) (hg _ gw_75) (fun _ h9 => h9) rfl (by decide +kernel) rfl rfl (Nat.le_of_ble_eq_true rfl) d_Text_mend_126 (fun H locs hP hD hS => ?_)
        have hP : va_P (dC, dI) classes (wd_Text_mend kA a0 a1 a2 a3 a4 a5 v3_2 v3_4 u_3.1 f1 u_3.2 x3_3 x3_5 f4 f5) H := hP
        have hD : va_D A (wd_Text_mend kA a0 a1 a2 a3 a4 a5 v3_2 v3_4 u_3.1 f1 u_3.2 x3_3 x3_5 f4 f5) := hD
        refine lv_iconst (v := 0) hx hb d_Text_mend_129 (by decide) ?_
        refine lv_istore (lv' := [(5, .int 0), (0, .ref a0), (1, .ref a3), (2, .int l2), (3, .int l3), (4, .int l4)]) hx hb d_Text_mend_130 hl (by decide) rfl (fun ls hl => ?_)
        exact ih.2.2 l2 l3 l4 0 0 u_3.1 f1 u_3.2 hF _ _ _ hP hD hS (lv_sub hl [1, 2, 3, 4, 5, 0] rfl)
      · rw [if_neg c_2] at hF
        refine lv_iload hx hb d_Text_mend_27 (lv_at hl 5 rfl) ?_
        refine lv_bipush (v := 6) hx hb d_Text_mend_29 (by decide) ?_
        refine lv_icmp_ge (tgt := 114) hx hb d_Text_mend_31 (by decide) (fun c_4 => ?_) (fun c_4 => ?_)
        · rw [if_pos c_4] at hF
          refine lv_aload_n hx hb d_Text_mend_114 rfl (lv_at hl 0 rfl) ?_
          refine lv_aload_n hx hb d_Text_mend_115 rfl (lv_at hl 0 rfl) ?_
          refine lv_iload hx hb d_Text_mend_116 (lv_at hl 4 rfl) ?_
          refine lv_iload_n hx hb d_Text_mend_118 rfl (lv_at hl 3 rfl) ?_
          refine lv_aload_n hx hb d_Text_mend_119 rfl (lv_at hl 0 rfl) ?_
          refine va_get (D := (dC, dI)) (ci := 7) (v := .int x0_2) (C := R_Text) (T := F_Text) (N := 3) hx hb hg iw_Text hown hK hP 0 rfl rfl 2 (by decide) (hg _ gw_75) (fun _ h9 => h9) rfl d_Text_mend_120 ?_
          obtain ⟨u_5, hS_5, hF⟩ := rd_bind hF
          have hPc := hP.sub (ws' := (wd_Text_copyInto kA a0 a1 a2 x0_2 f1 f2)) [0, 1, 2] rfl
          have hDc := hD.sub (ws' := (wd_Text_copyInto kA a0 a1 a2 x0_2 f1 f2)) [0, 1, 2] (by decide) rfl
          have hFc := va_free (wc := (wd_Text_copyInto kA a0 a1 a2 x0_2 f1 f2)) hD hS hA [0, 1, 2] rfl
          refine va_calli (va_runV (As := [.int l4, .int l3, .int x0_2]) (rest := [.ref a0]) ⟨hx, hb, hml, hown, hts⟩ (c_Text_copyInto l dC dI kA H.size a0 a1 a2 l4 l3 x0_2 x0_2 f1 f2 u_5.1 u_5.2 hS_5) (cwV 3 hts (gw_V gw_247 gw_248 gw_249 gw_123 gw_250) rfl rfl rfl (by decide +kernel) ⟨Nat.le_of_ble_eq_true rfl, Nat.le_of_ble_eq_true rfl⟩) ⟨fun a U g mk q => by obtain ⟨q0, q1, qP, qK, qD⟩ := q; exact ⟨q0, q1, qP, va_K.moved (u := U) (U := U.calling g mk a) (Vm.Alike.refl U.vm) qK, qD⟩, va_recv hK hP (ci := 7) (q0 := 0) rfl rfl, fun U hU hW => ⟨rfl, by rw [hU], by rw [hU]; exact hPc, va_K.moved hW.alike hK, hDc.weaken (fun _ _ _ _ => trivial)⟩⟩ rfl rfl hl.1 rfl (lv_room (Nat.le_of_ble_eq_true rfl)) d_Text_mend_123 ⟨Nat.zero_le _, Nat.zero_le _⟩) hS (fun q _ h => hFc q h) hFc (fun r1 u t H1 locs ht hvm hw hB hz1 hk1 hS => ?_)
          rw [show r1 = _ from hw]
          obtain ⟨hP1, hK1, hD1⟩ := hB
          rw [ht] at hP1
          obtain ⟨hP, hD⟩ := va_join (wr := [(a3, .inr (1, [.ref a5, .ref a4, v3_2, .int x3_3, v3_4, .int x3_5])), (a4, .inl (kA 0, 40, .inl f4)), (a5, .inl (kA 0, 240, .inl f5))]) (w1 := (wd_Text_copyInto kA a0 a1 a2 x0_2 f1 u_5.2)) hP hD [0, 1, 2] [3, 4, 5] rfl rfl (by decide) (by decide) hk1 hFc hP1 hD1
          have hP := hP.sub (ws' := (wd_Text_mend kA a0 a1 a2 a3 a4 a5 v3_2 v3_4 x0_2 f1 u_5.2 x3_3 x3_5 f4 f5)) [3, 4, 5, 0, 1, 2] rfl
          have hD := hD.sub (ws' := (wd_Text_mend kA a0 a1 a2 a3 a4 a5 v3_2 v3_4 x0_2 f1 u_5.2 x3_3 x3_5 f4 f5)) [3, 4, 5, 0, 1, 2] (by decide) rfl
          clear hPc hDc hFc hP1 hK1 hD1
          generalize H1 = H at hP hS ⊢
          refine va_put (D := (dC, dI)) (ci := 7) (v := .int u_5.1) (ty := .int) (C := R_Text) (T := F_Text) (N := 3) hx hb hg iw_Text t_Text t_Text_ok n_Text hown hK hP hD hS 0 rfl rfl 2 (by decide) (hg _ gw_75) (fun _ h9 => h9) rfl (by decide +kernel) rfl rfl (Nat.le_of_ble_eq_true rfl) d_Text_mend_126 (fun H locs hP hD hS => ?_)
          have hP : va_P (dC, dI) classes (wd_Text_mend kA a0 a1 a2 a3 a4 a5 v3_2 v3_4 u_5.1 f1 u_5.2 x3_3 x3_5 f4 f5) H := hP
          have hD : va_D A (wd_Text_mend kA a0 a1 a2 a3 a4 a5 v3_2 v3_4 u_5.1 f1 u_5.2 x3_3 x3_5 f4 f5) := hD
          refine lv_iconst (v := 0) hx hb d_Text_mend_129 (by decide) ?_
          refine lv_istore (lv' := [(5, .int 0), (0, .ref a0), (1, .ref a3), (2, .int l2), (3, .int l3), (4, .int l4)]) hx hb d_Text_mend_130 hl (by decide) rfl (fun ls hl => ?_)
          exact ih.2.2 l2 l3 l4 0 0 u_5.1 f1 u_5.2 hF _ _ _ hP hD hS (lv_sub hl [1, 2, 3, 4, 5, 0] rfl)
        · rw [if_neg c_4] at hF
          refine lv_aload_n hx hb d_Text_mend_34 rfl (lv_at hl 1 rfl) ?_
          refine lv_iload_n hx hb d_Text_mend_35 rfl (lv_at hl 2 rfl) ?_
          refine lv_iload hx hb d_Text_mend_36 (lv_at hl 5 rfl) ?_
          obtain ⟨u_6, hS_6, hF⟩ := rd_bind hF
          have hPc := hP.sub (ws' := (wd_Finds_stepAt kA a3 a4 a5 v3_2 v3_4 (.int x3_5) x3_3 f4 f5)) [3, 4, 5] rfl
          have hDc := hD.sub (ws' := (wd_Finds_stepAt kA a3 a4 a5 v3_2 v3_4 (.int x3_5) x3_3 f4 f5)) [3, 4, 5] (by decide) rfl
          have hFc := va_free (wc := (wd_Finds_stepAt kA a3 a4 a5 v3_2 v3_4 (.int x3_5) x3_3 f4 f5)) hD hS hA [3, 4, 5] rfl
          refine va_calli (va_runV (As := [.int l2, .int l5]) (rest := []) ⟨hx, hb, hml, hown, hts⟩ (c_Finds_stepAt l dC dI kA H.size a3 a4 a5 v3_2 v3_4 (.int x3_5) l2 l5 x3_3 f4 f5 u_6 hS_6) (cwV 2 hts (gw_V gw_251 gw_252 gw_253 gw_11 gw_254) rfl rfl rfl (by decide +kernel) ⟨Nat.le_of_ble_eq_true rfl, Nat.le_of_ble_eq_true rfl⟩) ⟨fun a U g mk q => by obtain ⟨q0, q1, qP, qK, qD⟩ := q; exact ⟨q0, q1, qP, va_K.moved (u := U) (U := U.calling g mk a) (Vm.Alike.refl U.vm) qK, qD⟩, va_recv hK hP (ci := 1) (q0 := 3) rfl rfl, fun U hU hW => ⟨rfl, by rw [hU], by rw [hU]; exact hPc, va_K.moved hW.alike hK, hDc.weaken (fun _ _ _ _ => trivial)⟩⟩ rfl rfl hl.1 rfl (lv_room (Nat.le_of_ble_eq_true rfl)) d_Text_mend_38 ⟨Nat.zero_le _, Nat.zero_le _⟩) hS (fun q _ h => hFc q h) hFc (fun r1 u t H1 locs ht hvm hw hB hz1 hk1 hS => ?_)
          rw [show r1 = _ from hw]
          obtain ⟨hP1, hK1, hD1⟩ := hB
          rw [ht] at hP1
          obtain ⟨hP, hD⟩ := va_join (wr := [(a0, .inr (7, [.ref a1, .ref a2, .int x0_2])), (a1, .inl (kA 0, 16, .inl f1)), (a2, .inl (kA 0, 16, .inl f2))]) (w1 := (wd_Finds_stepAt kA a3 a4 a5 v3_2 v3_4 (.int x3_5) x3_3 f4 f5)) hP hD [3, 4, 5] [0, 1, 2] rfl rfl (by decide) (by decide) hk1 hFc hP1 hD1
          have hP := hP.sub (ws' := (wd_Text_mend kA a0 a1 a2 a3 a4 a5 v3_2 v3_4 x0_2 f1 f2 x3_3 x3_5 f4 f5)) [0, 1, 2, 3, 4, 5] rfl
          have hD := hD.sub (ws' := (wd_Text_mend kA a0 a1 a2 a3 a4 a5 v3_2 v3_4 x0_2 f1 f2 x3_3 x3_5 f4 f5)) [0, 1, 2, 3, 4, 5] (by decide) rfl
          clear hPc hDc hFc hP1 hK1 hD1
          generalize H1 = H at hP hS ⊢
          refine lv_istore (lv' := [(6, .int u_6), (0, .ref a0), (1, .ref a3), (2, .int l2), (3, .int l3), (4, .int l4), (5, .int l5)]) hx hb d_Text_mend_41 hl (by decide) rfl (fun ls hl => ?_)
          refine lv_iload hx hb d_Text_mend_43 (lv_at hl 0 rfl) ?_
          refine lv_bipush (v := 7) hx hb d_Text_mend_45 (by decide) ?_
          refine lv_icmp_ne (tgt := 65) hx hb d_Text_mend_47 (by decide) (fun c_7 => ?_) (fun c_7 => ?_)
          · rw [if_pos c_7] at hF
            refine lv_iload hx hb d_Text_mend_65 (lv_at hl 0 rfl) ?_
            refine lv_bipush (v := 6) hx hb d_Text_mend_67 (by decide) ?_
            refine lv_icmp_eq (tgt := 91) hx hb d_Text_mend_69 (by decide) (fun c_8 => ?_) (fun c_8 => ?_)
            · rw [if_pos c_8] at hF
              exact ih.2.1 l2 l3 l4 l5 u_6 x0_2 f1 f2 hF _ _ _ hP hD hS (lv_sub hl [1, 2, 3, 4, 5, 6, 0] rfl)
            · rw [if_neg c_8] at hF
              refine lv_iload hx hb d_Text_mend_72 (lv_at hl 5 rfl) ?_
              refine lv_bipush (v := 16) hx hb d_Text_mend_74 (by decide) ?_
              refine lv_icmp_ge (tgt := 91) hx hb d_Text_mend_76 (by decide) (fun c_9 => ?_) (fun c_9 => ?_)
              · rw [if_pos c_9] at hF
                exact ih.2.1 l2 l3 l4 l5 u_6 x0_2 f1 f2 hF _ _ _ hP hD hS (lv_sub hl [1, 2, 3, 4, 5, 6, 0] rfl)
              · rw [if_neg c_9] at hF
                refine lv_aload_n hx hb d_Text_mend_79 rfl (lv_at hl 1 rfl) ?_
                refine va_get (D := (dC, dI)) (ci := 7) (v := .ref a2) (C := R_Text) (T := F_Text) (N := 3) hx hb hg iw_Text hown hK hP 0 rfl rfl 1 (by decide) (hg _ gw_245) (fun _ h9 => h9) rfl d_Text_mend_80 ?_
                refine lv_iload hx hb d_Text_mend_83 (lv_at hl 5 rfl) ?_
                refine lv_iload hx hb d_Text_mend_85 (lv_at hl 0 rfl) ?_
                obtain ⟨h_10, hF⟩ := rd_chk hF
                refine va_iast hx hb hK hP hD hS 2 0 rfl rfl h_10 d_Text_mend_87 (fun H locs hP hD hS => ?_)
                have hP : va_P (dC, dI) classes (wd_Text_mend kA a0 a1 a2 a3 a4 a5 v3_2 v3_4 x0_2 f1 (upd f2 (Int32.toNatClampNeg l4) u_6) x3_3 x3_5 f4 f5) H := hP
                have hD : va_D A (wd_Text_mend kA a0 a1 a2 a3 a4 a5 v3_2 v3_4 x0_2 f1 (upd f2 (Int32.toNatClampNeg l4) u_6) x3_3 x3_5 f4 f5) := hD
                refine lv_iinc (v := (l4 + 1)) (lv' := [(4, .int (l4 + 1)), (6, .int u_6), (0, .ref a0), (1, .ref a3), (2, .int l2), (3, .int l3), (5, .int l5)]) hx hb d_Text_mend_88 hl (k := 5) rfl (by rfl) (by decide) rfl (fun ls hl => ?_)
                exact ih.2.1 l2 l3 (l4 + 1) l5 u_6 x0_2 f1 (upd f2 (Int32.toNatClampNeg l4) u_6) hF _ _ _ hP hD hS (lv_sub hl [2, 3, 4, 5, 0, 6, 1] rfl)
          · rw [if_neg (fun z => z c_7)] at hF
            refine lv_aload_n hx hb d_Text_mend_50 rfl (lv_at hl 1 rfl) ?_
            refine lv_iload hx hb d_Text_mend_51 (lv_at hl 5 rfl) ?_
            refine lv_iload_n hx hb d_Text_mend_53 rfl (lv_at hl 4 rfl) ?_
            refine lv_iload_n hx hb d_Text_mend_54 rfl (lv_at hl 4 rfl) ?_
            refine lv_iconst (v := 1) hx hb d_Text_mend_55 (by decide) ?_
            refine lv_iadd hx hb d_Text_mend_56 ?_
            obtain ⟨u_11, hS_11, hF⟩ := rd_bind hF
            have hPc := hP.sub (ws' := (wd_Text_copyInto kA a0 a1 a2 x0_2 f1 f2)) [0, 1, 2] rfl
            have hDc := hD.sub (ws' := (wd_Text_copyInto kA a0 a1 a2 x0_2 f1 f2)) [0, 1, 2] (by decide) rfl
            have hFc := va_free (wc := (wd_Text_copyInto kA a0 a1 a2 x0_2 f1 f2)) hD hS hA [0, 1, 2] rfl
            refine va_calli (va_runV (As := [.int l4, .int l3, .int (l3 + 1)]) (rest := []) ⟨hx, hb, hml, hown, hts⟩ (c_Text_copyInto l dC dI kA H.size a0 a1 a2 l4 l3 (l3 + 1) x0_2 f1 f2 u_11.1 u_11.2 hS_11) (cwV 3 hts (gw_V gw_247 gw_248 gw_249 gw_123 gw_250) rfl rfl rfl (by decide +kernel) ⟨Nat.le_of_ble_eq_true rfl, Nat.le_of_ble_eq_true rfl⟩) ⟨fun a U g mk q => by obtain ⟨q0, q1, qP, qK, qD⟩ := q; exact ⟨q0, q1, qP, va_K.moved (u := U) (U := U.calling g mk a) (Vm.Alike.refl U.vm) qK, qD⟩, va_recv hK hP (ci := 7) (q0 := 0) rfl rfl, fun U hU hW => ⟨rfl, by rw [hU], by rw [hU]; exact hPc, va_K.moved hW.alike hK, hDc.weaken (fun _ _ _ _ => trivial)⟩⟩ rfl rfl hl.1 rfl (lv_room (Nat.le_of_ble_eq_true rfl)) d_Text_mend_57 ⟨Nat.zero_le _, Nat.zero_le _⟩) hS (fun q _ h => hFc q h) hFc (fun r1 u t H1 locs ht hvm hw hB hz1 hk1 hS => ?_)
            rw [show r1 = _ from hw]
            obtain ⟨hP1, hK1, hD1⟩ := hB
            rw [ht] at hP1
            obtain ⟨hP, hD⟩ := va_join (wr := [(a3, .inr (1, [.ref a5, .ref a4, v3_2, .int x3_3, v3_4, .int x3_5])), (a4, .inl (kA 0, 40, .inl f4)), (a5, .inl (kA 0, 240, .inl f5))]) (w1 := (wd_Text_copyInto kA a0 a1 a2 x0_2 f1 u_11.2)) hP hD [0, 1, 2] [3, 4, 5] rfl rfl (by decide) (by decide) hk1 hFc hP1 hD1
            have hP := hP.sub (ws' := (wd_Text_mend kA a0 a1 a2 a3 a4 a5 v3_2 v3_4 x0_2 f1 u_11.2 x3_3 x3_5 f4 f5)) [3, 4, 5, 0, 1, 2] rfl
            have hD := hD.sub (ws' := (wd_Text_mend kA a0 a1 a2 a3 a4 a5 v3_2 v3_4 x0_2 f1 u_11.2 x3_3 x3_5 f4 f5)) [3, 4, 5, 0, 1, 2] (by decide) rfl
            clear hPc hDc hFc hP1 hK1 hD1
            generalize H1 = H at hP hS ⊢
            refine lv_istore (lv' := [(4, .int u_11.1), (6, .int u_6), (0, .ref a0), (1, .ref a3), (2, .int l2), (3, .int l3), (5, .int l5)]) hx hb d_Text_mend_60 hl (by decide) rfl (fun ls hl => ?_)
            refine lv_goto (tgt := 91) hx hb d_Text_mend_62 (by decide) ?_
            exact ih.2.1 l2 l3 u_11.1 l5 u_6 x0_2 f1 u_11.2 hF _ _ _ hP hD hS (lv_sub hl [2, 3, 4, 5, 0, 6, 1] rfl)
    · intro l2 l3 l4 l5 l6 x0_2 f1 f2 hF H locs ls hP hD hS hl
      have hF : B_Text_mend_1 (F_Text_mend x3_3 x3_5 f4 f5 n) x3_3 x3_5 f4 f5 l2 l3 l4 l5 l6 x0_2 f1 f2 = some (ox0_2, of1, of2) := hF
      unfold B_Text_mend_1 at hF
      refine lv_iload hx hb d_Text_mend_91 (lv_at hl 6 rfl) ?_
      refine lv_bipush (v := 7) hx hb d_Text_mend_93 (by decide) ?_
      refine lv_icmp_eq (tgt := 105) hx hb d_Text_mend_95 (by decide) (fun c_12 => ?_) (fun c_12 => ?_)
      · rw [if_pos c_12] at hF
        refine lv_iinc (v := (l3 + 1)) (lv' := [(3, .int (l3 + 1)), (0, .ref a0), (1, .ref a3), (2, .int l2), (4, .int l4), (5, .int l5), (6, .int l6)]) hx hb d_Text_mend_105 hl (k := 3) rfl (by rfl) (by decide) rfl (fun ls hl => ?_)
        refine lv_iinc (v := (l5 + 1)) (lv' := [(5, .int (l5 + 1)), (3, .int (l3 + 1)), (0, .ref a0), (1, .ref a3), (2, .int l2), (4, .int l4), (6, .int l6)]) hx hb d_Text_mend_108 hl (k := 5) rfl (by rfl) (by decide) rfl (fun ls hl => ?_)
        refine lv_goto (tgt := 17) hx hb d_Text_mend_111 (by decide) ?_
        exact ih.1 l2 (l3 + 1) l4 (l5 + 1) 0 x0_2 f1 f2 hF _ _ _ hP hD hS (lv_sub hl [2, 3, 4, 1, 5, 0] rfl)
      · rw [if_neg c_12] at hF
        refine lv_iload hx hb d_Text_mend_98 (lv_at hl 6 rfl) ?_
        refine lv_bipush (v := 6) hx hb d_Text_mend_100 (by decide) ?_
        refine lv_icmp_ne (tgt := 108) hx hb d_Text_mend_102 (by decide) (fun c_13 => ?_) (fun c_13 => ?_)
        · rw [if_pos c_13] at hF
          refine lv_iinc (v := (l5 + 1)) (lv' := [(5, .int (l5 + 1)), (0, .ref a0), (1, .ref a3), (2, .int l2), (3, .int l3), (4, .int l4), (6, .int l6)]) hx hb d_Text_mend_108 hl (k := 5) rfl (by rfl) (by decide) rfl (fun ls hl => ?_)
          refine lv_goto (tgt := 17) hx hb d_Text_mend_111 (by decide) ?_
          exact ih.1 l2 l3 l4 (l5 + 1) 0 x0_2 f1 f2 hF _ _ _ hP hD hS (lv_sub hl [1, 2, 3, 4, 5, 0] rfl)
        · rw [if_neg (fun z => z c_13)] at hF
          refine lv_iinc (v := (l3 + 1)) (lv' := [(3, .int (l3 + 1)), (0, .ref a0), (1, .ref a3), (2, .int l2), (4, .int l4), (5, .int l5), (6, .int l6)]) hx hb d_Text_mend_105 hl (k := 3) rfl (by rfl) (by decide) rfl (fun ls hl => ?_)
          refine lv_iinc (v := (l5 + 1)) (lv' := [(5, .int (l5 + 1)), (3, .int (l3 + 1)), (0, .ref a0), (1, .ref a3), (2, .int l2), (4, .int l4), (6, .int l6)]) hx hb d_Text_mend_108 hl (k := 5) rfl (by rfl) (by decide) rfl (fun ls hl => ?_)
          refine lv_goto (tgt := 17) hx hb d_Text_mend_111 (by decide) ?_
          exact ih.1 l2 (l3 + 1) l4 (l5 + 1) 0 x0_2 f1 f2 hF _ _ _ hP hD hS (lv_sub hl [2, 3, 4, 1, 5, 0] rfl)
    · intro l2 l3 l4 l5 l6 x0_2 f1 f2 hF H locs ls hP hD hS hl
      have hF : B_Text_mend_2 (F_Text_mend x3_3 x3_5 f4 f5 n) x3_3 x3_5 f4 f5 l2 l3 l4 l5 l6 x0_2 f1 f2 = some (ox0_2, of1, of2) := hF
      unfold B_Text_mend_2 at hF
      refine lv_iload hx hb d_Text_mend_132 (lv_at hl 5 rfl) ?_
      refine lv_aload_n hx hb d_Text_mend_134 rfl (lv_at hl 0 rfl) ?_
      refine va_get (D := (dC, dI)) (ci := 7) (v := .int x0_2) (C := R_Text) (T := F_Text) (N := 3) hx hb hg iw_Text hown hK hP 0 rfl rfl 2 (by decide) (hg _ gw_75) (fun _ h9 => h9) rfl d_Text_mend_135 ?_
      refine lv_icmp_ge (tgt := 161) hx hb d_Text_mend_138 (by decide) (fun c_14 => ?_) (fun c_14 => ?_)
      · rw [if_pos c_14] at hF
        have e0 := Option.some.inj hF
        have q0 := Prod.mk.inj e0
        have q1 := Prod.mk.inj q0.2
        exact W.vret hx hb hr (fun t ht hW => ⟨⟨(), rfl, trivial, by rw [ht, ← q0.1, ← q1.1, ← q1.2]; exact hP, va_K.moved hW.alike hK, (by rw [← q0.1, ← q1.1, ← q1.2]; exact hD)⟩, hS.F ht⟩) hS.2.2 d_Text_mend_161 hlocks
      · rw [if_neg c_14] at hF
        refine lv_aload_n hx hb d_Text_mend_141 rfl (lv_at hl 0 rfl) ?_
        refine va_get (D := (dC, dI)) (ci := 7) (v := .ref a1) (C := R_Text) (T := F_Text) (N := 3) hx hb hg iw_Text hown hK hP 0 rfl rfl 0 (by decide) (hg _ gw_76) (fun _ h9 => h9) rfl d_Text_mend_142 ?_
        refine lv_iload hx hb d_Text_mend_145 (lv_at hl 5 rfl) ?_
        refine lv_aload_n hx hb d_Text_mend_147 rfl (lv_at hl 0 rfl) ?_
        refine va_get (D := (dC, dI)) (ci := 7) (v := .ref a2) (C := R_Text) (T := F_Text) (N := 3) hx hb hg iw_Text hown hK hP 0 rfl rfl 1 (by decide) (hg _ gw_245) (fun _ h9 => h9) rfl d_Text_mend_148 ?_
        refine lv_iload hx hb d_Text_mend_151 (lv_at hl 5 rfl) ?_
        obtain ⟨h_15, hF⟩ := rd_chk hF
        refine va_iald hx hb hK hP 2 0 rfl rfl h_15 d_Text_mend_153 ?_
        obtain ⟨h_16, hF⟩ := rd_chk hF
        refine va_iast hx hb hK hP hD hS 1 0 rfl rfl h_16 d_Text_mend_154 (fun H locs hP hD hS => ?_)
        have hP : va_P (dC, dI) classes (wd_Text_mend kA a0 a1 a2 a3 a4 a5 v3_2 v3_4 x0_2 (upd f1 (Int32.toNatClampNeg l5) (f2 (Int32.toNatClampNeg l5))) f2 x3_3 x3_5 f4 f5) H := hP
        have hD : va_D A (wd_Text_mend kA a0 a1 a2 a3 a4 a5 v3_2 v3_4 x0_2 (upd f1 (Int32.toNatClampNeg l5) (f2 (Int32.toNatClampNeg l5))) f2 x3_3 x3_5 f4 f5) := hD
        refine lv_iinc (v := (l5 + 1)) (lv' := [(5, .int (l5 + 1)), (0, .ref a0), (1, .ref a3), (2, .int l2), (3, .int l3), (4, .int l4)]) hx hb d_Text_mend_155 hl (k := 5) rfl (by rfl) (by decide) rfl (fun ls hl => ?_)
        refine lv_goto (tgt := 132) hx hb d_Text_mend_158 (by decide) ?_
        exact ih.2.2 l2 l3 l4 (l5 + 1) 0 x0_2 (upd f1 (Int32.toNatClampNeg l5) (f2 (Int32.toNatClampNeg l5))) f2 hF _ _ _ hP hD hS (lv_sub hl [1, 2, 3, 4, 5, 0] rfl)
def S_Text_mend (p2 : Int32) (x0_2 : Int32) (f1 : (Nat → Int32)) (f2 : (Nat → Int32)) (x3_3 : Int32) (x3_5 : Int32) (f4 : (Nat → Int32)) (f5 : (Nat → Int32)) : Option (Int32 × (Nat → Int32) × (Nat → Int32)) := ((S_Finds_wrongPlace x3_5).bind fun u_17 => ((S_Text_copyInto 0 0 u_17 x0_2 f1 f2).bind fun u_18 => (F_Text_mend x3_3 x3_5 f4 f5 fuel_ 0 p2 u_17 u_18.1 0 0 x0_2 f1 u_18.2)))
set_option maxHeartbeats 4000000 in
set_option maxRecDepth 100000 in
theorem c_Text_mend (l : Launch) (dC : Nat → ClassId) (dI : Nat → Nat → Nat) (kA : Nat → ClassId) (sz : Nat) (a0 a1 a2 a3 a4 a5 : Nat) (v3_2 v3_4 : Value) (p2 : Int32) (x0_2 : Int32) (f1 : (Nat → Int32)) (f2 : (Nat → Int32)) (x3_3 : Int32) (x3_5 : Int32) (f4 : (Nat → Int32)) (f5 : (Nat → Int32)) (ox0_2 : Int32) (of1 : (Nat → Int32)) (of2 : (Nat → Int32)) (hF : S_Text_mend p2 x0_2 f1 f2 x3_3 x3_5 f4 f5 = some (ox0_2, of1, of2)) : Met l y_Text_mend w_Text_mend rm_Text_mend (va_Pc [.ref a0, .ref a3, .int p2] (fun U => U.heap.size = sz ∧ va_P (dC, dI) classes (wd_Text_mend kA a0 a1 a2 a3 a4 a5 v3_2 v3_4 x0_2 f1 f2 x3_3 x3_5 f4 f5) U.heap ∧ va_K (dC, dI) classes (tys_ kA) U ∧ va_D (fun _ => True) (wd_Text_mend kA a0 a1 a2 a3 a4 a5 v3_2 v3_4 x0_2 f1 f2 x3_3 x3_5 f4 f5))) (va_Qv (fun (_ : Unit) => True) (fun _ t => va_P (dC, dI) classes (wd_Text_mend kA a0 a1 a2 a3 a4 a5 v3_2 v3_4 ox0_2 of1 of2 x3_3 x3_5 f4 f5) t.heap ∧ va_K (dC, dI) classes (tys_ kA) t ∧ va_D (va_A (wd_Text_mend kA a0 a1 a2 a3 a4 a5 v3_2 v3_4 x0_2 f1 f2 x3_3 x3_5 f4 f5) sz) (wd_Text_mend kA a0 a1 a2 a3 a4 a5 v3_2 v3_4 ox0_2 of1 of2 x3_3 x3_5 f4 f5)) (va_A (wd_Text_mend kA a0 a1 a2 a3 a4 a5 v3_2 v3_4 x0_2 f1 f2 x3_3 x3_5 f4 f5) sz)) 0 0 (va_A (wd_Text_mend kA a0 a1 a2 a3 a4 a5 v3_2 v3_4 x0_2 f1 f2 x3_3 x3_5 f4 f5) sz) := by
  refine Met.ofW (cc := b_Text_mend) (maxL := 7) (ret := none) (by decide) rfl ?_
  intro p e s m args below meth c s₁ B hml hv
  obtain ⟨rfl, hsz, hP, hK, hD0⟩ := hv
  have hx := B.exec
  have hb := B.bytes
  have hr := B.returns
  have hts := atoms_spec (ws := w_Text_mend) B.pre
  have hown : s.vm.findClass R_Text = some m.cls := findClass_of_methodNamed B.named
  have hg := fun (w : Cond) (h : w ∈ gw) => hts w (List.mem_cons_of_mem _ h)
  have hlocks := B.notSynchronized
  subst hsz
  have hD := hD0.self (sz := s.heap.size)
  generalize hAe : va_A (wd_Text_mend kA a0 a1 a2 a3 a4 a5 v3_2 v3_4 x0_2 f1 f2 x3_3 x3_5 f4 f5) s.heap.size = A at hD ⊢
  have hA : ∀ q : Nat, s.heap.size ≤ q → A q := fun q h => by rw [← hAe]; exact Or.inr h
  have hS : va_S A s.heap s.heap [] := va_S.rf
  have hl := lv_entry ([.ref a0, .ref a3, .int p2]) (n := 7) (Nat.le_of_ble_eq_true rfl)
  rw [lg_entry_eq]
  generalize (lg_sl ([.ref a0, .ref a3, .int p2]) ++ List.replicate (7 - (lg_sl ([.ref a0, .ref a3, .int p2])).length) Slot.unset).toArray = ls at hl ⊢
  have hl : lv_has ls 7 [(0, .ref a0), (1, .ref a3), (2, .int p2)] := hl
  unfold S_Text_mend at hF
  have ih := L_Text_mend (l := l) (e := e) (below := below) hx hb hr hlocks hml hown hts hA hK a0 a1 a2 a3 a4 a5 v3_2 v3_4 x3_3 x3_5 f4 f5 ox0_2 of1 of2 fuel_
  refine lv_aload_n hx hb d_Text_mend_0 rfl (lv_at hl 1 rfl) ?_
  obtain ⟨u_17, hS_17, hF⟩ := rd_bind hF
  have hPc := hP.sub (ws' := (wd_Finds_wrongPlace kA a3 (.ref a5) (.ref a4) v3_2 (.int x3_3) v3_4 x3_5)) [3] rfl
  have hDc := hD.sub (ws' := (wd_Finds_wrongPlace kA a3 (.ref a5) (.ref a4) v3_2 (.int x3_3) v3_4 x3_5)) [3] (by decide) rfl
  have hFc := va_free (wc := (wd_Finds_wrongPlace kA a3 (.ref a5) (.ref a4) v3_2 (.int x3_3) v3_4 x3_5)) hD hS hA [3] rfl
  refine va_calli (va_runV (As := []) (rest := []) ⟨hx, hb, hml, hown, hts⟩ (c_Finds_wrongPlace l dC dI kA s.heap.size a3 (.ref a5) (.ref a4) v3_2 (.int x3_3) v3_4 x3_5 u_17 hS_17) (cwV 0 hts (gw_V gw_255 gw_256 gw_257 gw_11 gw_258) rfl rfl rfl (by decide +kernel) ⟨Nat.le_of_ble_eq_true rfl, Nat.le_of_ble_eq_true rfl⟩) ⟨fun a U g mk q => by obtain ⟨q0, q1, qP, qK, qD⟩ := q; exact ⟨q0, q1, qP, va_K.moved (u := U) (U := U.calling g mk a) (Vm.Alike.refl U.vm) qK, qD⟩, va_recv hK hP (ci := 1) (q0 := 3) rfl rfl, fun U hU hW => ⟨rfl, by rw [hU], by rw [hU]; exact hPc, va_K.moved hW.alike hK, hDc.weaken (fun _ _ _ _ => trivial)⟩⟩ rfl rfl hl.1 rfl (lv_room (Nat.le_of_ble_eq_true rfl)) d_Text_mend_1 ⟨Nat.zero_le _, Nat.zero_le _⟩) hS (fun q _ h => hFc q h) hFc (fun r1 u t H1 locs ht hvm hw hB hz1 hk1 hS => ?_)
  rw [show r1 = _ from hw]
  obtain ⟨hP1, hK1, hD1⟩ := hB
  rw [ht] at hP1
  obtain ⟨hP, hD⟩ := va_join (wr := [(a0, .inr (7, [.ref a1, .ref a2, .int x0_2])), (a1, .inl (kA 0, 16, .inl f1)), (a2, .inl (kA 0, 16, .inl f2)), (a4, .inl (kA 0, 40, .inl f4)), (a5, .inl (kA 0, 240, .inl f5))]) (w1 := (wd_Finds_wrongPlace kA a3 (.ref a5) (.ref a4) v3_2 (.int x3_3) v3_4 x3_5)) hP hD [3] [0, 1, 2, 4, 5] rfl rfl (by decide) (by decide) hk1 hFc hP1 hD1
  have hP := hP.sub (ws' := (wd_Text_mend kA a0 a1 a2 a3 a4 a5 v3_2 v3_4 x0_2 f1 f2 x3_3 x3_5 f4 f5)) [0, 1, 2, 5, 3, 4] rfl
  have hD := hD.sub (ws' := (wd_Text_mend kA a0 a1 a2 a3 a4 a5 v3_2 v3_4 x0_2 f1 f2 x3_3 x3_5 f4 f5)) [0, 1, 2, 5, 3, 4] (by decide) rfl
  clear hPc hDc hFc hP1 hK1 hD1
  generalize H1 = H at hP hS ⊢
  refine lv_istore_n (lv' := [(3, .int u_17), (0, .ref a0), (1, .ref a3), (2, .int p2)]) hx hb d_Text_mend_4 rfl hl (by decide) rfl (fun ls hl => ?_)
  refine lv_aload_n hx hb d_Text_mend_5 rfl (lv_at hl 1 rfl) ?_
  refine lv_iconst (v := 0) hx hb d_Text_mend_6 (by decide) ?_
  refine lv_iconst (v := 0) hx hb d_Text_mend_7 (by decide) ?_
  refine lv_iload_n hx hb d_Text_mend_8 rfl (lv_at hl 0 rfl) ?_
  obtain ⟨u_18, hS_18, hF⟩ := rd_bind hF
  have hPc := hP.sub (ws' := (wd_Text_copyInto kA a0 a1 a2 x0_2 f1 f2)) [0, 1, 2] rfl
  have hDc := hD.sub (ws' := (wd_Text_copyInto kA a0 a1 a2 x0_2 f1 f2)) [0, 1, 2] (by decide) rfl
  have hFc := va_free (wc := (wd_Text_copyInto kA a0 a1 a2 x0_2 f1 f2)) hD hS hA [0, 1, 2] rfl
  refine va_calli (va_runV (As := [.int 0, .int 0, .int u_17]) (rest := []) ⟨hx, hb, hml, hown, hts⟩ (c_Text_copyInto l dC dI kA H.size a0 a1 a2 0 0 u_17 x0_2 f1 f2 u_18.1 u_18.2 hS_18) (cwV 3 hts (gw_V gw_247 gw_248 gw_249 gw_123 gw_250) rfl rfl rfl (by decide +kernel) ⟨Nat.le_of_ble_eq_true rfl, Nat.le_of_ble_eq_true rfl⟩) ⟨fun a U g mk q => by obtain ⟨q0, q1, qP, qK, qD⟩ := q; exact ⟨q0, q1, qP, va_K.moved (u := U) (U := U.calling g mk a) (Vm.Alike.refl U.vm) qK, qD⟩, va_recv hK hP (ci := 7) (q0 := 0) rfl rfl, fun U hU hW => ⟨rfl, by rw [hU], by rw [hU]; exact hPc, va_K.moved hW.alike hK, hDc.weaken (fun _ _ _ _ => trivial)⟩⟩ rfl rfl hl.1 rfl (lv_room (Nat.le_of_ble_eq_true rfl)) d_Text_mend_9 ⟨Nat.zero_le _, Nat.zero_le _⟩) hS (fun q _ h => hFc q h) hFc (fun r1 u t H1 locs ht hvm hw hB hz1 hk1 hS => ?_)
  rw [show r1 = _ from hw]
  obtain ⟨hP1, hK1, hD1⟩ := hB
  rw [ht] at hP1
  obtain ⟨hP, hD⟩ := va_join (wr := [(a3, .inr (1, [.ref a5, .ref a4, v3_2, .int x3_3, v3_4, .int x3_5])), (a4, .inl (kA 0, 40, .inl f4)), (a5, .inl (kA 0, 240, .inl f5))]) (w1 := (wd_Text_copyInto kA a0 a1 a2 x0_2 f1 u_18.2)) hP hD [0, 1, 2] [3, 4, 5] rfl rfl (by decide) (by decide) hk1 hFc hP1 hD1
  have hP := hP.sub (ws' := (wd_Text_mend kA a0 a1 a2 a3 a4 a5 v3_2 v3_4 x0_2 f1 u_18.2 x3_3 x3_5 f4 f5)) [3, 4, 5, 0, 1, 2] rfl
  have hD := hD.sub (ws' := (wd_Text_mend kA a0 a1 a2 a3 a4 a5 v3_2 v3_4 x0_2 f1 u_18.2 x3_3 x3_5 f4 f5)) [3, 4, 5, 0, 1, 2] (by decide) rfl
  clear hPc hDc hFc hP1 hK1 hD1
  generalize H1 = H at hP hS ⊢
  refine lv_istore (lv' := [(4, .int u_18.1), (3, .int u_17), (0, .ref a0), (1, .ref a3), (2, .int p2)]) hx hb d_Text_mend_12 hl (by decide) rfl (fun ls hl => ?_)
  refine lv_iconst (v := 0) hx hb d_Text_mend_14 (by decide) ?_
  refine lv_istore (lv' := [(5, .int 0), (4, .int u_18.1), (3, .int u_17), (0, .ref a0), (1, .ref a3), (2, .int p2)]) hx hb d_Text_mend_15 hl (by decide) rfl (fun ls hl => ?_)
  exact ih.1 p2 u_17 u_18.1 0 0 x0_2 f1 u_18.2 hF _ _ _ hP hD hS (lv_sub hl [3, 4, 5, 2, 1, 0] rfl)
