-- ===== RepairDesk$Grammar.ruleCount()I
abbrev wd_Grammar_ruleCount (kA : Nat → ClassId) (a0 : Nat) (v0_0 v0_1 v0_2 v0_3 v0_4 v0_5 : Value) (x0_6 : Int32) : va_W := [(a0, .inr (2, [v0_0, v0_1, v0_2, v0_3, v0_4, v0_5, .int x0_6]))]
abbrev rm_Grammar_ruleCount : Room := { frames := 0, cells := 0, slots := 0, locals := 0 }
def S_Grammar_ruleCount (x0_6 : Int32) : Option (Int32) := (some x0_6)
set_option maxHeartbeats 4000000 in
set_option maxRecDepth 100000 in
theorem c_Grammar_ruleCount (l : Launch) (dC : Nat → ClassId) (dI : Nat → Nat → Nat) (kA : Nat → ClassId) (sz : Nat) (a0 : Nat) (v0_0 v0_1 v0_2 v0_3 v0_4 v0_5 : Value) (x0_6 : Int32) (r : Int32) (hF : S_Grammar_ruleCount x0_6 = some r) : Met l y_Grammar_ruleCount w_Grammar_ruleCount rm_Grammar_ruleCount (va_Pc [.ref a0] (fun U => U.heap.size = sz ∧ va_P (dC, dI) classes (wd_Grammar_ruleCount kA a0 v0_0 v0_1 v0_2 v0_3 v0_4 v0_5 x0_6) U.heap ∧ va_K (dC, dI) classes (tys_ kA) U ∧ va_D (fun _ => True) (wd_Grammar_ruleCount kA a0 v0_0 v0_1 v0_2 v0_3 v0_4 v0_5 x0_6))) (va_Qi (fun (r1 : Int32) (_ : Unit) => r1 = r) (fun _ t => va_P (dC, dI) classes (wd_Grammar_ruleCount kA a0 v0_0 v0_1 v0_2 v0_3 v0_4 v0_5 x0_6) t.heap ∧ va_K (dC, dI) classes (tys_ kA) t ∧ va_D (va_A (wd_Grammar_ruleCount kA a0 v0_0 v0_1 v0_2 v0_3 v0_4 v0_5 x0_6) sz) (wd_Grammar_ruleCount kA a0 v0_0 v0_1 v0_2 v0_3 v0_4 v0_5 x0_6)) (va_A (wd_Grammar_ruleCount kA a0 v0_0 v0_1 v0_2 v0_3 v0_4 v0_5 x0_6) sz)) 0 0 (va_A (wd_Grammar_ruleCount kA a0 v0_0 v0_1 v0_2 v0_3 v0_4 v0_5 x0_6) sz) := by
  refine Met.ofW (cc := b_Grammar_ruleCount) (maxL := 1) (ret := some .int) (by decide) rfl ?_
  intro p e s m args below meth c s₁ B hml hv
  obtain ⟨rfl, hsz, hP, hK, hD0⟩ := hv
  have hx := B.exec
  have hb := B.bytes
  have hr := B.returns
  have hts := atoms_spec (ws := w_Grammar_ruleCount) B.pre
  have hown : s.vm.findClass R_Grammar = some m.cls := findClass_of_methodNamed B.named
  have hg := fun (w : Cond) (h : w ∈ gw) => hts w (List.mem_cons_of_mem _ h)
  have hlocks := B.notSynchronized
  subst hsz
  have hD := hD0.self (sz := s.heap.size)
  generalize hAe : va_A (wd_Grammar_ruleCount kA a0 v0_0 v0_1 v0_2 v0_3 v0_4 v0_5 x0_6) s.heap.size = A at hD ⊢
  have hA : ∀ q : Nat, s.heap.size ≤ q → A q := fun q h => by rw [← hAe]; exact Or.inr h
  have hS : va_S A s.heap s.heap [] := va_S.rf
  have hl := lv_entry ([.ref a0]) (n := 1) (Nat.le_of_ble_eq_true rfl)
  rw [lg_entry_eq]
  generalize (lg_sl ([.ref a0]) ++ List.replicate (1 - (lg_sl ([.ref a0])).length) Slot.unset).toArray = ls at hl ⊢
  have hl : lv_has ls 1 [(0, .ref a0)] := hl
  unfold S_Grammar_ruleCount at hF
  refine lv_aload_n hx hb d_Grammar_ruleCount_0 rfl (lv_at hl 0 rfl) ?_
  refine va_get (D := (dC, dI)) (ci := 2) (v := .int x0_6) (C := R_Grammar) (T := F_Grammar) (N := 7) hx hb hg iw_Grammar hown hK hP 0 rfl rfl 6 (by decide) (hg _ gw_20) (fun _ h9 => h9) rfl d_Grammar_ruleCount_1 ?_
  have e0 := Option.some.inj hF
  exact W.iret (v := x0_6) hx hb hr (fun t ht hW => ⟨⟨x0_6, (), rfl, e0, by rw [ht]; exact hP, va_K.moved hW.alike hK, (by exact hD)⟩, hS.F ht⟩) hS.2.2 d_Grammar_ruleCount_4 hlocks
-- ===== RepairDesk$Grammar.readDraft(LRepairDesk$Line;)Z
abbrev wd_Grammar_readDraft (kA : Nat → ClassId) (a0 a1 a2 a3 a4 a5 : Nat) (v0_3 v0_4 v0_5 v0_6 : Value) (f1 : (Nat → Int32)) (f2 : (Nat → Int32)) (f3 : (Nat → Int32)) (x4_1 : Int32) (f5 : (Nat → Int32)) : va_W := [(a0, .inr (2, [.ref a1, .ref a3, .ref a2, v0_3, v0_4, v0_5, v0_6])), (a1, .inl (kA 0, 12, .inl f1)), (a2, .inl (kA 0, 48, .inl f2)), (a3, .inl (kA 0, 12, .inl f3)), (a4, .inr (3, [.ref a5, .int x4_1])), (a5, .inl (kA 2, 10, .inl f5))]
abbrev rm_Grammar_readDraft : Room := { frames := 1, cells := 0, slots := 0, locals := 22 }
def B_Grammar_readDraft_0 (K : Nat → Int32 → Int32 → Int32 → (Nat → Int32) → (Nat → Int32) → (Nat → Int32) → Option (Int32 × (Nat → Int32) × (Nat → Int32) × (Nat → Int32))) (x4_1 : Int32) (f5 : (Nat → Int32)) (l2 : Int32) (l3 : Int32) (l4 : Int32) (f1 : (Nat → Int32)) (f2 : (Nat → Int32)) (f3 : (Nat → Int32)) : Option (Int32 × (Nat → Int32) × (Nat → Int32) × (Nat → Int32)) := (if l2 ≤ l4 then (if (11 : Int32) < 0 ∨ 12 ≤ (Int32.toNatClampNeg 11) then none else (if (11 : Int32) < 0 ∨ 12 ≤ (Int32.toNatClampNeg 11) then none else (some (1, (upd f1 (Int32.toNatClampNeg 11) l3), f2, (upd f3 (Int32.toNatClampNeg 11) l2))))) else ((S_Line_symbolAt (l4 + 2) x4_1 f5).bind fun u_4 => (if 0 ≤ u_4 then (if ((44 + l4) : Int32) < 0 ∨ 48 ≤ (Int32.toNatClampNeg (44 + l4)) then none else (K 0 l2 l3 (l4 + 1) f1 (upd f2 (Int32.toNatClampNeg (44 + l4)) u_4) f3)) else (some (0, f1, f2, f3)))))
def F_Grammar_readDraft (x4_1 : Int32) (f5 : (Nat → Int32)) : Nat → Nat → Int32 → Int32 → Int32 → (Nat → Int32) → (Nat → Int32) → (Nat → Int32) → Option (Int32 × (Nat → Int32) × (Nat → Int32) × (Nat → Int32))
  | 0 => fun _ _ _ _ _ _ _ => none
  | n + 1 => fun hd l2 l3 l4 f1 f2 f3 => match hd with
    | 0 => B_Grammar_readDraft_0 (F_Grammar_readDraft x4_1 f5 n) x4_1 f5 l2 l3 l4 f1 f2 f3
    | _ => none
set_option maxHeartbeats 4000000 in
set_option maxRecDepth 100000 in
theorem L_Grammar_readDraft {p : Program} {l : Launch} {e : Env} {s : State} {m : MethodId} {args : Array Value} {below : List Frame} {meth : Method} {c : Code} {A : Nat → Prop} {dC : Nat → ClassId} {dI : Nat → Nat → Nat} {kA : Nat → ClassId} (hx : p.tables.exec = Jvm.exec) (hb : c.code = b_Grammar_readDraft) (hr : meth.sig.returnType = some .boolean) (hlocks : meth.locks = false) (hml : c.maxLocals = 6) (hown : s.vm.findClass R_Grammar = some m.cls) (hts : ∀ w ∈ w_Grammar_readDraft, w.before args s = true) (hA : ∀ q : Nat, s.heap.size ≤ q → A q) (hK : va_K (dC, dI) classes (tys_ kA) s) (a0 a1 a2 a3 a4 a5 : Nat) (v0_3 v0_4 v0_5 v0_6 : Value) (x4_1 : Int32) (f5 : (Nat → Int32)) (r : Int32) (of1 : (Nat → Int32)) (of2 : (Nat → Int32)) (of3 : (Nat → Int32)) : ∀ n : Nat, (∀ (l2 l3 l4 : Int32) (f1 : (Nat → Int32)) (f2 : (Nat → Int32)) (f3 : (Nat → Int32)), F_Grammar_readDraft x4_1 f5 n 0 l2 l3 l4 f1 f2 f3 = some (r, of1, of2, of3) → ∀ (H : Heap) (locs : List Loc) (ls : Array Slot), va_P (dC, dI) classes (wd_Grammar_readDraft kA a0 a1 a2 a3 a4 a5 v0_3 v0_4 v0_5 v0_6 f1 f2 f3 x4_1 f5) H → va_D A (wd_Grammar_readDraft kA a0 a1 a2 a3 a4 a5 v0_3 v0_4 v0_5 v0_6 f1 f2 f3 x4_1 f5) → va_S A s.heap H locs → lv_has ls 6 [(0, .ref a0), (1, .ref a4), (2, .int l2), (3, .int l3), (4, .int l4)] → W p l e (headSpec w_Grammar_readDraft rm_Grammar_readDraft).room s m args below meth c H locs 0 0 (MQ below (va_Qi (fun (r1 : Int32) (_ : Unit) => r1 = r) (fun _ t => va_P (dC, dI) classes (wd_Grammar_readDraft kA a0 a1 a2 a3 a4 a5 v0_3 v0_4 v0_5 v0_6 of1 of2 of3 x4_1 f5) t.heap ∧ va_K (dC, dI) classes (tys_ kA) t ∧ va_D A (wd_Grammar_readDraft kA a0 a1 a2 a3 a4 a5 v0_3 v0_4 v0_5 v0_6 of1 of2 of3 x4_1 f5)) A) args s 0 0 A) (F0 m 41 ls [])) := by
  have hg := fun (w : Cond) (h : w ∈ gw) => hts w (List.mem_cons_of_mem _ h)
  intro n
  induction n with
  | zero =>
    exact fun _ _ _ _ _ _ hF => absurd (show (none : Option _) = some _ from hF) (fun z => by cases z)
  | succ n ih =>
    intro l2 l3 l4 f1 f2 f3 hF H locs ls hP hD hS hl
    have hF : B_Grammar_readDraft_0 (F_Grammar_readDraft x4_1 f5 n) x4_1 f5 l2 l3 l4 f1 f2 f3 = some (r, of1, of2, of3) := hF
    unfold B_Grammar_readDraft_0 at hF
    refine lv_iload hx hb d_Grammar_readDraft_41 (lv_at hl 4 rfl) ?_
    refine lv_iload_n hx hb d_Grammar_readDraft_43 rfl (lv_at hl 2 rfl) ?_
    refine lv_icmp_ge (tgt := 82) hx hb d_Grammar_readDraft_44 (by decide) (fun c_1 => ?_) (fun c_1 => ?_)
    · rw [if_pos c_1] at hF
      refine lv_aload_n hx hb d_Grammar_readDraft_82 rfl (lv_at hl 0 rfl) ?_
      refine va_get (D := (dC, dI)) (ci := 2) (v := .ref a1) (C := R_Grammar) (T := F_Grammar) (N := 7) hx hb hg iw_Grammar hown hK hP 0 rfl rfl 0 (by decide) (hg _ gw_23) (fun _ h9 => h9) rfl d_Grammar_readDraft_83 ?_
      refine lv_bipush (v := 11) hx hb d_Grammar_readDraft_86 (by decide) ?_
      refine lv_iload_n hx hb d_Grammar_readDraft_88 rfl (lv_at hl 3 rfl) ?_
      obtain ⟨h_2, hF⟩ := rd_chk hF
      refine va_iast hx hb hK hP hD hS 1 0 rfl rfl h_2 d_Grammar_readDraft_89 (fun H locs hP hD hS => ?_)
      have hP : va_P (dC, dI) classes (wd_Grammar_readDraft kA a0 a1 a2 a3 a4 a5 v0_3 v0_4 v0_5 v0_6 (upd f1 (Int32.toNatClampNeg 11) l3) f2 f3 x4_1 f5) H := hP
      have hD : va_D A (wd_Grammar_readDraft kA a0 a1 a2 a3 a4 a5 v0_3 v0_4 v0_5 v0_6 (upd f1 (Int32.toNatClampNeg 11) l3) f2 f3 x4_1 f5) := hD
      refine lv_aload_n hx hb d_Grammar_readDraft_90 rfl (lv_at hl 0 rfl) ?_
      refine va_get (D := (dC, dI)) (ci := 2) (v := .ref a3) (C := R_Grammar) (T := F_Grammar) (N := 7) hx hb hg iw_Grammar hown hK hP 0 rfl rfl 1 (by decide) (hg _ gw_24) (fun _ h9 => h9) rfl d_Grammar_readDraft_91 ?_
      refine lv_bipush (v := 11) hx hb d_Grammar_readDraft_94 (by decide) ?_
      refine lv_iload_n hx hb d_Grammar_readDraft_96 rfl (lv_at hl 2 rfl) ?_
      obtain ⟨h_3, hF⟩ := rd_chk hF
      refine va_iast hx hb hK hP hD hS 3 0 rfl rfl h_3 d_Grammar_readDraft_97 (fun H locs hP hD hS => ?_)
      have hP : va_P (dC, dI) classes (wd_Grammar_readDraft kA a0 a1 a2 a3 a4 a5 v0_3 v0_4 v0_5 v0_6 (upd f1 (Int32.toNatClampNeg 11) l3) f2 (upd f3 (Int32.toNatClampNeg 11) l2) x4_1 f5) H := hP
      have hD : va_D A (wd_Grammar_readDraft kA a0 a1 a2 a3 a4 a5 v0_3 v0_4 v0_5 v0_6 (upd f1 (Int32.toNatClampNeg 11) l3) f2 (upd f3 (Int32.toNatClampNeg 11) l2) x4_1 f5) := hD
      refine lv_iconst (v := 1) hx hb d_Grammar_readDraft_98 (by decide) ?_
      have e0 := Option.some.inj hF
      have q0 := Prod.mk.inj e0
      have q1 := Prod.mk.inj q0.2
      have q2 := Prod.mk.inj q1.2
      exact W.zret (v := 1) hx hb hr rfl (fun t ht hW => ⟨⟨1, (), rfl, q0.1, by rw [ht, ← q1.1, ← q2.1, ← q2.2]; exact hP, va_K.moved hW.alike hK, (by rw [← q1.1, ← q2.1, ← q2.2]; exact hD)⟩, hS.F ht⟩) hS.2.2 d_Grammar_readDraft_99 hlocks
    · rw [if_neg c_1] at hF
      refine lv_aload_n hx hb d_Grammar_readDraft_47 rfl (lv_at hl 1 rfl) ?_
      refine lv_iload hx hb d_Grammar_readDraft_48 (lv_at hl 4 rfl) ?_
      refine lv_iconst (v := 2) hx hb d_Grammar_readDraft_50 (by decide) ?_
      refine lv_iadd hx hb d_Grammar_readDraft_51 ?_
      obtain ⟨u_4, hS_4, hF⟩ := rd_bind hF
      have hPc := hP.sub (ws' := (wd_Line_symbolAt kA a4 a5 x4_1 f5)) [4, 5] rfl
      have hDc := hD.sub (ws' := (wd_Line_symbolAt kA a4 a5 x4_1 f5)) [4, 5] (by decide) rfl
      have hFc := va_free (wc := (wd_Line_symbolAt kA a4 a5 x4_1 f5)) hD hS hA [4, 5] rfl
      refine va_calli (va_runV (As := [.int (l4 + 2)]) (rest := []) ⟨hx, hb, hml, hown, hts⟩ (c_Line_symbolAt l dC dI kA H.size a4 a5 (l4 + 2) x4_1 f5 u_4 hS_4) (cwV 1 hts (gw_V gw_25 gw_26 gw_27 gw_28 gw_29) rfl rfl rfl (by decide +kernel) ⟨Nat.le_of_ble_eq_true rfl, Nat.le_of_ble_eq_true rfl⟩) ⟨fun a U g mk q => by obtain ⟨q0, q1, qP, qK, qD⟩ := q; exact ⟨q0, q1, qP, va_K.moved (u := U) (U := U.calling g mk a) (Vm.Alike.refl U.vm) qK, qD⟩, va_recv hK hP (ci := 3) (q0 := 4) rfl rfl, fun U hU hW => ⟨rfl, by rw [hU], by rw [hU]; exact hPc, va_K.moved hW.alike hK, hDc.weaken (fun _ _ _ _ => trivial)⟩⟩ rfl rfl hl.1 rfl (lv_room (Nat.le_of_ble_eq_true rfl)) d_Grammar_readDraft_52 ⟨Nat.zero_le _, Nat.zero_le _⟩) hS (fun q _ h => hFc q h) hFc (fun r1 u t H1 locs ht hvm hw hB hz1 hk1 hS => ?_)
      rw [show r1 = _ from hw]
      obtain ⟨hP1, hK1, hD1⟩ := hB
      rw [ht] at hP1
      obtain ⟨hP, hD⟩ := va_join (wr := [(a0, .inr (2, [.ref a1, .ref a3, .ref a2, v0_3, v0_4, v0_5, v0_6])), (a1, .inl (kA 0, 12, .inl f1)), (a2, .inl (kA 0, 48, .inl f2)), (a3, .inl (kA 0, 12, .inl f3))]) (w1 := (wd_Line_symbolAt kA a4 a5 x4_1 f5)) hP hD [4, 5] [0, 1, 2, 3] rfl rfl (by decide) (by decide) hk1 hFc hP1 hD1
      have hP := hP.sub (ws' := (wd_Grammar_readDraft kA a0 a1 a2 a3 a4 a5 v0_3 v0_4 v0_5 v0_6 f1 f2 f3 x4_1 f5)) [0, 1, 2, 3, 4, 5] rfl
      have hD := hD.sub (ws' := (wd_Grammar_readDraft kA a0 a1 a2 a3 a4 a5 v0_3 v0_4 v0_5 v0_6 f1 f2 f3 x4_1 f5)) [0, 1, 2, 3, 4, 5] (by decide) rfl
      clear hPc hDc hFc hP1 hK1 hD1
      generalize H1 = H at hP hS ⊢
      refine lv_istore (lv' := [(5, .int u_4), (0, .ref a0), (1, .ref a4), (2, .int l2), (3, .int l3), (4, .int l4)]) hx hb d_Grammar_readDraft_55 hl (by decide) rfl (fun ls hl => ?_)
      refine lv_iload hx hb d_Grammar_readDraft_57 (lv_at hl 0 rfl) ?_
      refine lv_if_ge (tgt := 64) hx hb d_Grammar_readDraft_59 (by decide) (fun c_5 => ?_) (fun c_5 => ?_)
      · rw [if_pos c_5] at hF
        refine lv_aload_n hx hb d_Grammar_readDraft_64 rfl (lv_at hl 1 rfl) ?_
        refine va_get (D := (dC, dI)) (ci := 2) (v := .ref a2) (C := R_Grammar) (T := F_Grammar) (N := 7) hx hb hg iw_Grammar hown hK hP 0 rfl rfl 2 (by decide) (hg _ gw_30) (fun _ h9 => h9) rfl d_Grammar_readDraft_65 ?_
        refine lv_bipush (v := 44) hx hb d_Grammar_readDraft_68 (by decide) ?_
        refine lv_iload hx hb d_Grammar_readDraft_70 (lv_at hl 5 rfl) ?_
        refine lv_iadd hx hb d_Grammar_readDraft_72 ?_
        refine lv_iload hx hb d_Grammar_readDraft_73 (lv_at hl 0 rfl) ?_
        obtain ⟨h_6, hF⟩ := rd_chk hF
        refine va_iast hx hb hK hP hD hS 2 0 rfl rfl h_6 d_Grammar_readDraft_75 (fun H locs hP hD hS => ?_)
        have hP : va_P (dC, dI) classes (wd_Grammar_readDraft kA a0 a1 a2 a3 a4 a5 v0_3 v0_4 v0_5 v0_6 f1 (upd f2 (Int32.toNatClampNeg (44 + l4)) u_4) f3 x4_1 f5) H := hP
        have hD : va_D A (wd_Grammar_readDraft kA a0 a1 a2 a3 a4 a5 v0_3 v0_4 v0_5 v0_6 f1 (upd f2 (Int32.toNatClampNeg (44 + l4)) u_4) f3 x4_1 f5) := hD
        refine lv_iinc (v := (l4 + 1)) (lv' := [(4, .int (l4 + 1)), (5, .int u_4), (0, .ref a0), (1, .ref a4), (2, .int l2), (3, .int l3)]) hx hb d_Grammar_readDraft_76 hl (k := 5) rfl (by rfl) (by decide) rfl (fun ls hl => ?_)
        refine lv_goto (tgt := 41) hx hb d_Grammar_readDraft_79 (by decide) ?_
        exact ih l2 l3 (l4 + 1) f1 (upd f2 (Int32.toNatClampNeg (44 + l4)) u_4) f3 hF _ _ _ hP hD hS (lv_sub hl [2, 3, 4, 5, 0] rfl)
      · rw [if_neg c_5] at hF
        refine lv_iconst (v := 0) hx hb d_Grammar_readDraft_62 (by decide) ?_
        have e0 := Option.some.inj hF
        have q0 := Prod.mk.inj e0
        have q1 := Prod.mk.inj q0.2
        have q2 := Prod.mk.inj q1.2
        exact W.zret (v := 0) hx hb hr rfl (fun t ht hW => ⟨⟨0, (), rfl, q0.1, by rw [ht, ← q1.1, ← q2.1, ← q2.2]; exact hP, va_K.moved hW.alike hK, (by rw [← q1.1, ← q2.1, ← q2.2]; exact hD)⟩, hS.F ht⟩) hS.2.2 d_Grammar_readDraft_63 hlocks
def S_Grammar_readDraft (f1 : (Nat → Int32)) (f2 : (Nat → Int32)) (f3 : (Nat → Int32)) (x4_1 : Int32) (f5 : (Nat → Int32)) : Option (Int32 × (Nat → Int32) × (Nat → Int32) × (Nat → Int32)) := ((S_Line_size x4_1).bind fun u_7 => ((S_Line_symbolAt 0 x4_1 f5).bind fun u_8 => (if (u_7 - 2) < 0 then (some (0, f1, f2, f3)) else (if 4 < (u_7 - 2) then (some (0, f1, f2, f3)) else (if u_8 < 6 then (some (0, f1, f2, f3)) else ((S_Line_isEqualsSign 1 x4_1 f5).bind fun u_12 => (if ¬ u_12 = 0 then (F_Grammar_readDraft x4_1 f5 fuel_ 0 (u_7 - 2) u_8 0 f1 f2 f3) else (some (0, f1, f2, f3)))))))))
set_option maxHeartbeats 4000000 in
set_option maxRecDepth 100000 in
theorem c_Grammar_readDraft (l : Launch) (dC : Nat → ClassId) (dI : Nat → Nat → Nat) (kA : Nat → ClassId) (sz : Nat) (a0 a1 a2 a3 a4 a5 : Nat) (v0_3 v0_4 v0_5 v0_6 : Value) (f1 : (Nat → Int32)) (f2 : (Nat → Int32)) (f3 : (Nat → Int32)) (x4_1 : Int32) (f5 : (Nat → Int32)) (r : Int32) (of1 : (Nat → Int32)) (of2 : (Nat → Int32)) (of3 : (Nat → Int32)) (hF : S_Grammar_readDraft f1 f2 f3 x4_1 f5 = some (r, of1, of2, of3)) : Met l y_Grammar_readDraft w_Grammar_readDraft rm_Grammar_readDraft (va_Pc [.ref a0, .ref a4] (fun U => U.heap.size = sz ∧ va_P (dC, dI) classes (wd_Grammar_readDraft kA a0 a1 a2 a3 a4 a5 v0_3 v0_4 v0_5 v0_6 f1 f2 f3 x4_1 f5) U.heap ∧ va_K (dC, dI) classes (tys_ kA) U ∧ va_D (fun _ => True) (wd_Grammar_readDraft kA a0 a1 a2 a3 a4 a5 v0_3 v0_4 v0_5 v0_6 f1 f2 f3 x4_1 f5))) (va_Qi (fun (r1 : Int32) (_ : Unit) => r1 = r) (fun _ t => va_P (dC, dI) classes (wd_Grammar_readDraft kA a0 a1 a2 a3 a4 a5 v0_3 v0_4 v0_5 v0_6 of1 of2 of3 x4_1 f5) t.heap ∧ va_K (dC, dI) classes (tys_ kA) t ∧ va_D (va_A (wd_Grammar_readDraft kA a0 a1 a2 a3 a4 a5 v0_3 v0_4 v0_5 v0_6 f1 f2 f3 x4_1 f5) sz) (wd_Grammar_readDraft kA a0 a1 a2 a3 a4 a5 v0_3 v0_4 v0_5 v0_6 of1 of2 of3 x4_1 f5)) (va_A (wd_Grammar_readDraft kA a0 a1 a2 a3 a4 a5 v0_3 v0_4 v0_5 v0_6 f1 f2 f3 x4_1 f5) sz)) 0 0 (va_A (wd_Grammar_readDraft kA a0 a1 a2 a3 a4 a5 v0_3 v0_4 v0_5 v0_6 f1 f2 f3 x4_1 f5) sz) := by
  refine Met.ofW (cc := b_Grammar_readDraft) (maxL := 6) (ret := some .boolean) (by decide) rfl ?_
  intro p e s m args below meth c s₁ B hml hv
  obtain ⟨rfl, hsz, hP, hK, hD0⟩ := hv
  have hx := B.exec
  have hb := B.bytes
  have hr := B.returns
  have hts := atoms_spec (ws := w_Grammar_readDraft) B.pre
  have hown : s.vm.findClass R_Grammar = some m.cls := findClass_of_methodNamed B.named
  have hg := fun (w : Cond) (h : w ∈ gw) => hts w (List.mem_cons_of_mem _ h)
  have hlocks := B.notSynchronized
  subst hsz
  have hD := hD0.self (sz := s.heap.size)
  generalize hAe : va_A (wd_Grammar_readDraft kA a0 a1 a2 a3 a4 a5 v0_3 v0_4 v0_5 v0_6 f1 f2 f3 x4_1 f5) s.heap.size = A at hD ⊢
  have hA : ∀ q : Nat, s.heap.size ≤ q → A q := fun q h => by rw [← hAe]; exact Or.inr h
  have hS : va_S A s.heap s.heap [] := va_S.rf
  have hl := lv_entry ([.ref a0, .ref a4]) (n := 6) (Nat.le_of_ble_eq_true rfl)
  rw [lg_entry_eq]
  generalize (lg_sl ([.ref a0, .ref a4]) ++ List.replicate (6 - (lg_sl ([.ref a0, .ref a4])).length) Slot.unset).toArray = ls at hl ⊢
  have hl : lv_has ls 6 [(0, .ref a0), (1, .ref a4)] := hl
  unfold S_Grammar_readDraft at hF
  have ih := L_Grammar_readDraft (l := l) (e := e) (below := below) hx hb hr hlocks hml hown hts hA hK a0 a1 a2 a3 a4 a5 v0_3 v0_4 v0_5 v0_6 x4_1 f5 r of1 of2 of3 fuel_
  refine lv_aload_n hx hb d_Grammar_readDraft_0 rfl (lv_at hl 1 rfl) ?_
  obtain ⟨u_7, hS_7, hF⟩ := rd_bind hF
  have hPc := hP.sub (ws' := (wd_Line_size kA a4 (.ref a5) x4_1)) [4] rfl
  have hDc := hD.sub (ws' := (wd_Line_size kA a4 (.ref a5) x4_1)) [4] (by decide) rfl
  have hFc := va_free (wc := (wd_Line_size kA a4 (.ref a5) x4_1)) hD hS hA [4] rfl
  refine va_calli (va_runV (As := []) (rest := []) ⟨hx, hb, hml, hown, hts⟩ (c_Line_size l dC dI kA s.heap.size a4 (.ref a5) x4_1 u_7 hS_7) (cwV 0 hts (gw_V gw_31 gw_32 gw_33 gw_28 gw_34) rfl rfl rfl (by decide +kernel) ⟨Nat.le_of_ble_eq_true rfl, Nat.le_of_ble_eq_true rfl⟩) ⟨fun a U g mk q => by obtain ⟨q0, q1, qP, qK, qD⟩ := q; exact ⟨q0, q1, qP, va_K.moved (u := U) (U := U.calling g mk a) (Vm.Alike.refl U.vm) qK, qD⟩, va_recv hK hP (ci := 3) (q0 := 4) rfl rfl, fun U hU hW => ⟨rfl, by rw [hU], by rw [hU]; exact hPc, va_K.moved hW.alike hK, hDc.weaken (fun _ _ _ _ => trivial)⟩⟩ rfl rfl hl.1 rfl (lv_room (Nat.le_of_ble_eq_true rfl)) d_Grammar_readDraft_1 ⟨Nat.zero_le _, Nat.zero_le _⟩) hS (fun q _ h => hFc q h) hFc (fun r1 u t H1 locs ht hvm hw hB hz1 hk1 hS => ?_)
  rw [show r1 = _ from hw]
  obtain ⟨hP1, hK1, hD1⟩ := hB
  rw [ht] at hP1
  obtain ⟨hP, hD⟩ := va_join (wr := [(a0, .inr (2, [.ref a1, .ref a3, .ref a2, v0_3, v0_4, v0_5, v0_6])), (a1, .inl (kA 0, 12, .inl f1)), (a2, .inl (kA 0, 48, .inl f2)), (a3, .inl (kA 0, 12, .inl f3)), (a5, .inl (kA 2, 10, .inl f5))]) (w1 := (wd_Line_size kA a4 (.ref a5) x4_1)) hP hD [4] [0, 1, 2, 3, 5] rfl rfl (by decide) (by decide) hk1 hFc hP1 hD1
  have hP := hP.sub (ws' := (wd_Grammar_readDraft kA a0 a1 a2 a3 a4 a5 v0_3 v0_4 v0_5 v0_6 f1 f2 f3 x4_1 f5)) [0, 1, 2, 3, 5, 4] rfl
  have hD := hD.sub (ws' := (wd_Grammar_readDraft kA a0 a1 a2 a3 a4 a5 v0_3 v0_4 v0_5 v0_6 f1 f2 f3 x4_1 f5)) [0, 1, 2, 3, 5, 4] (by decide) rfl
  clear hPc hDc hFc hP1 hK1 hD1
  generalize H1 = H at hP hS ⊢
  refine lv_iconst (v := 2) hx hb d_Grammar_readDraft_4 (by decide) ?_
  refine lv_isub hx hb d_Grammar_readDraft_5 ?_
  refine lv_istore_n (lv' := [(2, .int (u_7 - 2)), (0, .ref a0), (1, .ref a4)]) hx hb d_Grammar_readDraft_6 rfl hl (by decide) rfl (fun ls hl => ?_)
  refine lv_aload_n hx hb d_Grammar_readDraft_7 rfl (lv_at hl 2 rfl) ?_
  refine lv_iconst (v := 0) hx hb d_Grammar_readDraft_8 (by decide) ?_
  obtain ⟨u_8, hS_8, hF⟩ := rd_bind hF
  have hPc := hP.sub (ws' := (wd_Line_symbolAt kA a4 a5 x4_1 f5)) [4, 5] rfl
  have hDc := hD.sub (ws' := (wd_Line_symbolAt kA a4 a5 x4_1 f5)) [4, 5] (by decide) rfl
  have hFc := va_free (wc := (wd_Line_symbolAt kA a4 a5 x4_1 f5)) hD hS hA [4, 5] rfl
  refine va_calli (va_runV (As := [.int 0]) (rest := []) ⟨hx, hb, hml, hown, hts⟩ (c_Line_symbolAt l dC dI kA H.size a4 a5 0 x4_1 f5 u_8 hS_8) (cwV 1 hts (gw_V gw_25 gw_26 gw_27 gw_28 gw_29) rfl rfl rfl (by decide +kernel) ⟨Nat.le_of_ble_eq_true rfl, Nat.le_of_ble_eq_true rfl⟩) ⟨fun a U g mk q => by obtain ⟨q0, q1, qP, qK, qD⟩ := q; exact ⟨q0, q1, qP, va_K.moved (u := U) (U := U.calling g mk a) (Vm.Alike.refl U.vm) qK, qD⟩, va_recv hK hP (ci := 3) (q0 := 4) rfl rfl, fun U hU hW => ⟨rfl, by rw [hU], by rw [hU]; exact hPc, va_K.moved hW.alike hK, hDc.weaken (fun _ _ _ _ => trivial)⟩⟩ rfl rfl hl.1 rfl (lv_room (Nat.le_of_ble_eq_true rfl)) d_Grammar_readDraft_9 ⟨Nat.zero_le _, Nat.zero_le _⟩) hS (fun q _ h => hFc q h) hFc (fun r1 u t H1 locs ht hvm hw hB hz1 hk1 hS => ?_)
  rw [show r1 = _ from hw]
  obtain ⟨hP1, hK1, hD1⟩ := hB
  rw [ht] at hP1
  obtain ⟨hP, hD⟩ := va_join (wr := [(a0, .inr (2, [.ref a1, .ref a3, .ref a2, v0_3, v0_4, v0_5, v0_6])), (a1, .inl (kA 0, 12, .inl f1)), (a2, .inl (kA 0, 48, .inl f2)), (a3, .inl (kA 0, 12, .inl f3))]) (w1 := (wd_Line_symbolAt kA a4 a5 x4_1 f5)) hP hD [4, 5] [0, 1, 2, 3] rfl rfl (by decide) (by decide) hk1 hFc hP1 hD1
  have hP := hP.sub (ws' := (wd_Grammar_readDraft kA a0 a1 a2 a3 a4 a5 v0_3 v0_4 v0_5 v0_6 f1 f2 f3 x4_1 f5)) [0, 1, 2, 3, 4, 5] rfl
  have hD := hD.sub (ws' := (wd_Grammar_readDraft kA a0 a1 a2 a3 a4 a5 v0_3 v0_4 v0_5 v0_6 f1 f2 f3 x4_1 f5)) [0, 1, 2, 3, 4, 5] (by decide) rfl
  clear hPc hDc hFc hP1 hK1 hD1
  generalize H1 = H at hP hS ⊢
  refine lv_istore_n (lv' := [(3, .int u_8), (2, .int (u_7 - 2)), (0, .ref a0), (1, .ref a4)]) hx hb d_Grammar_readDraft_12 rfl hl (by decide) rfl (fun ls hl => ?_)
  refine lv_iload_n hx hb d_Grammar_readDraft_13 rfl (lv_at hl 1 rfl) ?_
  refine lv_if_lt (tgt := 36) hx hb d_Grammar_readDraft_14 (by decide) (fun c_9 => ?_) (fun c_9 => ?_)
  · rw [if_pos c_9] at hF
    refine lv_iconst (v := 0) hx hb d_Grammar_readDraft_36 (by decide) ?_
    have e0 := Option.some.inj hF
    have q0 := Prod.mk.inj e0
    have q1 := Prod.mk.inj q0.2
    have q2 := Prod.mk.inj q1.2
    exact W.zret (v := 0) hx hb hr rfl (fun t ht hW => ⟨⟨0, (), rfl, q0.1, by rw [ht, ← q1.1, ← q2.1, ← q2.2]; exact hP, va_K.moved hW.alike hK, (by rw [← q1.1, ← q2.1, ← q2.2]; exact hD)⟩, hS.F ht⟩) hS.2.2 d_Grammar_readDraft_37 hlocks
  · rw [if_neg c_9] at hF
    refine lv_iload_n hx hb d_Grammar_readDraft_17 rfl (lv_at hl 1 rfl) ?_
    refine lv_iconst (v := 4) hx hb d_Grammar_readDraft_18 (by decide) ?_
    refine lv_icmp_gt (tgt := 36) hx hb d_Grammar_readDraft_19 (by decide) (fun c_10 => ?_) (fun c_10 => ?_)
    · rw [if_pos c_10] at hF
      refine lv_iconst (v := 0) hx hb d_Grammar_readDraft_36 (by decide) ?_
      have e0 := Option.some.inj hF
      have q0 := Prod.mk.inj e0
      have q1 := Prod.mk.inj q0.2
      have q2 := Prod.mk.inj q1.2
      exact W.zret (v := 0) hx hb hr rfl (fun t ht hW => ⟨⟨0, (), rfl, q0.1, by rw [ht, ← q1.1, ← q2.1, ← q2.2]; exact hP, va_K.moved hW.alike hK, (by rw [← q1.1, ← q2.1, ← q2.2]; exact hD)⟩, hS.F ht⟩) hS.2.2 d_Grammar_readDraft_37 hlocks
    · rw [if_neg c_10] at hF
      refine lv_iload_n hx hb d_Grammar_readDraft_22 rfl (lv_at hl 0 rfl) ?_
      refine lv_bipush (v := 6) hx hb d_Grammar_readDraft_23 (by decide) ?_
      refine lv_icmp_lt (tgt := 36) hx hb d_Grammar_readDraft_25 (by decide) (fun c_11 => ?_) (fun c_11 => ?_)
      · rw [if_pos c_11] at hF
        refine lv_iconst (v := 0) hx hb d_Grammar_readDraft_36 (by decide) ?_
        have e0 := Option.some.inj hF
        have q0 := Prod.mk.inj e0
        have q1 := Prod.mk.inj q0.2
        have q2 := Prod.mk.inj q1.2
        exact W.zret (v := 0) hx hb hr rfl (fun t ht hW => ⟨⟨0, (), rfl, q0.1, by rw [ht, ← q1.1, ← q2.1, ← q2.2]; exact hP, va_K.moved hW.alike hK, (by rw [← q1.1, ← q2.1, ← q2.2]; exact hD)⟩, hS.F ht⟩) hS.2.2 d_Grammar_readDraft_37 hlocks
      · rw [if_neg c_11] at hF
        refine lv_aload_n hx hb d_Grammar_readDraft_28 rfl (lv_at hl 3 rfl) ?_
        refine lv_iconst (v := 1) hx hb d_Grammar_readDraft_29 (by decide) ?_
        obtain ⟨u_12, hS_12, hF⟩ := rd_bind hF
        have hPc := hP.sub (ws' := (wd_Line_isEqualsSign kA a4 a5 x4_1 f5)) [4, 5] rfl
        have hDc := hD.sub (ws' := (wd_Line_isEqualsSign kA a4 a5 x4_1 f5)) [4, 5] (by decide) rfl
        have hFc := va_free (wc := (wd_Line_isEqualsSign kA a4 a5 x4_1 f5)) hD hS hA [4, 5] rfl
        refine va_calli (va_runV (As := [.int 1]) (rest := []) ⟨hx, hb, hml, hown, hts⟩ (c_Line_isEqualsSign l dC dI kA H.size a4 a5 1 x4_1 f5 u_12 hS_12) (cwV 1 hts (gw_V gw_35 gw_36 gw_37 gw_28 gw_38) rfl rfl rfl (by decide +kernel) ⟨Nat.le_of_ble_eq_true rfl, Nat.le_of_ble_eq_true rfl⟩) ⟨fun a U g mk q => by obtain ⟨q0, q1, qP, qK, qD⟩ := q; exact ⟨q0, q1, qP, va_K.moved (u := U) (U := U.calling g mk a) (Vm.Alike.refl U.vm) qK, qD⟩, va_recv hK hP (ci := 3) (q0 := 4) rfl rfl, fun U hU hW => ⟨rfl, by rw [hU], by rw [hU]; exact hPc, va_K.moved hW.alike hK, hDc.weaken (fun _ _ _ _ => trivial)⟩⟩ rfl rfl hl.1 rfl (lv_room (Nat.le_of_ble_eq_true rfl)) d_Grammar_readDraft_30 ⟨Nat.zero_le _, Nat.zero_le _⟩) hS (fun q _ h => hFc q h) hFc (fun r1 u t H1 locs ht hvm hw hB hz1 hk1 hS => ?_)
        rw [show r1 = _ from hw]
        obtain ⟨hP1, hK1, hD1⟩ := hB
        rw [ht] at hP1
        obtain ⟨hP, hD⟩ := va_join (wr := [(a0, .inr (2, [.ref a1, .ref a3, .ref a2, v0_3, v0_4, v0_5, v0_6])), (a1, .inl (kA 0, 12, .inl f1)), (a2, .inl (kA 0, 48, .inl f2)), (a3, .inl (kA 0, 12, .inl f3))]) (w1 := (wd_Line_isEqualsSign kA a4 a5 x4_1 f5)) hP hD [4, 5] [0, 1, 2, 3] rfl rfl (by decide) (by decide) hk1 hFc hP1 hD1
        have hP := hP.sub (ws' := (wd_Grammar_readDraft kA a0 a1 a2 a3 a4 a5 v0_3 v0_4 v0_5 v0_6 f1 f2 f3 x4_1 f5)) [0, 1, 2, 3, 4, 5] rfl
        have hD := hD.sub (ws' := (wd_Grammar_readDraft kA a0 a1 a2 a3 a4 a5 v0_3 v0_4 v0_5 v0_6 f1 f2 f3 x4_1 f5)) [0, 1, 2, 3, 4, 5] (by decide) rfl
        clear hPc hDc hFc hP1 hK1 hD1
        generalize H1 = H at hP hS ⊢
        refine lv_if_ne (tgt := 38) hx hb d_Grammar_readDraft_33 (by decide) (fun c_13 => ?_) (fun c_13 => ?_)
        · rw [if_pos c_13] at hF
          refine lv_iconst (v := 0) hx hb d_Grammar_readDraft_38 (by decide) ?_
          refine lv_istore (lv' := [(4, .int 0), (3, .int u_8), (2, .int (u_7 - 2)), (0, .ref a0), (1, .ref a4)]) hx hb d_Grammar_readDraft_39 hl (by decide) rfl (fun ls hl => ?_)
          exact ih (u_7 - 2) u_8 0 f1 f2 f3 hF _ _ _ hP hD hS (lv_sub hl [3, 4, 2, 1, 0] rfl)
        · rw [if_neg (fun z => z c_13)] at hF
          refine lv_iconst (v := 0) hx hb d_Grammar_readDraft_36 (by decide) ?_
          have e0 := Option.some.inj hF
          have q0 := Prod.mk.inj e0
          have q1 := Prod.mk.inj q0.2
          have q2 := Prod.mk.inj q1.2
          exact W.zret (v := 0) hx hb hr rfl (fun t ht hW => ⟨⟨0, (), rfl, q0.1, by rw [ht, ← q1.1, ← q2.1, ← q2.2]; exact hP, va_K.moved hW.alike hK, (by rw [← q1.1, ← q2.1, ← q2.2]; exact hD)⟩, hS.F ht⟩) hS.2.2 d_Grammar_readDraft_37 hlocks
-- ===== RepairDesk$Grammar.isLikeDraft(I)Z
abbrev wd_Grammar_isLikeDraft (kA : Nat → ClassId) (a0 a1 a2 a3 : Nat) (v0_3 v0_4 v0_5 v0_6 : Value) (f1 : (Nat → Int32)) (f2 : (Nat → Int32)) (f3 : (Nat → Int32)) : va_W := [(a0, .inr (2, [.ref a1, .ref a3, .ref a2, v0_3, v0_4, v0_5, v0_6])), (a1, .inl (kA 0, 12, .inl f1)), (a2, .inl (kA 0, 48, .inl f2)), (a3, .inl (kA 0, 12, .inl f3))]
abbrev rm_Grammar_isLikeDraft : Room := { frames := 0, cells := 0, slots := 0, locals := 0 }
def B_Grammar_isLikeDraft_0 (K : Nat → Int32 → Int32 → Option (Int32)) (f1 : (Nat → Int32)) (f2 : (Nat → Int32)) (f3 : (Nat → Int32)) (l1 : Int32) (l2 : Int32)  : Option (Int32) := (if (l1 : Int32) < 0 ∨ 12 ≤ (Int32.toNatClampNeg l1) then none else (if (f3 (Int32.toNatClampNeg l1)) ≤ l2 then (some 1) else (if (((l1 * 4) + l2) : Int32) < 0 ∨ 48 ≤ (Int32.toNatClampNeg ((l1 * 4) + l2)) then none else (if ((44 + l2) : Int32) < 0 ∨ 48 ≤ (Int32.toNatClampNeg (44 + l2)) then none else (if (f2 (Int32.toNatClampNeg ((l1 * 4) + l2))) = (f2 (Int32.toNatClampNeg (44 + l2))) then (K 0 l1 (l2 + 1)) else (some 0))))))
def F_Grammar_isLikeDraft (f1 : (Nat → Int32)) (f2 : (Nat → Int32)) (f3 : (Nat → Int32)) : Nat → Nat → Int32 → Int32 → Option (Int32)
  | 0 => fun _ _ _ => none
  | n + 1 => fun hd l1 l2 => match hd with
    | 0 => B_Grammar_isLikeDraft_0 (F_Grammar_isLikeDraft f1 f2 f3 n) f1 f2 f3 l1 l2
    | _ => none
set_option maxHeartbeats 4000000 in
set_option maxRecDepth 100000 in
theorem L_Grammar_isLikeDraft {p : Program} {l : Launch} {e : Env} {s : State} {m : MethodId} {args : Array Value} {below : List Frame} {meth : Method} {c : Code} {A : Nat → Prop} {dC : Nat → ClassId} {dI : Nat → Nat → Nat} {kA : Nat → ClassId} (hx : p.tables.exec = Jvm.exec) (hb : c.code = b_Grammar_isLikeDraft) (hr : meth.sig.returnType = some .boolean) (hlocks : meth.locks = false) (hml : c.maxLocals = 3) (hown : s.vm.findClass R_Grammar = some m.cls) (hts : ∀ w ∈ w_Grammar_isLikeDraft, w.before args s = true) (hA : ∀ q : Nat, s.heap.size ≤ q → A q) (hK : va_K (dC, dI) classes (tys_ kA) s) (a0 a1 a2 a3 : Nat) (v0_3 v0_4 v0_5 v0_6 : Value) (f1 : (Nat → Int32)) (f2 : (Nat → Int32)) (f3 : (Nat → Int32)) (r : Int32) : ∀ n : Nat, (∀ (l1 l2 : Int32), F_Grammar_isLikeDraft f1 f2 f3 n 0 l1 l2 = some r → ∀ (H : Heap) (locs : List Loc) (ls : Array Slot), va_P (dC, dI) classes (wd_Grammar_isLikeDraft kA a0 a1 a2 a3 v0_3 v0_4 v0_5 v0_6 f1 f2 f3) H → va_D A (wd_Grammar_isLikeDraft kA a0 a1 a2 a3 v0_3 v0_4 v0_5 v0_6 f1 f2 f3) → va_S A s.heap H locs → lv_has ls 3 [(0, .ref a0), (1, .int l1), (2, .int l2)] → W p l e (headSpec w_Grammar_isLikeDraft rm_Grammar_isLikeDraft).room s m args below meth c H locs 0 0 (MQ below (va_Qi (fun (r1 : Int32) (_ : Unit) => r1 = r) (fun _ t => va_P (dC, dI) classes (wd_Grammar_isLikeDraft kA a0 a1 a2 a3 v0_3 v0_4 v0_5 v0_6 f1 f2 f3) t.heap ∧ va_K (dC, dI) classes (tys_ kA) t ∧ va_D A (wd_Grammar_isLikeDraft kA a0 a1 a2 a3 v0_3 v0_4 v0_5 v0_6 f1 f2 f3)) A) args s 0 0 A) (F0 m 36 ls [])) := by
  have hg := fun (w : Cond) (h : w ∈ gw) => hts w (List.mem_cons_of_mem _ h)
  intro n
  induction n with
  | zero =>
    exact fun _ _ hF => absurd (show (none : Option _) = some _ from hF) (fun z => by cases z)
  | succ n ih =>
    intro l1 l2 hF H locs ls hP hD hS hl
    have hF : B_Grammar_isLikeDraft_0 (F_Grammar_isLikeDraft f1 f2 f3 n) f1 f2 f3 l1 l2 = some r := hF
    unfold B_Grammar_isLikeDraft_0 at hF
    refine lv_iload_n hx hb d_Grammar_isLikeDraft_36 rfl (lv_at hl 2 rfl) ?_
    refine lv_aload_n hx hb d_Grammar_isLikeDraft_37 rfl (lv_at hl 0 rfl) ?_
    refine va_get (D := (dC, dI)) (ci := 2) (v := .ref a3) (C := R_Grammar) (T := F_Grammar) (N := 7) hx hb hg iw_Grammar hown hK hP 0 rfl rfl 1 (by decide) (hg _ gw_24) (fun _ h9 => h9) rfl d_Grammar_isLikeDraft_38 ?_
    refine lv_iload_n hx hb d_Grammar_isLikeDraft_41 rfl (lv_at hl 1 rfl) ?_
    obtain ⟨h_1, hF⟩ := rd_chk hF
    refine va_iald hx hb hK hP 3 0 rfl rfl h_1 d_Grammar_isLikeDraft_42 ?_
    refine lv_icmp_ge (tgt := 76) hx hb d_Grammar_isLikeDraft_43 (by decide) (fun c_2 => ?_) (fun c_2 => ?_)
    · rw [if_pos c_2] at hF
      refine lv_iconst (v := 1) hx hb d_Grammar_isLikeDraft_76 (by decide) ?_
      have e0 := Option.some.inj hF
      exact W.zret (v := 1) hx hb hr rfl (fun t ht hW => ⟨⟨1, (), rfl, e0, by rw [ht]; exact hP, va_K.moved hW.alike hK, (by exact hD)⟩, hS.F ht⟩) hS.2.2 d_Grammar_isLikeDraft_77 hlocks
    · rw [if_neg c_2] at hF
      refine lv_aload_n hx hb d_Grammar_isLikeDraft_46 rfl (lv_at hl 0 rfl) ?_
      refine va_get (D := (dC, dI)) (ci := 2) (v := .ref a2) (C := R_Grammar) (T := F_Grammar) (N := 7) hx hb hg iw_Grammar hown hK hP 0 rfl rfl 2 (by decide) (hg _ gw_30) (fun _ h9 => h9) rfl d_Grammar_isLikeDraft_47 ?_
      refine lv_iload_n hx hb d_Grammar_isLikeDraft_50 rfl (lv_at hl 1 rfl) ?_
      refine lv_iconst (v := 4) hx hb d_Grammar_isLikeDraft_51 (by decide) ?_
      refine lv_imul hx hb d_Grammar_isLikeDraft_52 ?_
      refine lv_iload_n hx hb d_Grammar_isLikeDraft_53 rfl (lv_at hl 2 rfl) ?_
      refine lv_iadd hx hb d_Grammar_isLikeDraft_54 ?_
      obtain ⟨h_3, hF⟩ := rd_chk hF
      refine va_iald hx hb hK hP 2 0 rfl rfl h_3 d_Grammar_isLikeDraft_55 ?_
      refine lv_aload_n hx hb d_Grammar_isLikeDraft_56 rfl (lv_at hl 0 rfl) ?_
      refine va_get (D := (dC, dI)) (ci := 2) (v := .ref a2) (C := R_Grammar) (T := F_Grammar) (N := 7) hx hb hg iw_Grammar hown hK hP 0 rfl rfl 2 (by decide) (hg _ gw_30) (fun _ h9 => h9) rfl d_Grammar_isLikeDraft_57 ?_
      refine lv_bipush (v := 44) hx hb d_Grammar_isLikeDraft_60 (by decide) ?_
      refine lv_iload_n hx hb d_Grammar_isLikeDraft_62 rfl (lv_at hl 2 rfl) ?_
      refine lv_iadd hx hb d_Grammar_isLikeDraft_63 ?_
      obtain ⟨h_4, hF⟩ := rd_chk hF
      refine va_iald hx hb hK hP 2 0 rfl rfl h_4 d_Grammar_isLikeDraft_64 ?_
      refine lv_icmp_eq (tgt := 70) hx hb d_Grammar_isLikeDraft_65 (by decide) (fun c_5 => ?_) (fun c_5 => ?_)
      · rw [if_pos c_5] at hF
        refine lv_iinc (v := (l2 + 1)) (lv' := [(2, .int (l2 + 1)), (0, .ref a0), (1, .int l1)]) hx hb d_Grammar_isLikeDraft_70 hl (k := 2) rfl (by rfl) (by decide) rfl (fun ls hl => ?_)
        refine lv_goto (tgt := 36) hx hb d_Grammar_isLikeDraft_73 (by decide) ?_
        exact ih l1 (l2 + 1) hF _ _ _ hP hD hS (lv_sub hl [1, 2, 0] rfl)
      · rw [if_neg c_5] at hF
        refine lv_iconst (v := 0) hx hb d_Grammar_isLikeDraft_68 (by decide) ?_
        have e0 := Option.some.inj hF
        exact W.zret (v := 0) hx hb hr rfl (fun t ht hW => ⟨⟨0, (), rfl, e0, by rw [ht]; exact hP, va_K.moved hW.alike hK, (by exact hD)⟩, hS.F ht⟩) hS.2.2 d_Grammar_isLikeDraft_69 hlocks
def S_Grammar_isLikeDraft (p1 : Int32) (f1 : (Nat → Int32)) (f2 : (Nat → Int32)) (f3 : (Nat → Int32)) : Option (Int32) := (if (p1 : Int32) < 0 ∨ 12 ≤ (Int32.toNatClampNeg p1) then none else (if (11 : Int32) < 0 ∨ 12 ≤ (Int32.toNatClampNeg 11) then none else (if ¬ (f1 (Int32.toNatClampNeg p1)) = (f1 (Int32.toNatClampNeg 11)) then (some 0) else (if (p1 : Int32) < 0 ∨ 12 ≤ (Int32.toNatClampNeg p1) then none else (if (11 : Int32) < 0 ∨ 12 ≤ (Int32.toNatClampNeg 11) then none else (if (f3 (Int32.toNatClampNeg p1)) = (f3 (Int32.toNatClampNeg 11)) then (F_Grammar_isLikeDraft f1 f2 f3 fuel_ 0 p1 0) else (some 0)))))))
set_option maxHeartbeats 4000000 in
set_option maxRecDepth 100000 in
theorem c_Grammar_isLikeDraft (l : Launch) (dC : Nat → ClassId) (dI : Nat → Nat → Nat) (kA : Nat → ClassId) (sz : Nat) (a0 a1 a2 a3 : Nat) (v0_3 v0_4 v0_5 v0_6 : Value) (p1 : Int32) (f1 : (Nat → Int32)) (f2 : (Nat → Int32)) (f3 : (Nat → Int32)) (r : Int32) (hF : S_Grammar_isLikeDraft p1 f1 f2 f3 = some r) : Met l y_Grammar_isLikeDraft w_Grammar_isLikeDraft rm_Grammar_isLikeDraft (va_Pc [.ref a0, .int p1] (fun U => U.heap.size = sz ∧ va_P (dC, dI) classes (wd_Grammar_isLikeDraft kA a0 a1 a2 a3 v0_3 v0_4 v0_5 v0_6 f1 f2 f3) U.heap ∧ va_K (dC, dI) classes (tys_ kA) U ∧ va_D (fun _ => True) (wd_Grammar_isLikeDraft kA a0 a1 a2 a3 v0_3 v0_4 v0_5 v0_6 f1 f2 f3))) (va_Qi (fun (r1 : Int32) (_ : Unit) => r1 = r) (fun _ t => va_P (dC, dI) classes (wd_Grammar_isLikeDraft kA a0 a1 a2 a3 v0_3 v0_4 v0_5 v0_6 f1 f2 f3) t.heap ∧ va_K (dC, dI) classes (tys_ kA) t ∧ va_D (va_A (wd_Grammar_isLikeDraft kA a0 a1 a2 a3 v0_3 v0_4 v0_5 v0_6 f1 f2 f3) sz) (wd_Grammar_isLikeDraft kA a0 a1 a2 a3 v0_3 v0_4 v0_5 v0_6 f1 f2 f3)) (va_A (wd_Grammar_isLikeDraft kA a0 a1 a2 a3 v0_3 v0_4 v0_5 v0_6 f1 f2 f3) sz)) 0 0 (va_A (wd_Grammar_isLikeDraft kA a0 a1 a2 a3 v0_3 v0_4 v0_5 v0_6 f1 f2 f3) sz) := by
  refine Met.ofW (cc := b_Grammar_isLikeDraft) (maxL := 3) (ret := some .boolean) (by decide) rfl ?_
  intro p e s m args below meth c s₁ B hml hv
  obtain ⟨rfl, hsz, hP, hK, hD0⟩ := hv
  have hx := B.exec
  have hb := B.bytes
  have hr := B.returns
  have hts := atoms_spec (ws := w_Grammar_isLikeDraft) B.pre
  have hown : s.vm.findClass R_Grammar = some m.cls := findClass_of_methodNamed B.named
  have hg := fun (w : Cond) (h : w ∈ gw) => hts w (List.mem_cons_of_mem _ h)
  have hlocks := B.notSynchronized
  subst hsz
  have hD := hD0.self (sz := s.heap.size)
  generalize hAe : va_A (wd_Grammar_isLikeDraft kA a0 a1 a2 a3 v0_3 v0_4 v0_5 v0_6 f1 f2 f3) s.heap.size = A at hD ⊢
  have hA : ∀ q : Nat, s.heap.size ≤ q → A q := fun q h => by rw [← hAe]; exact Or.inr h
  have hS : va_S A s.heap s.heap [] := va_S.rf
  have hl := lv_entry ([.ref a0, .int p1]) (n := 3) (Nat.le_of_ble_eq_true rfl)
  rw [lg_entry_eq]
  generalize (lg_sl ([.ref a0, .int p1]) ++ List.replicate (3 - (lg_sl ([.ref a0, .int p1])).length) Slot.unset).toArray = ls at hl ⊢
  have hl : lv_has ls 3 [(0, .ref a0), (1, .int p1)] := hl
  unfold S_Grammar_isLikeDraft at hF
  have ih := L_Grammar_isLikeDraft (l := l) (e := e) (below := below) hx hb hr hlocks hml hown hts hA hK a0 a1 a2 a3 v0_3 v0_4 v0_5 v0_6 f1 f2 f3 r fuel_
  refine lv_aload_n hx hb d_Grammar_isLikeDraft_0 rfl (lv_at hl 0 rfl) ?_
  refine va_get (D := (dC, dI)) (ci := 2) (v := .ref a1) (C := R_Grammar) (T := F_Grammar) (N := 7) hx hb hg iw_Grammar hown hK hP 0 rfl rfl 0 (by decide) (hg _ gw_23) (fun _ h9 => h9) rfl d_Grammar_isLikeDraft_1 ?_
  refine lv_iload_n hx hb d_Grammar_isLikeDraft_4 rfl (lv_at hl 1 rfl) ?_
  obtain ⟨h_6, hF⟩ := rd_chk hF
  refine va_iald hx hb hK hP 1 0 rfl rfl h_6 d_Grammar_isLikeDraft_5 ?_
  refine lv_aload_n hx hb d_Grammar_isLikeDraft_6 rfl (lv_at hl 0 rfl) ?_
  refine va_get (D := (dC, dI)) (ci := 2) (v := .ref a1) (C := R_Grammar) (T := F_Grammar) (N := 7) hx hb hg iw_Grammar hown hK hP 0 rfl rfl 0 (by decide) (hg _ gw_23) (fun _ h9 => h9) rfl d_Grammar_isLikeDraft_7 ?_
  refine lv_bipush (v := 11) hx hb d_Grammar_isLikeDraft_10 (by decide) ?_
  obtain ⟨h_7, hF⟩ := rd_chk hF
  refine va_iald hx hb hK hP 1 0 rfl rfl h_7 d_Grammar_isLikeDraft_12 ?_
  refine lv_icmp_ne (tgt := 32) hx hb d_Grammar_isLikeDraft_13 (by decide) (fun c_8 => ?_) (fun c_8 => ?_)
  · rw [if_pos c_8] at hF
    refine lv_iconst (v := 0) hx hb d_Grammar_isLikeDraft_32 (by decide) ?_
    have e0 := Option.some.inj hF
    exact W.zret (v := 0) hx hb hr rfl (fun t ht hW => ⟨⟨0, (), rfl, e0, by rw [ht]; exact hP, va_K.moved hW.alike hK, (by exact hD)⟩, hS.F ht⟩) hS.2.2 d_Grammar_isLikeDraft_33 hlocks
  · rw [if_neg (fun z => z c_8)] at hF
    refine lv_aload_n hx hb d_Grammar_isLikeDraft_16 rfl (lv_at hl 0 rfl) ?_
    refine va_get (D := (dC, dI)) (ci := 2) (v := .ref a3) (C := R_Grammar) (T := F_Grammar) (N := 7) hx hb hg iw_Grammar hown hK hP 0 rfl rfl 1 (by decide) (hg _ gw_24) (fun _ h9 => h9) rfl d_Grammar_isLikeDraft_17 ?_
    refine lv_iload_n hx hb d_Grammar_isLikeDraft_20 rfl (lv_at hl 1 rfl) ?_
    obtain ⟨h_9, hF⟩ := rd_chk hF
    refine va_iald hx hb hK hP 3 0 rfl rfl h_9 d_Grammar_isLikeDraft_21 ?_
    refine lv_aload_n hx hb d_Grammar_isLikeDraft_22 rfl (lv_at hl 0 rfl) ?_
    refine va_get (D := (dC, dI)) (ci := 2) (v := .ref a3) (C := R_Grammar) (T := F_Grammar) (N := 7) hx hb hg iw_Grammar hown hK hP 0 rfl rfl 1 (by decide) (hg _ gw_24) (fun _ h9 => h9) rfl d_Grammar_isLikeDraft_23 ?_
    refine lv_bipush (v := 11) hx hb d_Grammar_isLikeDraft_26 (by decide) ?_
    obtain ⟨h_10, hF⟩ := rd_chk hF
    refine va_iald hx hb hK hP 3 0 rfl rfl h_10 d_Grammar_isLikeDraft_28 ?_
    refine lv_icmp_eq (tgt := 34) hx hb d_Grammar_isLikeDraft_29 (by decide) (fun c_11 => ?_) (fun c_11 => ?_)
    · rw [if_pos c_11] at hF
      refine lv_iconst (v := 0) hx hb d_Grammar_isLikeDraft_34 (by decide) ?_
      refine lv_istore_n (lv' := [(2, .int 0), (0, .ref a0), (1, .int p1)]) hx hb d_Grammar_isLikeDraft_35 rfl hl (by decide) rfl (fun ls hl => ?_)
      exact ih p1 0 hF _ _ _ hP hD hS (lv_sub hl [1, 2, 0] rfl)
    · rw [if_neg c_11] at hF
      refine lv_iconst (v := 0) hx hb d_Grammar_isLikeDraft_32 (by decide) ?_
      have e0 := Option.some.inj hF
      exact W.zret (v := 0) hx hb hr rfl (fun t ht hW => ⟨⟨0, (), rfl, e0, by rw [ht]; exact hP, va_K.moved hW.alike hK, (by exact hD)⟩, hS.F ht⟩) hS.2.2 d_Grammar_isLikeDraft_33 hlocks
-- ===== RepairDesk$Grammar.knowsDraft()Z
abbrev wd_Grammar_knowsDraft (kA : Nat → ClassId) (a0 a1 a2 a3 : Nat) (v0_3 v0_4 v0_5 : Value) (x0_6 : Int32) (f1 : (Nat → Int32)) (f2 : (Nat → Int32)) (f3 : (Nat → Int32)) : va_W := [(a0, .inr (2, [.ref a1, .ref a3, .ref a2, v0_3, v0_4, v0_5, .int x0_6])), (a1, .inl (kA 0, 12, .inl f1)), (a2, .inl (kA 0, 48, .inl f2)), (a3, .inl (kA 0, 12, .inl f3))]
abbrev rm_Grammar_knowsDraft : Room := { frames := 1, cells := 0, slots := 0, locals := 22 }
def B_Grammar_knowsDraft_0 (K : Nat → Int32 → Option (Int32)) (x0_6 : Int32) (f1 : (Nat → Int32)) (f2 : (Nat → Int32)) (f3 : (Nat → Int32)) (l1 : Int32)  : Option (Int32) := (if x0_6 ≤ l1 then (some 0) else ((S_Grammar_isLikeDraft l1 f1 f2 f3).bind fun u_2 => (if u_2 = 0 then (K 0 (l1 + 1)) else (some 1))))
def F_Grammar_knowsDraft (x0_6 : Int32) (f1 : (Nat → Int32)) (f2 : (Nat → Int32)) (f3 : (Nat → Int32)) : Nat → Nat → Int32 → Option (Int32)
  | 0 => fun _ _ => none
  | n + 1 => fun hd l1 => match hd with
    | 0 => B_Grammar_knowsDraft_0 (F_Grammar_knowsDraft x0_6 f1 f2 f3 n) x0_6 f1 f2 f3 l1
    | _ => none
set_option maxHeartbeats 4000000 in
set_option maxRecDepth 100000 in
theorem L_Grammar_knowsDraft {p : Program} {l : Launch} {e : Env} {s : State} {m : MethodId} {args : Array Value} {below : List Frame} {meth : Method} {c : Code} {A : Nat → Prop} {dC : Nat → ClassId} {dI : Nat → Nat → Nat} {kA : Nat → ClassId} (hx : p.tables.exec = Jvm.exec) (hb : c.code = b_Grammar_knowsDraft) (hr : meth.sig.returnType = some .boolean) (hlocks : meth.locks = false) (hml : c.maxLocals = 2) (hown : s.vm.findClass R_Grammar = some m.cls) (hts : ∀ w ∈ w_Grammar_knowsDraft, w.before args s = true) (hA : ∀ q : Nat, s.heap.size ≤ q → A q) (hK : va_K (dC, dI) classes (tys_ kA) s) (a0 a1 a2 a3 : Nat) (v0_3 v0_4 v0_5 : Value) (x0_6 : Int32) (f1 : (Nat → Int32)) (f2 : (Nat → Int32)) (f3 : (Nat → Int32)) (r : Int32) : ∀ n : Nat, (∀ (l1 : Int32), F_Grammar_knowsDraft x0_6 f1 f2 f3 n 0 l1 = some r → ∀ (H : Heap) (locs : List Loc) (ls : Array Slot), va_P (dC, dI) classes (wd_Grammar_knowsDraft kA a0 a1 a2 a3 v0_3 v0_4 v0_5 x0_6 f1 f2 f3) H → va_D A (wd_Grammar_knowsDraft kA a0 a1 a2 a3 v0_3 v0_4 v0_5 x0_6 f1 f2 f3) → va_S A s.heap H locs → lv_has ls 2 [(0, .ref a0), (1, .int l1)] → W p l e (headSpec w_Grammar_knowsDraft rm_Grammar_knowsDraft).room s m args below meth c H locs 0 0 (MQ below (va_Qi (fun (r1 : Int32) (_ : Unit) => r1 = r) (fun _ t => va_P (dC, dI) classes (wd_Grammar_knowsDraft kA a0 a1 a2 a3 v0_3 v0_4 v0_5 x0_6 f1 f2 f3) t.heap ∧ va_K (dC, dI) classes (tys_ kA) t ∧ va_D A (wd_Grammar_knowsDraft kA a0 a1 a2 a3 v0_3 v0_4 v0_5 x0_6 f1 f2 f3)) A) args s 0 0 A) (F0 m 2 ls [])) := by
  have hg := fun (w : Cond) (h : w ∈ gw) => hts w (List.mem_cons_of_mem _ h)
  intro n
  induction n with
  | zero =>
    exact fun _ hF => absurd (show (none : Option _) = some _ from hF) (fun z => by cases z)
  | succ n ih =>
    intro l1 hF H locs ls hP hD hS hl
    have hF : B_Grammar_knowsDraft_0 (F_Grammar_knowsDraft x0_6 f1 f2 f3 n) x0_6 f1 f2 f3 l1 = some r := hF
    unfold B_Grammar_knowsDraft_0 at hF
    refine lv_iload_n hx hb d_Grammar_knowsDraft_2 rfl (lv_at hl 1 rfl) ?_
    refine lv_aload_n hx hb d_Grammar_knowsDraft_3 rfl (lv_at hl 0 rfl) ?_
    refine va_get (D := (dC, dI)) (ci := 2) (v := .int x0_6) (C := R_Grammar) (T := F_Grammar) (N := 7) hx hb hg iw_Grammar hown hK hP 0 rfl rfl 6 (by decide) (hg _ gw_20) (fun _ h9 => h9) rfl d_Grammar_knowsDraft_4 ?_
    refine lv_icmp_ge (tgt := 26) hx hb d_Grammar_knowsDraft_7 (by decide) (fun c_1 => ?_) (fun c_1 => ?_)
    · rw [if_pos c_1] at hF
      refine lv_iconst (v := 0) hx hb d_Grammar_knowsDraft_26 (by decide) ?_
      have e0 := Option.some.inj hF
      exact W.zret (v := 0) hx hb hr rfl (fun t ht hW => ⟨⟨0, (), rfl, e0, by rw [ht]; exact hP, va_K.moved hW.alike hK, (by exact hD)⟩, hS.F ht⟩) hS.2.2 d_Grammar_knowsDraft_27 hlocks
    · rw [if_neg c_1] at hF
      refine lv_aload_n hx hb d_Grammar_knowsDraft_10 rfl (lv_at hl 0 rfl) ?_
      refine lv_iload_n hx hb d_Grammar_knowsDraft_11 rfl (lv_at hl 1 rfl) ?_
      obtain ⟨u_2, hS_2, hF⟩ := rd_bind hF
      have hPc := hP.sub (ws' := (wd_Grammar_isLikeDraft kA a0 a1 a2 a3 v0_3 v0_4 v0_5 (.int x0_6) f1 f2 f3)) [0, 1, 2, 3] rfl
      have hDc := hD.sub (ws' := (wd_Grammar_isLikeDraft kA a0 a1 a2 a3 v0_3 v0_4 v0_5 (.int x0_6) f1 f2 f3)) [0, 1, 2, 3] (by decide) rfl
      have hFc := va_free (wc := (wd_Grammar_isLikeDraft kA a0 a1 a2 a3 v0_3 v0_4 v0_5 (.int x0_6) f1 f2 f3)) hD hS hA [0, 1, 2, 3] rfl
      refine va_calli (va_runV (As := [.int l1]) (rest := []) ⟨hx, hb, hml, hown, hts⟩ (c_Grammar_isLikeDraft l dC dI kA H.size a0 a1 a2 a3 v0_3 v0_4 v0_5 (.int x0_6) l1 f1 f2 f3 u_2 hS_2) (cwV 1 hts (gw_V gw_39 gw_40 gw_41 gw_42 gw_43) rfl rfl rfl (by decide +kernel) ⟨Nat.le_of_ble_eq_true rfl, Nat.le_of_ble_eq_true rfl⟩) ⟨fun a U g mk q => by obtain ⟨q0, q1, qP, qK, qD⟩ := q; exact ⟨q0, q1, qP, va_K.moved (u := U) (U := U.calling g mk a) (Vm.Alike.refl U.vm) qK, qD⟩, va_recv hK hP (ci := 2) (q0 := 0) rfl rfl, fun U hU hW => ⟨rfl, by rw [hU], by rw [hU]; exact hPc, va_K.moved hW.alike hK, hDc.weaken (fun _ _ _ _ => trivial)⟩⟩ rfl rfl hl.1 rfl (lv_room (Nat.le_of_ble_eq_true rfl)) d_Grammar_knowsDraft_12 ⟨Nat.zero_le _, Nat.zero_le _⟩) hS (fun q _ h => hFc q h) hFc (fun r1 u t H1 locs ht hvm hw hB hz1 hk1 hS => ?_)
      rw [show r1 = _ from hw]
      obtain ⟨hP1, hK1, hD1⟩ := hB
      rw [ht] at hP1
      obtain ⟨hP, hD⟩ := va_join (wr := []) (w1 := (wd_Grammar_isLikeDraft kA a0 a1 a2 a3 v0_3 v0_4 v0_5 (.int x0_6) f1 f2 f3)) hP hD [0, 1, 2, 3] [] rfl rfl (by decide) (by decide) hk1 hFc hP1 hD1
      have hP := hP.sub (ws' := (wd_Grammar_knowsDraft kA a0 a1 a2 a3 v0_3 v0_4 v0_5 x0_6 f1 f2 f3)) [0, 1, 2, 3] rfl
      have hD := hD.sub (ws' := (wd_Grammar_knowsDraft kA a0 a1 a2 a3 v0_3 v0_4 v0_5 x0_6 f1 f2 f3)) [0, 1, 2, 3] (by decide) rfl
      clear hPc hDc hFc hP1 hK1 hD1
      generalize H1 = H at hP hS ⊢
      refine lv_if_eq (tgt := 20) hx hb d_Grammar_knowsDraft_15 (by decide) (fun c_3 => ?_) (fun c_3 => ?_)
      · rw [if_pos c_3] at hF
        refine lv_iinc (v := (l1 + 1)) (lv' := [(1, .int (l1 + 1)), (0, .ref a0)]) hx hb d_Grammar_knowsDraft_20 hl (k := 1) rfl (by rfl) (by decide) rfl (fun ls hl => ?_)
        refine lv_goto (tgt := 2) hx hb d_Grammar_knowsDraft_23 (by decide) ?_
        exact ih (l1 + 1) hF _ _ _ hP hD hS (lv_sub hl [1, 0] rfl)
      · rw [if_neg c_3] at hF
        refine lv_iconst (v := 1) hx hb d_Grammar_knowsDraft_18 (by decide) ?_
        have e0 := Option.some.inj hF
        exact W.zret (v := 1) hx hb hr rfl (fun t ht hW => ⟨⟨1, (), rfl, e0, by rw [ht]; exact hP, va_K.moved hW.alike hK, (by exact hD)⟩, hS.F ht⟩) hS.2.2 d_Grammar_knowsDraft_19 hlocks
def S_Grammar_knowsDraft (x0_6 : Int32) (f1 : (Nat → Int32)) (f2 : (Nat → Int32)) (f3 : (Nat → Int32)) : Option (Int32) := (F_Grammar_knowsDraft x0_6 f1 f2 f3 fuel_ 0 0)
set_option maxHeartbeats 4000000 in
set_option maxRecDepth 100000 in
theorem c_Grammar_knowsDraft (l : Launch) (dC : Nat → ClassId) (dI : Nat → Nat → Nat) (kA : Nat → ClassId) (sz : Nat) (a0 a1 a2 a3 : Nat) (v0_3 v0_4 v0_5 : Value) (x0_6 : Int32) (f1 : (Nat → Int32)) (f2 : (Nat → Int32)) (f3 : (Nat → Int32)) (r : Int32) (hF : S_Grammar_knowsDraft x0_6 f1 f2 f3 = some r) : Met l y_Grammar_knowsDraft w_Grammar_knowsDraft rm_Grammar_knowsDraft (va_Pc [.ref a0] (fun U => U.heap.size = sz ∧ va_P (dC, dI) classes (wd_Grammar_knowsDraft kA a0 a1 a2 a3 v0_3 v0_4 v0_5 x0_6 f1 f2 f3) U.heap ∧ va_K (dC, dI) classes (tys_ kA) U ∧ va_D (fun _ => True) (wd_Grammar_knowsDraft kA a0 a1 a2 a3 v0_3 v0_4 v0_5 x0_6 f1 f2 f3))) (va_Qi (fun (r1 : Int32) (_ : Unit) => r1 = r) (fun _ t => va_P (dC, dI) classes (wd_Grammar_knowsDraft kA a0 a1 a2 a3 v0_3 v0_4 v0_5 x0_6 f1 f2 f3) t.heap ∧ va_K (dC, dI) classes (tys_ kA) t ∧ va_D (va_A (wd_Grammar_knowsDraft kA a0 a1 a2 a3 v0_3 v0_4 v0_5 x0_6 f1 f2 f3) sz) (wd_Grammar_knowsDraft kA a0 a1 a2 a3 v0_3 v0_4 v0_5 x0_6 f1 f2 f3)) (va_A (wd_Grammar_knowsDraft kA a0 a1 a2 a3 v0_3 v0_4 v0_5 x0_6 f1 f2 f3) sz)) 0 0 (va_A (wd_Grammar_knowsDraft kA a0 a1 a2 a3 v0_3 v0_4 v0_5 x0_6 f1 f2 f3) sz) := by
  refine Met.ofW (cc := b_Grammar_knowsDraft) (maxL := 2) (ret := some .boolean) (by decide) rfl ?_
  intro p e s m args below meth c s₁ B hml hv
  obtain ⟨rfl, hsz, hP, hK, hD0⟩ := hv
  have hx := B.exec
  have hb := B.bytes
  have hr := B.returns
  have hts := atoms_spec (ws := w_Grammar_knowsDraft) B.pre
  have hown : s.vm.findClass R_Grammar = some m.cls := findClass_of_methodNamed B.named
  have hg := fun (w : Cond) (h : w ∈ gw) => hts w (List.mem_cons_of_mem _ h)
  have hlocks := B.notSynchronized
  subst hsz
  have hD := hD0.self (sz := s.heap.size)
  generalize hAe : va_A (wd_Grammar_knowsDraft kA a0 a1 a2 a3 v0_3 v0_4 v0_5 x0_6 f1 f2 f3) s.heap.size = A at hD ⊢
  have hA : ∀ q : Nat, s.heap.size ≤ q → A q := fun q h => by rw [← hAe]; exact Or.inr h
  have hS : va_S A s.heap s.heap [] := va_S.rf
  have hl := lv_entry ([.ref a0]) (n := 2) (Nat.le_of_ble_eq_true rfl)
  rw [lg_entry_eq]
  generalize (lg_sl ([.ref a0]) ++ List.replicate (2 - (lg_sl ([.ref a0])).length) Slot.unset).toArray = ls at hl ⊢
  have hl : lv_has ls 2 [(0, .ref a0)] := hl
  unfold S_Grammar_knowsDraft at hF
  have ih := L_Grammar_knowsDraft (l := l) (e := e) (below := below) hx hb hr hlocks hml hown hts hA hK a0 a1 a2 a3 v0_3 v0_4 v0_5 x0_6 f1 f2 f3 r fuel_
  refine lv_iconst (v := 0) hx hb d_Grammar_knowsDraft_0 (by decide) ?_
  refine lv_istore_n (lv' := [(1, .int 0), (0, .ref a0)]) hx hb d_Grammar_knowsDraft_1 rfl hl (by decide) rfl (fun ls hl => ?_)
  exact ih 0 hF _ _ _ hP hD hS (lv_sub hl [1, 0] rfl)
-- ===== RepairDesk$Grammar.addDraft()I
abbrev wd_Grammar_addDraft (kA : Nat → ClassId) (a0 a1 a2 a3 : Nat) (v0_3 v0_4 v0_5 : Value) (x0_6 : Int32) (f1 : (Nat → Int32)) (f2 : (Nat → Int32)) (f3 : (Nat → Int32)) : va_W := [(a0, .inr (2, [.ref a1, .ref a3, .ref a2, v0_3, v0_4, v0_5, .int x0_6])), (a1, .inl (kA 0, 12, .inl f1)), (a2, .inl (kA 0, 48, .inl f2)), (a3, .inl (kA 0, 12, .inl f3))]
abbrev rm_Grammar_addDraft : Room := { frames := 0, cells := 0, slots := 0, locals := 0 }
def B_Grammar_addDraft_0 (K : Nat → Int32 → Int32 → (Nat → Int32) → (Nat → Int32) → (Nat → Int32) → Option (Int32 × Int32 × (Nat → Int32) × (Nat → Int32) × (Nat → Int32))) (l1 : Int32) (x0_6 : Int32) (f1 : (Nat → Int32)) (f2 : (Nat → Int32)) (f3 : (Nat → Int32)) : Option (Int32 × Int32 × (Nat → Int32) × (Nat → Int32) × (Nat → Int32)) := (if 4 ≤ l1 then (some (((x0_6 + 1) - 1), (x0_6 + 1), f1, f2, f3)) else (if ((44 + l1) : Int32) < 0 ∨ 48 ≤ (Int32.toNatClampNeg (44 + l1)) then none else (if (((x0_6 * 4) + l1) : Int32) < 0 ∨ 48 ≤ (Int32.toNatClampNeg ((x0_6 * 4) + l1)) then none else (K 0 (l1 + 1) x0_6 f1 (upd f2 (Int32.toNatClampNeg ((x0_6 * 4) + l1)) (f2 (Int32.toNatClampNeg (44 + l1)))) f3))))
def F_Grammar_addDraft  : Nat → Nat → Int32 → Int32 → (Nat → Int32) → (Nat → Int32) → (Nat → Int32) → Option (Int32 × Int32 × (Nat → Int32) × (Nat → Int32) × (Nat → Int32))
  | 0 => fun _ _ _ _ _ _ => none
  | n + 1 => fun hd l1 x0_6 f1 f2 f3 => match hd with
    | 0 => B_Grammar_addDraft_0 (F_Grammar_addDraft  n)  l1 x0_6 f1 f2 f3
    | _ => none
set_option maxHeartbeats 4000000 in
set_option maxRecDepth 100000 in
theorem L_Grammar_addDraft {p : Program} {l : Launch} {e : Env} {s : State} {m : MethodId} {args : Array Value} {below : List Frame} {meth : Method} {c : Code} {A : Nat → Prop} {dC : Nat → ClassId} {dI : Nat → Nat → Nat} {kA : Nat → ClassId} (hx : p.tables.exec = Jvm.exec) (hb : c.code = b_Grammar_addDraft) (hr : meth.sig.returnType = some .int) (hlocks : meth.locks = false) (hml : c.maxLocals = 2) (hown : s.vm.findClass R_Grammar = some m.cls) (hts : ∀ w ∈ w_Grammar_addDraft, w.before args s = true) (hA : ∀ q : Nat, s.heap.size ≤ q → A q) (hK : va_K (dC, dI) classes (tys_ kA) s) (a0 a1 a2 a3 : Nat) (v0_3 v0_4 v0_5 : Value) (r : Int32) (ox0_6 : Int32) (of1 : (Nat → Int32)) (of2 : (Nat → Int32)) (of3 : (Nat → Int32)) : ∀ n : Nat, (∀ (l1 : Int32) (x0_6 : Int32) (f1 : (Nat → Int32)) (f2 : (Nat → Int32)) (f3 : (Nat → Int32)), F_Grammar_addDraft  n 0 l1 x0_6 f1 f2 f3 = some (r, ox0_6, of1, of2, of3) → ∀ (H : Heap) (locs : List Loc) (ls : Array Slot), va_P (dC, dI) classes (wd_Grammar_addDraft kA a0 a1 a2 a3 v0_3 v0_4 v0_5 x0_6 f1 f2 f3) H → va_D A (wd_Grammar_addDraft kA a0 a1 a2 a3 v0_3 v0_4 v0_5 x0_6 f1 f2 f3) → va_S A s.heap H locs → lv_has ls 2 [(0, .ref a0), (1, .int l1)] → W p l e (headSpec w_Grammar_addDraft rm_Grammar_addDraft).room s m args below meth c H locs 0 0 (MQ below (va_Qi (fun (r1 : Int32) (_ : Unit) => r1 = r) (fun _ t => va_P (dC, dI) classes (wd_Grammar_addDraft kA a0 a1 a2 a3 v0_3 v0_4 v0_5 ox0_6 of1 of2 of3) t.heap ∧ va_K (dC, dI) classes (tys_ kA) t ∧ va_D A (wd_Grammar_addDraft kA a0 a1 a2 a3 v0_3 v0_4 v0_5 ox0_6 of1 of2 of3)) A) args s 0 0 A) (F0 m 45 ls [])) := by
  have hg := fun (w : Cond) (h : w ∈ gw) => hts w (List.mem_cons_of_mem _ h)
  intro n
  induction n with
  | zero =>
    exact fun _ _ _ _ _ hF => absurd (show (none : Option _) = some _ from hF) (fun z => by cases z)
  | succ n ih =>
    intro l1 x0_6 f1 f2 f3 hF H locs ls hP hD hS hl
    have hF : B_Grammar_addDraft_0 (F_Grammar_addDraft  n)  l1 x0_6 f1 f2 f3 = some (r, ox0_6, of1, of2, of3) := hF
    unfold B_Grammar_addDraft_0 at hF
    refine lv_iload_n hx hb d_Grammar_addDraft_45 rfl (lv_at hl 1 rfl) ?_
    refine lv_iconst (v := 4) hx hb d_Grammar_addDraft_46 (by decide) ?_
    refine lv_icmp_ge (tgt := 78) hx hb d_Grammar_addDraft_47 (by decide) (fun c_1 => ?_) (fun c_1 => ?_)
    · rw [if_pos c_1] at hF
      refine lv_aload_n hx hb d_Grammar_addDraft_78 rfl (lv_at hl 0 rfl) ?_
      refine lv_dup hx hb d_Grammar_addDraft_79 rfl ?_
      refine va_get (D := (dC, dI)) (ci := 2) (v := .int x0_6) (C := R_Grammar) (T := F_Grammar) (N := 7) hx hb hg iw_Grammar hown hK hP 0 rfl rfl 6 (by decide) (hg _ gw_20) (fun _ h9 => h9) rfl d_Grammar_addDraft_80 ?_
      refine lv_iconst (v := 1) hx hb d_Grammar_addDraft_83 (by decide) ?_
      refine lv_iadd hx hb d_Grammar_addDraft_84 ?_
      refine va_put (D := (dC, dI)) (ci := 2) (v := .int (x0_6 + 1)) (ty := .int) (C := R_Grammar) (T := F_Grammar) (N := 7) hx hb hg iw_Grammar t_Grammar t_Grammar_ok n_Grammar hown hK hP hD hS 0 rfl rfl 6 (by decide) (hg _ gw_20) (fun _ h9 => h9) rfl (by decide +kernel) rfl rfl (Nat.le_of_ble_eq_true rfl) d_Grammar_addDraft_85 (fun H locs hP hD hS => ?_)
      have hP : va_P (dC, dI) classes (wd_Grammar_addDraft kA a0 a1 a2 a3 v0_3 v0_4 v0_5 (x0_6 + 1) f1 f2 f3) H := hP
      have hD : va_D A (wd_Grammar_addDraft kA a0 a1 a2 a3 v0_3 v0_4 v0_5 (x0_6 + 1) f1 f2 f3) := hD
      refine lv_aload_n hx hb d_Grammar_addDraft_88 rfl (lv_at hl 0 rfl) ?_
      refine va_get (D := (dC, dI)) (ci := 2) (v := .int (x0_6 + 1)) (C := R_Grammar) (T := F_Grammar) (N := 7) hx hb hg iw_Grammar hown hK hP 0 rfl rfl 6 (by decide) (hg _ gw_20) (fun _ h9 => h9) rfl d_Grammar_addDraft_89 ?_
      refine lv_iconst (v := 1) hx hb d_Grammar_addDraft_92 (by decide) ?_
      refine lv_isub hx hb d_Grammar_addDraft_93 ?_
      have e0 := Option.some.inj hF
      have q0 := Prod.mk.inj e0
      have q1 := Prod.mk.inj q0.2
      have q2 := Prod.mk.inj q1.2
      have q3 := Prod.mk.inj q2.2
      exact W.iret (v := ((x0_6 + 1) - 1)) hx hb hr (fun t ht hW => ⟨⟨((x0_6 + 1) - 1), (), rfl, q0.1, by rw [ht, ← q1.1, ← q2.1, ← q3.1, ← q3.2]; exact hP, va_K.moved hW.alike hK, (by rw [← q1.1, ← q2.1, ← q3.1, ← q3.2]; exact hD)⟩, hS.F ht⟩) hS.2.2 d_Grammar_addDraft_94 hlocks
    · rw [if_neg c_1] at hF
      refine lv_aload_n hx hb d_Grammar_addDraft_50 rfl (lv_at hl 0 rfl) ?_
      refine va_get (D := (dC, dI)) (ci := 2) (v := .ref a2) (C := R_Grammar) (T := F_Grammar) (N := 7) hx hb hg iw_Grammar hown hK hP 0 rfl rfl 2 (by decide) (hg _ gw_30) (fun _ h9 => h9) rfl d_Grammar_addDraft_51 ?_
      refine lv_aload_n hx hb d_Grammar_addDraft_54 rfl (lv_at hl 0 rfl) ?_
      refine va_get (D := (dC, dI)) (ci := 2) (v := .int x0_6) (C := R_Grammar) (T := F_Grammar) (N := 7) hx hb hg iw_Grammar hown hK hP 0 rfl rfl 6 (by decide) (hg _ gw_20) (fun _ h9 => h9) rfl d_Grammar_addDraft_55 ?_
      refine lv_iconst (v := 4) hx hb d_Grammar_addDraft_58 (by decide) ?_
      refine lv_imul hx hb d_Grammar_addDraft_59 ?_
      refine lv_iload_n hx hb d_Grammar_addDraft_60 rfl (lv_at hl 1 rfl) ?_
      refine lv_iadd hx hb d_Grammar_addDraft_61 ?_
      refine lv_aload_n hx hb d_Grammar_addDraft_62 rfl (lv_at hl 0 rfl) ?_
      refine va_get (D := (dC, dI)) (ci := 2) (v := .ref a2) (C := R_Grammar) (T := F_Grammar) (N := 7) hx hb hg iw_Grammar hown hK hP 0 rfl rfl 2 (by decide) (hg _ gw_30) (fun _ h9 => h9) rfl d_Grammar_addDraft_63 ?_
      refine lv_bipush (v := 44) hx hb d_Grammar_addDraft_66 (by decide) ?_
      refine lv_iload_n hx hb d_Grammar_addDraft_68 rfl (lv_at hl 1 rfl) ?_
      refine lv_iadd hx hb d_Grammar_addDraft_69 ?_
      obtain ⟨h_2, hF⟩ := rd_chk hF
      refine va_iald hx hb hK hP 2 0 rfl rfl h_2 d_Grammar_addDraft_70 ?_
      obtain ⟨h_3, hF⟩ := rd_chk hF
      refine va_iast hx hb hK hP hD hS 2 0 rfl rfl h_3 d_Grammar_addDraft_71 (fun H locs hP hD hS => ?_)
      have hP : va_P (dC, dI) classes (wd_Grammar_addDraft kA a0 a1 a2 a3 v0_3 v0_4 v0_5 x0_6 f1 (upd f2 (Int32.toNatClampNeg ((x0_6 * 4) + l1)) (f2 (Int32.toNatClampNeg (44 + l1)))) f3) H := hP
      have hD : va_D A (wd_Grammar_addDraft kA a0 a1 a2 a3 v0_3 v0_4 v0_5 x0_6 f1 (upd f2 (Int32.toNatClampNeg ((x0_6 * 4) + l1)) (f2 (Int32.toNatClampNeg (44 + l1)))) f3) := hD
      refine lv_iinc (v := (l1 + 1)) (lv' := [(1, .int (l1 + 1)), (0, .ref a0)]) hx hb d_Grammar_addDraft_72 hl (k := 1) rfl (by rfl) (by decide) rfl (fun ls hl => ?_)
      refine lv_goto (tgt := 45) hx hb d_Grammar_addDraft_75 (by decide) ?_
      exact ih (l1 + 1) x0_6 f1 (upd f2 (Int32.toNatClampNeg ((x0_6 * 4) + l1)) (f2 (Int32.toNatClampNeg (44 + l1)))) f3 hF _ _ _ hP hD hS (lv_sub hl [1, 0] rfl)
def S_Grammar_addDraft (x0_6 : Int32) (f1 : (Nat → Int32)) (f2 : (Nat → Int32)) (f3 : (Nat → Int32)) : Option (Int32 × Int32 × (Nat → Int32) × (Nat → Int32) × (Nat → Int32)) := (if x0_6 < 10 then (if (11 : Int32) < 0 ∨ 12 ≤ (Int32.toNatClampNeg 11) then none else (if (x0_6 : Int32) < 0 ∨ 12 ≤ (Int32.toNatClampNeg x0_6) then none else (if (11 : Int32) < 0 ∨ 12 ≤ (Int32.toNatClampNeg 11) then none else (if (x0_6 : Int32) < 0 ∨ 12 ≤ (Int32.toNatClampNeg x0_6) then none else (F_Grammar_addDraft fuel_ 0 0 x0_6 (upd f1 (Int32.toNatClampNeg x0_6) (f1 (Int32.toNatClampNeg 11))) f2 (upd f3 (Int32.toNatClampNeg x0_6) (f3 (Int32.toNatClampNeg 11)))))))) else (some ((-1), x0_6, f1, f2, f3)))
set_option maxHeartbeats 4000000 in
set_option maxRecDepth 100000 in
theorem c_Grammar_addDraft (l : Launch) (dC : Nat → ClassId) (dI : Nat → Nat → Nat) (kA : Nat → ClassId) (sz : Nat) (a0 a1 a2 a3 : Nat) (v0_3 v0_4 v0_5 : Value) (x0_6 : Int32) (f1 : (Nat → Int32)) (f2 : (Nat → Int32)) (f3 : (Nat → Int32)) (r : Int32) (ox0_6 : Int32) (of1 : (Nat → Int32)) (of2 : (Nat → Int32)) (of3 : (Nat → Int32)) (hF : S_Grammar_addDraft x0_6 f1 f2 f3 = some (r, ox0_6, of1, of2, of3)) : Met l y_Grammar_addDraft w_Grammar_addDraft rm_Grammar_addDraft (va_Pc [.ref a0] (fun U => U.heap.size = sz ∧ va_P (dC, dI) classes (wd_Grammar_addDraft kA a0 a1 a2 a3 v0_3 v0_4 v0_5 x0_6 f1 f2 f3) U.heap ∧ va_K (dC, dI) classes (tys_ kA) U ∧ va_D (fun _ => True) (wd_Grammar_addDraft kA a0 a1 a2 a3 v0_3 v0_4 v0_5 x0_6 f1 f2 f3))) (va_Qi (fun (r1 : Int32) (_ : Unit) => r1 = r) (fun _ t => va_P (dC, dI) classes (wd_Grammar_addDraft kA a0 a1 a2 a3 v0_3 v0_4 v0_5 ox0_6 of1 of2 of3) t.heap ∧ va_K (dC, dI) classes (tys_ kA) t ∧ va_D (va_A (wd_Grammar_addDraft kA a0 a1 a2 a3 v0_3 v0_4 v0_5 x0_6 f1 f2 f3) sz) (wd_Grammar_addDraft kA a0 a1 a2 a3 v0_3 v0_4 v0_5 ox0_6 of1 of2 of3)) (va_A (wd_Grammar_addDraft kA a0 a1 a2 a3 v0_3 v0_4 v0_5 x0_6 f1 f2 f3) sz)) 0 0 (va_A (wd_Grammar_addDraft kA a0 a1 a2 a3 v0_3 v0_4 v0_5 x0_6 f1 f2 f3) sz) := by
  refine Met.ofW (cc := b_Grammar_addDraft) (maxL := 2) (ret := some .int) (by decide) rfl ?_
  intro p e s m args below meth c s₁ B hml hv
  obtain ⟨rfl, hsz, hP, hK, hD0⟩ := hv
  have hx := B.exec
  have hb := B.bytes
  have hr := B.returns
  have hts := atoms_spec (ws := w_Grammar_addDraft) B.pre
  have hown : s.vm.findClass R_Grammar = some m.cls := findClass_of_methodNamed B.named
  have hg := fun (w : Cond) (h : w ∈ gw) => hts w (List.mem_cons_of_mem _ h)
  have hlocks := B.notSynchronized
  subst hsz
  have hD := hD0.self (sz := s.heap.size)
  generalize hAe : va_A (wd_Grammar_addDraft kA a0 a1 a2 a3 v0_3 v0_4 v0_5 x0_6 f1 f2 f3) s.heap.size = A at hD ⊢
  have hA : ∀ q : Nat, s.heap.size ≤ q → A q := fun q h => by rw [← hAe]; exact Or.inr h
  have hS : va_S A s.heap s.heap [] := va_S.rf
  have hl := lv_entry ([.ref a0]) (n := 2) (Nat.le_of_ble_eq_true rfl)
  rw [lg_entry_eq]
  generalize (lg_sl ([.ref a0]) ++ List.replicate (2 - (lg_sl ([.ref a0])).length) Slot.unset).toArray = ls at hl ⊢
  have hl : lv_has ls 2 [(0, .ref a0)] := hl
  unfold S_Grammar_addDraft at hF
  have ih := L_Grammar_addDraft (l := l) (e := e) (below := below) hx hb hr hlocks hml hown hts hA hK a0 a1 a2 a3 v0_3 v0_4 v0_5  r ox0_6 of1 of2 of3 fuel_
  refine lv_aload_n hx hb d_Grammar_addDraft_0 rfl (lv_at hl 0 rfl) ?_
  refine va_get (D := (dC, dI)) (ci := 2) (v := .int x0_6) (C := R_Grammar) (T := F_Grammar) (N := 7) hx hb hg iw_Grammar hown hK hP 0 rfl rfl 6 (by decide) (hg _ gw_20) (fun _ h9 => h9) rfl d_Grammar_addDraft_1 ?_
  refine lv_bipush (v := 10) hx hb d_Grammar_addDraft_4 (by decide) ?_
  refine lv_icmp_lt (tgt := 11) hx hb d_Grammar_addDraft_6 (by decide) (fun c_4 => ?_) (fun c_4 => ?_)
  · rw [if_pos c_4] at hF
    refine lv_aload_n hx hb d_Grammar_addDraft_11 rfl (lv_at hl 0 rfl) ?_
    refine va_get (D := (dC, dI)) (ci := 2) (v := .ref a1) (C := R_Grammar) (T := F_Grammar) (N := 7) hx hb hg iw_Grammar hown hK hP 0 rfl rfl 0 (by decide) (hg _ gw_23) (fun _ h9 => h9) rfl d_Grammar_addDraft_12 ?_
    refine lv_aload_n hx hb d_Grammar_addDraft_15 rfl (lv_at hl 0 rfl) ?_
    refine va_get (D := (dC, dI)) (ci := 2) (v := .int x0_6) (C := R_Grammar) (T := F_Grammar) (N := 7) hx hb hg iw_Grammar hown hK hP 0 rfl rfl 6 (by decide) (hg _ gw_20) (fun _ h9 => h9) rfl d_Grammar_addDraft_16 ?_
    refine lv_aload_n hx hb d_Grammar_addDraft_19 rfl (lv_at hl 0 rfl) ?_
    refine va_get (D := (dC, dI)) (ci := 2) (v := .ref a1) (C := R_Grammar) (T := F_Grammar) (N := 7) hx hb hg iw_Grammar hown hK hP 0 rfl rfl 0 (by decide) (hg _ gw_23) (fun _ h9 => h9) rfl d_Grammar_addDraft_20 ?_
    refine lv_bipush (v := 11) hx hb d_Grammar_addDraft_23 (by decide) ?_
    obtain ⟨h_5, hF⟩ := rd_chk hF
    refine va_iald hx hb hK hP 1 0 rfl rfl h_5 d_Grammar_addDraft_25 ?_
    obtain ⟨h_6, hF⟩ := rd_chk hF
    refine va_iast hx hb hK hP hD hS 1 0 rfl rfl h_6 d_Grammar_addDraft_26 (fun H locs hP hD hS => ?_)
    have hP : va_P (dC, dI) classes (wd_Grammar_addDraft kA a0 a1 a2 a3 v0_3 v0_4 v0_5 x0_6 (upd f1 (Int32.toNatClampNeg x0_6) (f1 (Int32.toNatClampNeg 11))) f2 f3) H := hP
    have hD : va_D A (wd_Grammar_addDraft kA a0 a1 a2 a3 v0_3 v0_4 v0_5 x0_6 (upd f1 (Int32.toNatClampNeg x0_6) (f1 (Int32.toNatClampNeg 11))) f2 f3) := hD
    refine lv_aload_n hx hb d_Grammar_addDraft_27 rfl (lv_at hl 0 rfl) ?_
    refine va_get (D := (dC, dI)) (ci := 2) (v := .ref a3) (C := R_Grammar) (T := F_Grammar) (N := 7) hx hb hg iw_Grammar hown hK hP 0 rfl rfl 1 (by decide) (hg _ gw_24) (fun _ h9 => h9) rfl d_Grammar_addDraft_28 ?_
    refine lv_aload_n hx hb d_Grammar_addDraft_31 rfl (lv_at hl 0 rfl) ?_
    refine va_get (D := (dC, dI)) (ci := 2) (v := .int x0_6) (C := R_Grammar) (T := F_Grammar) (N := 7) hx hb hg iw_Grammar hown hK hP 0 rfl rfl 6 (by decide) (hg _ gw_20) (fun _ h9 => h9) rfl d_Grammar_addDraft_32 ?_
    refine lv_aload_n hx hb d_Grammar_addDraft_35 rfl (lv_at hl 0 rfl) ?_
    refine va_get (D := (dC, dI)) (ci := 2) (v := .ref a3) (C := R_Grammar) (T := F_Grammar) (N := 7) hx hb hg iw_Grammar hown hK hP 0 rfl rfl 1 (by decide) (hg _ gw_24) (fun _ h9 => h9) rfl d_Grammar_addDraft_36 ?_
    refine lv_bipush (v := 11) hx hb d_Grammar_addDraft_39 (by decide) ?_
    obtain ⟨h_7, hF⟩ := rd_chk hF
    refine va_iald hx hb hK hP 3 0 rfl rfl h_7 d_Grammar_addDraft_41 ?_
    obtain ⟨h_8, hF⟩ := rd_chk hF
    refine va_iast hx hb hK hP hD hS 3 0 rfl rfl h_8 d_Grammar_addDraft_42 (fun H locs hP hD hS => ?_)
    have hP : va_P (dC, dI) classes (wd_Grammar_addDraft kA a0 a1 a2 a3 v0_3 v0_4 v0_5 x0_6 (upd f1 (Int32.toNatClampNeg x0_6) (f1 (Int32.toNatClampNeg 11))) f2 (upd f3 (Int32.toNatClampNeg x0_6) (f3 (Int32.toNatClampNeg 11)))) H := hP
    have hD : va_D A (wd_Grammar_addDraft kA a0 a1 a2 a3 v0_3 v0_4 v0_5 x0_6 (upd f1 (Int32.toNatClampNeg x0_6) (f1 (Int32.toNatClampNeg 11))) f2 (upd f3 (Int32.toNatClampNeg x0_6) (f3 (Int32.toNatClampNeg 11)))) := hD
    refine lv_iconst (v := 0) hx hb d_Grammar_addDraft_43 (by decide) ?_
    refine lv_istore_n (lv' := [(1, .int 0), (0, .ref a0)]) hx hb d_Grammar_addDraft_44 rfl hl (by decide) rfl (fun ls hl => ?_)
    exact ih 0 x0_6 (upd f1 (Int32.toNatClampNeg x0_6) (f1 (Int32.toNatClampNeg 11))) f2 (upd f3 (Int32.toNatClampNeg x0_6) (f3 (Int32.toNatClampNeg 11))) hF _ _ _ hP hD hS (lv_sub hl [1, 0] rfl)
  · rw [if_neg c_4] at hF
    refine lv_iconst (v := (-1)) hx hb d_Grammar_addDraft_9 (by decide) ?_
    have e0 := Option.some.inj hF
    have q0 := Prod.mk.inj e0
    have q1 := Prod.mk.inj q0.2
    have q2 := Prod.mk.inj q1.2
    have q3 := Prod.mk.inj q2.2
    exact W.iret (v := (-1)) hx hb hr (fun t ht hW => ⟨⟨(-1), (), rfl, q0.1, by rw [ht, ← q1.1, ← q2.1, ← q3.1, ← q3.2]; exact hP, va_K.moved hW.alike hK, (by rw [← q1.1, ← q2.1, ← q3.1, ← q3.2]; exact hD)⟩, hS.F ht⟩) hS.2.2 d_Grammar_addDraft_10 hlocks
-- ===== RepairDesk$Grammar.isFruitful(I)Z
abbrev wd_Grammar_isFruitful (kA : Nat → ClassId) (a0 a1 : Nat) (v0_0 v0_1 v0_2 v0_3 v0_5 v0_6 : Value) (f1 : (Nat → Int32)) : va_W := [(a0, .inr (2, [v0_0, v0_1, v0_2, v0_3, .ref a1, v0_5, v0_6])), (a1, .inl (kA 1, 6, .inl f1))]
abbrev rm_Grammar_isFruitful : Room := { frames := 0, cells := 0, slots := 0, locals := 0 }
def S_Grammar_isFruitful (p1 : Int32) (f1 : (Nat → Int32)) : Option (Int32) := (if p1 < 6 then (some 1) else (if 12 ≤ p1 then (some 0) else (if ((p1 - 6) : Int32) < 0 ∨ 6 ≤ (Int32.toNatClampNeg (p1 - 6)) then none else (if (f1 (Int32.toNatClampNeg (p1 - 6))) = 0 then (some 0) else (some 1)))))
set_option maxHeartbeats 4000000 in
set_option maxRecDepth 100000 in
theorem c_Grammar_isFruitful (l : Launch) (dC : Nat → ClassId) (dI : Nat → Nat → Nat) (kA : Nat → ClassId) (sz : Nat) (a0 a1 : Nat) (v0_0 v0_1 v0_2 v0_3 v0_5 v0_6 : Value) (p1 : Int32) (f1 : (Nat → Int32)) (r : Int32) (hF : S_Grammar_isFruitful p1 f1 = some r) : Met l y_Grammar_isFruitful w_Grammar_isFruitful rm_Grammar_isFruitful (va_Pc [.ref a0, .int p1] (fun U => U.heap.size = sz ∧ va_P (dC, dI) classes (wd_Grammar_isFruitful kA a0 a1 v0_0 v0_1 v0_2 v0_3 v0_5 v0_6 f1) U.heap ∧ va_K (dC, dI) classes (tys_ kA) U ∧ va_D (fun _ => True) (wd_Grammar_isFruitful kA a0 a1 v0_0 v0_1 v0_2 v0_3 v0_5 v0_6 f1))) (va_Qi (fun (r1 : Int32) (_ : Unit) => r1 = r) (fun _ t => va_P (dC, dI) classes (wd_Grammar_isFruitful kA a0 a1 v0_0 v0_1 v0_2 v0_3 v0_5 v0_6 f1) t.heap ∧ va_K (dC, dI) classes (tys_ kA) t ∧ va_D (va_A (wd_Grammar_isFruitful kA a0 a1 v0_0 v0_1 v0_2 v0_3 v0_5 v0_6 f1) sz) (wd_Grammar_isFruitful kA a0 a1 v0_0 v0_1 v0_2 v0_3 v0_5 v0_6 f1)) (va_A (wd_Grammar_isFruitful kA a0 a1 v0_0 v0_1 v0_2 v0_3 v0_5 v0_6 f1) sz)) 0 0 (va_A (wd_Grammar_isFruitful kA a0 a1 v0_0 v0_1 v0_2 v0_3 v0_5 v0_6 f1) sz) := by
  refine Met.ofW (cc := b_Grammar_isFruitful) (maxL := 2) (ret := some .boolean) (by decide) rfl ?_
  intro p e s m args below meth c s₁ B hml hv
  obtain ⟨rfl, hsz, hP, hK, hD0⟩ := hv
  have hx := B.exec
  have hb := B.bytes
  have hr := B.returns
  have hts := atoms_spec (ws := w_Grammar_isFruitful) B.pre
  have hown : s.vm.findClass R_Grammar = some m.cls := findClass_of_methodNamed B.named
  have hg := fun (w : Cond) (h : w ∈ gw) => hts w (List.mem_cons_of_mem _ h)
  have hlocks := B.notSynchronized
  subst hsz
  have hD := hD0.self (sz := s.heap.size)
  generalize hAe : va_A (wd_Grammar_isFruitful kA a0 a1 v0_0 v0_1 v0_2 v0_3 v0_5 v0_6 f1) s.heap.size = A at hD ⊢
  have hA : ∀ q : Nat, s.heap.size ≤ q → A q := fun q h => by rw [← hAe]; exact Or.inr h
  have hS : va_S A s.heap s.heap [] := va_S.rf
  have hl := lv_entry ([.ref a0, .int p1]) (n := 2) (Nat.le_of_ble_eq_true rfl)
  rw [lg_entry_eq]
  generalize (lg_sl ([.ref a0, .int p1]) ++ List.replicate (2 - (lg_sl ([.ref a0, .int p1])).length) Slot.unset).toArray = ls at hl ⊢
  have hl : lv_has ls 2 [(0, .ref a0), (1, .int p1)] := hl
  unfold S_Grammar_isFruitful at hF
  refine lv_iload_n hx hb d_Grammar_isFruitful_0 rfl (lv_at hl 1 rfl) ?_
  refine lv_bipush (v := 6) hx hb d_Grammar_isFruitful_1 (by decide) ?_
  refine lv_icmp_lt (tgt := 24) hx hb d_Grammar_isFruitful_3 (by decide) (fun c_1 => ?_) (fun c_1 => ?_)
  · rw [if_pos c_1] at hF
    refine lv_iconst (v := 1) hx hb d_Grammar_isFruitful_24 (by decide) ?_
    refine lv_goto (tgt := 29) hx hb d_Grammar_isFruitful_25 (by decide) ?_
    have e0 := Option.some.inj hF
    exact W.zret (v := 1) hx hb hr rfl (fun t ht hW => ⟨⟨1, (), rfl, e0, by rw [ht]; exact hP, va_K.moved hW.alike hK, (by exact hD)⟩, hS.F ht⟩) hS.2.2 d_Grammar_isFruitful_29 hlocks
  · rw [if_neg c_1] at hF
    refine lv_iload_n hx hb d_Grammar_isFruitful_6 rfl (lv_at hl 1 rfl) ?_
    refine lv_bipush (v := 12) hx hb d_Grammar_isFruitful_7 (by decide) ?_
    refine lv_icmp_ge (tgt := 28) hx hb d_Grammar_isFruitful_9 (by decide) (fun c_2 => ?_) (fun c_2 => ?_)
    · rw [if_pos c_2] at hF
      refine lv_iconst (v := 0) hx hb d_Grammar_isFruitful_28 (by decide) ?_
      have e0 := Option.some.inj hF
      exact W.zret (v := 0) hx hb hr rfl (fun t ht hW => ⟨⟨0, (), rfl, e0, by rw [ht]; exact hP, va_K.moved hW.alike hK, (by exact hD)⟩, hS.F ht⟩) hS.2.2 d_Grammar_isFruitful_29 hlocks
    · rw [if_neg c_2] at hF
      refine lv_aload_n hx hb d_Grammar_isFruitful_12 rfl (lv_at hl 0 rfl) ?_
      refine va_get (D := (dC, dI)) (ci := 2) (v := .ref a1) (C := R_Grammar) (T := F_Grammar) (N := 7) hx hb hg iw_Grammar hown hK hP 0 rfl rfl 4 (by decide) (hg _ gw_44) (fun _ h9 => h9) rfl d_Grammar_isFruitful_13 ?_
      refine lv_iload_n hx hb d_Grammar_isFruitful_16 rfl (lv_at hl 1 rfl) ?_
      refine lv_bipush (v := 6) hx hb d_Grammar_isFruitful_17 (by decide) ?_
      refine lv_isub hx hb d_Grammar_isFruitful_19 ?_
      obtain ⟨h_3, hF⟩ := rd_chk hF
      refine va_zald hx hb hK hP 1 1 rfl rfl h_3 d_Grammar_isFruitful_20 ?_
      refine lv_if_eq (tgt := 28) hx hb d_Grammar_isFruitful_21 (by decide) (fun c_4 => ?_) (fun c_4 => ?_)
      · rw [if_pos c_4] at hF
        refine lv_iconst (v := 0) hx hb d_Grammar_isFruitful_28 (by decide) ?_
        have e0 := Option.some.inj hF
        exact W.zret (v := 0) hx hb hr rfl (fun t ht hW => ⟨⟨0, (), rfl, e0, by rw [ht]; exact hP, va_K.moved hW.alike hK, (by exact hD)⟩, hS.F ht⟩) hS.2.2 d_Grammar_isFruitful_29 hlocks
      · rw [if_neg c_4] at hF
        refine lv_iconst (v := 1) hx hb d_Grammar_isFruitful_24 (by decide) ?_
        refine lv_goto (tgt := 29) hx hb d_Grammar_isFruitful_25 (by decide) ?_
        have e0 := Option.some.inj hF
        exact W.zret (v := 1) hx hb hr rfl (fun t ht hW => ⟨⟨1, (), rfl, e0, by rw [ht]; exact hP, va_K.moved hW.alike hK, (by exact hD)⟩, hS.F ht⟩) hS.2.2 d_Grammar_isFruitful_29 hlocks
-- ===== RepairDesk$Grammar.hasFruitfulSide(I)Z
abbrev wd_Grammar_hasFruitfulSide (kA : Nat → ClassId) (a0 a1 a2 a3 : Nat) (v0_0 v0_3 v0_5 v0_6 : Value) (f1 : (Nat → Int32)) (f2 : (Nat → Int32)) (f3 : (Nat → Int32)) : va_W := [(a0, .inr (2, [v0_0, .ref a3, .ref a2, v0_3, .ref a1, v0_5, v0_6])), (a1, .inl (kA 1, 6, .inl f1)), (a2, .inl (kA 0, 48, .inl f2)), (a3, .inl (kA 0, 12, .inl f3))]
abbrev rm_Grammar_hasFruitfulSide : Room := { frames := 1, cells := 0, slots := 0, locals := 21 }
def B_Grammar_hasFruitfulSide_0 (K : Nat → Int32 → Int32 → Option (Int32)) (f1 : (Nat → Int32)) (f2 : (Nat → Int32)) (f3 : (Nat → Int32)) (l1 : Int32) (l2 : Int32)  : Option (Int32) := (if (l1 : Int32) < 0 ∨ 12 ≤ (Int32.toNatClampNeg l1) then none else (if (f3 (Int32.toNatClampNeg l1)) ≤ l2 then (some 1) else (if (((l1 * 4) + l2) : Int32) < 0 ∨ 48 ≤ (Int32.toNatClampNeg ((l1 * 4) + l2)) then none else ((S_Grammar_isFruitful (f2 (Int32.toNatClampNeg ((l1 * 4) + l2))) f1).bind fun u_4 => (if ¬ u_4 = 0 then (K 0 l1 (l2 + 1)) else (some 0))))))
def F_Grammar_hasFruitfulSide (f1 : (Nat → Int32)) (f2 : (Nat → Int32)) (f3 : (Nat → Int32)) : Nat → Nat → Int32 → Int32 → Option (Int32)
  | 0 => fun _ _ _ => none
  | n + 1 => fun hd l1 l2 => match hd with
    | 0 => B_Grammar_hasFruitfulSide_0 (F_Grammar_hasFruitfulSide f1 f2 f3 n) f1 f2 f3 l1 l2
    | _ => none
set_option maxHeartbeats 4000000 in
set_option maxRecDepth 100000 in
theorem L_Grammar_hasFruitfulSide {p : Program} {l : Launch} {e : Env} {s : State} {m : MethodId} {args : Array Value} {below : List Frame} {meth : Method} {c : Code} {A : Nat → Prop} {dC : Nat → ClassId} {dI : Nat → Nat → Nat} {kA : Nat → ClassId} (hx : p.tables.exec = Jvm.exec) (hb : c.code = b_Grammar_hasFruitfulSide) (hr : meth.sig.returnType = some .boolean) (hlocks : meth.locks = false) (hml : c.maxLocals = 3) (hown : s.vm.findClass R_Grammar = some m.cls) (hts : ∀ w ∈ w_Grammar_hasFruitfulSide, w.before args s = true) (hA : ∀ q : Nat, s.heap.size ≤ q → A q) (hK : va_K (dC, dI) classes (tys_ kA) s) (a0 a1 a2 a3 : Nat) (v0_0 v0_3 v0_5 v0_6 : Value) (f1 : (Nat → Int32)) (f2 : (Nat → Int32)) (f3 : (Nat → Int32)) (r : Int32) : ∀ n : Nat, (∀ (l1 l2 : Int32), F_Grammar_hasFruitfulSide f1 f2 f3 n 0 l1 l2 = some r → ∀ (H : Heap) (locs : List Loc) (ls : Array Slot), va_P (dC, dI) classes (wd_Grammar_hasFruitfulSide kA a0 a1 a2 a3 v0_0 v0_3 v0_5 v0_6 f1 f2 f3) H → va_D A (wd_Grammar_hasFruitfulSide kA a0 a1 a2 a3 v0_0 v0_3 v0_5 v0_6 f1 f2 f3) → va_S A s.heap H locs → lv_has ls 3 [(0, .ref a0), (1, .int l1), (2, .int l2)] → W p l e (headSpec w_Grammar_hasFruitfulSide rm_Grammar_hasFruitfulSide).room s m args below meth c H locs 0 0 (MQ below (va_Qi (fun (r1 : Int32) (_ : Unit) => r1 = r) (fun _ t => va_P (dC, dI) classes (wd_Grammar_hasFruitfulSide kA a0 a1 a2 a3 v0_0 v0_3 v0_5 v0_6 f1 f2 f3) t.heap ∧ va_K (dC, dI) classes (tys_ kA) t ∧ va_D A (wd_Grammar_hasFruitfulSide kA a0 a1 a2 a3 v0_0 v0_3 v0_5 v0_6 f1 f2 f3)) A) args s 0 0 A) (F0 m 2 ls [])) := by
  have hg := fun (w : Cond) (h : w ∈ gw) => hts w (List.mem_cons_of_mem _ h)
  intro n
  induction n with
  | zero =>
    exact fun _ _ hF => absurd (show (none : Option _) = some _ from hF) (fun z => by cases z)
  | succ n ih =>
    intro l1 l2 hF H locs ls hP hD hS hl
    have hF : B_Grammar_hasFruitfulSide_0 (F_Grammar_hasFruitfulSide f1 f2 f3 n) f1 f2 f3 l1 l2 = some r := hF
    unfold B_Grammar_hasFruitfulSide_0 at hF
    refine lv_iload_n hx hb d_Grammar_hasFruitfulSide_2 rfl (lv_at hl 2 rfl) ?_
    refine lv_aload_n hx hb d_Grammar_hasFruitfulSide_3 rfl (lv_at hl 0 rfl) ?_
    refine va_get (D := (dC, dI)) (ci := 2) (v := .ref a3) (C := R_Grammar) (T := F_Grammar) (N := 7) hx hb hg iw_Grammar hown hK hP 0 rfl rfl 1 (by decide) (hg _ gw_24) (fun _ h9 => h9) rfl d_Grammar_hasFruitfulSide_4 ?_
    refine lv_iload_n hx hb d_Grammar_hasFruitfulSide_7 rfl (lv_at hl 1 rfl) ?_
    obtain ⟨h_1, hF⟩ := rd_chk hF
    refine va_iald hx hb hK hP 3 0 rfl rfl h_1 d_Grammar_hasFruitfulSide_8 ?_
    refine lv_icmp_ge (tgt := 37) hx hb d_Grammar_hasFruitfulSide_9 (by decide) (fun c_2 => ?_) (fun c_2 => ?_)
    · rw [if_pos c_2] at hF
      refine lv_iconst (v := 1) hx hb d_Grammar_hasFruitfulSide_37 (by decide) ?_
      have e0 := Option.some.inj hF
      exact W.zret (v := 1) hx hb hr rfl (fun t ht hW => ⟨⟨1, (), rfl, e0, by rw [ht]; exact hP, va_K.moved hW.alike hK, (by exact hD)⟩, hS.F ht⟩) hS.2.2 d_Grammar_hasFruitfulSide_38 hlocks
    · rw [if_neg c_2] at hF
      refine lv_aload_n hx hb d_Grammar_hasFruitfulSide_12 rfl (lv_at hl 0 rfl) ?_
      refine lv_aload_n hx hb d_Grammar_hasFruitfulSide_13 rfl (lv_at hl 0 rfl) ?_
      refine va_get (D := (dC, dI)) (ci := 2) (v := .ref a2) (C := R_Grammar) (T := F_Grammar) (N := 7) hx hb hg iw_Grammar hown hK hP 0 rfl rfl 2 (by decide) (hg _ gw_30) (fun _ h9 => h9) rfl d_Grammar_hasFruitfulSide_14 ?_
      refine lv_iload_n hx hb d_Grammar_hasFruitfulSide_17 rfl (lv_at hl 1 rfl) ?_
      refine lv_iconst (v := 4) hx hb d_Grammar_hasFruitfulSide_18 (by decide) ?_
      refine lv_imul hx hb d_Grammar_hasFruitfulSide_19 ?_
      refine lv_iload_n hx hb d_Grammar_hasFruitfulSide_20 rfl (lv_at hl 2 rfl) ?_
      refine lv_iadd hx hb d_Grammar_hasFruitfulSide_21 ?_
      obtain ⟨h_3, hF⟩ := rd_chk hF
      refine va_iald hx hb hK hP 2 0 rfl rfl h_3 d_Grammar_hasFruitfulSide_22 ?_
      obtain ⟨u_4, hS_4, hF⟩ := rd_bind hF
      have hPc := hP.sub (ws' := (wd_Grammar_isFruitful kA a0 a1 v0_0 (.ref a3) (.ref a2) v0_3 v0_5 v0_6 f1)) [0, 1] rfl
      have hDc := hD.sub (ws' := (wd_Grammar_isFruitful kA a0 a1 v0_0 (.ref a3) (.ref a2) v0_3 v0_5 v0_6 f1)) [0, 1] (by decide) rfl
      have hFc := va_free (wc := (wd_Grammar_isFruitful kA a0 a1 v0_0 (.ref a3) (.ref a2) v0_3 v0_5 v0_6 f1)) hD hS hA [0, 1] rfl
      refine va_calli (va_runV (As := [.int (f2 (Int32.toNatClampNeg ((l1 * 4) + l2)))]) (rest := []) ⟨hx, hb, hml, hown, hts⟩ (c_Grammar_isFruitful l dC dI kA H.size a0 a1 v0_0 (.ref a3) (.ref a2) v0_3 v0_5 v0_6 (f2 (Int32.toNatClampNeg ((l1 * 4) + l2))) f1 u_4 hS_4) (cwV 1 hts (gw_V gw_45 gw_46 gw_47 gw_42 gw_48) rfl rfl rfl (by decide +kernel) ⟨Nat.le_of_ble_eq_true rfl, Nat.le_of_ble_eq_true rfl⟩) ⟨fun a U g mk q => by obtain ⟨q0, q1, qP, qK, qD⟩ := q; exact ⟨q0, q1, qP, va_K.moved (u := U) (U := U.calling g mk a) (Vm.Alike.refl U.vm) qK, qD⟩, va_recv hK hP (ci := 2) (q0 := 0) rfl rfl, fun U hU hW => ⟨rfl, by rw [hU], by rw [hU]; exact hPc, va_K.moved hW.alike hK, hDc.weaken (fun _ _ _ _ => trivial)⟩⟩ rfl rfl hl.1 rfl (lv_room (Nat.le_of_ble_eq_true rfl)) d_Grammar_hasFruitfulSide_23 ⟨Nat.zero_le _, Nat.zero_le _⟩) hS (fun q _ h => hFc q h) hFc (fun r1 u t H1 locs ht hvm hw hB hz1 hk1 hS => ?_)
      rw [show r1 = _ from hw]
      obtain ⟨hP1, hK1, hD1⟩ := hB
      rw [ht] at hP1
      obtain ⟨hP, hD⟩ := va_join (wr := [(a2, .inl (kA 0, 48, .inl f2)), (a3, .inl (kA 0, 12, .inl f3))]) (w1 := (wd_Grammar_isFruitful kA a0 a1 v0_0 (.ref a3) (.ref a2) v0_3 v0_5 v0_6 f1)) hP hD [0, 1] [2, 3] rfl rfl (by decide) (by decide) hk1 hFc hP1 hD1
      have hP := hP.sub (ws' := (wd_Grammar_hasFruitfulSide kA a0 a1 a2 a3 v0_0 v0_3 v0_5 v0_6 f1 f2 f3)) [2, 3, 0, 1] rfl
      have hD := hD.sub (ws' := (wd_Grammar_hasFruitfulSide kA a0 a1 a2 a3 v0_0 v0_3 v0_5 v0_6 f1 f2 f3)) [2, 3, 0, 1] (by decide) rfl
      clear hPc hDc hFc hP1 hK1 hD1
      generalize H1 = H at hP hS ⊢
      refine lv_if_ne (tgt := 31) hx hb d_Grammar_hasFruitfulSide_26 (by decide) (fun c_5 => ?_) (fun c_5 => ?_)
      · rw [if_pos c_5] at hF
        refine lv_iinc (v := (l2 + 1)) (lv' := [(2, .int (l2 + 1)), (0, .ref a0), (1, .int l1)]) hx hb d_Grammar_hasFruitfulSide_31 hl (k := 2) rfl (by rfl) (by decide) rfl (fun ls hl => ?_)
        refine lv_goto (tgt := 2) hx hb d_Grammar_hasFruitfulSide_34 (by decide) ?_
        exact ih l1 (l2 + 1) hF _ _ _ hP hD hS (lv_sub hl [1, 2, 0] rfl)
      · rw [if_neg (fun z => z c_5)] at hF
        refine lv_iconst (v := 0) hx hb d_Grammar_hasFruitfulSide_29 (by decide) ?_
        have e0 := Option.some.inj hF
        exact W.zret (v := 0) hx hb hr rfl (fun t ht hW => ⟨⟨0, (), rfl, e0, by rw [ht]; exact hP, va_K.moved hW.alike hK, (by exact hD)⟩, hS.F ht⟩) hS.2.2 d_Grammar_hasFruitfulSide_30 hlocks
def S_Grammar_hasFruitfulSide (p1 : Int32) (f1 : (Nat → Int32)) (f2 : (Nat → Int32)) (f3 : (Nat → Int32)) : Option (Int32) := (F_Grammar_hasFruitfulSide f1 f2 f3 fuel_ 0 p1 0)
set_option maxHeartbeats 4000000 in
set_option maxRecDepth 100000 in
theorem c_Grammar_hasFruitfulSide (l : Launch) (dC : Nat → ClassId) (dI : Nat → Nat → Nat) (kA : Nat → ClassId) (sz : Nat) (a0 a1 a2 a3 : Nat) (v0_0 v0_3 v0_5 v0_6 : Value) (p1 : Int32) (f1 : (Nat → Int32)) (f2 : (Nat → Int32)) (f3 : (Nat → Int32)) (r : Int32) (hF : S_Grammar_hasFruitfulSide p1 f1 f2 f3 = some r) : Met l y_Grammar_hasFruitfulSide w_Grammar_hasFruitfulSide rm_Grammar_hasFruitfulSide (va_Pc [.ref a0, .int p1] (fun U => U.heap.size = sz ∧ va_P (dC, dI) classes (wd_Grammar_hasFruitfulSide kA a0 a1 a2 a3 v0_0 v0_3 v0_5 v0_6 f1 f2 f3) U.heap ∧ va_K (dC, dI) classes (tys_ kA) U ∧ va_D (fun _ => True) (wd_Grammar_hasFruitfulSide kA a0 a1 a2 a3 v0_0 v0_3 v0_5 v0_6 f1 f2 f3))) (va_Qi (fun (r1 : Int32) (_ : Unit) => r1 = r) (fun _ t => va_P (dC, dI) classes (wd_Grammar_hasFruitfulSide kA a0 a1 a2 a3 v0_0 v0_3 v0_5 v0_6 f1 f2 f3) t.heap ∧ va_K (dC, dI) classes (tys_ kA) t ∧ va_D (va_A (wd_Grammar_hasFruitfulSide kA a0 a1 a2 a3 v0_0 v0_3 v0_5 v0_6 f1 f2 f3) sz) (wd_Grammar_hasFruitfulSide kA a0 a1 a2 a3 v0_0 v0_3 v0_5 v0_6 f1 f2 f3)) (va_A (wd_Grammar_hasFruitfulSide kA a0 a1 a2 a3 v0_0 v0_3 v0_5 v0_6 f1 f2 f3) sz)) 0 0 (va_A (wd_Grammar_hasFruitfulSide kA a0 a1 a2 a3 v0_0 v0_3 v0_5 v0_6 f1 f2 f3) sz) := by
  refine Met.ofW (cc := b_Grammar_hasFruitfulSide) (maxL := 3) (ret := some .boolean) (by decide) rfl ?_
  intro p e s m args below meth c s₁ B hml hv
  obtain ⟨rfl, hsz, hP, hK, hD0⟩ := hv
  have hx := B.exec
  have hb := B.bytes
  have hr := B.returns
  have hts := atoms_spec (ws := w_Grammar_hasFruitfulSide) B.pre
  have hown : s.vm.findClass R_Grammar = some m.cls := findClass_of_methodNamed B.named
  have hg := fun (w : Cond) (h : w ∈ gw) => hts w (List.mem_cons_of_mem _ h)
  have hlocks := B.notSynchronized
  subst hsz
  have hD := hD0.self (sz := s.heap.size)
  generalize hAe : va_A (wd_Grammar_hasFruitfulSide kA a0 a1 a2 a3 v0_0 v0_3 v0_5 v0_6 f1 f2 f3) s.heap.size = A at hD ⊢
  have hA : ∀ q : Nat, s.heap.size ≤ q → A q := fun q h => by rw [← hAe]; exact Or.inr h
  have hS : va_S A s.heap s.heap [] := va_S.rf
  have hl := lv_entry ([.ref a0, .int p1]) (n := 3) (Nat.le_of_ble_eq_true rfl)
  rw [lg_entry_eq]
  generalize (lg_sl ([.ref a0, .int p1]) ++ List.replicate (3 - (lg_sl ([.ref a0, .int p1])).length) Slot.unset).toArray = ls at hl ⊢
  have hl : lv_has ls 3 [(0, .ref a0), (1, .int p1)] := hl
  unfold S_Grammar_hasFruitfulSide at hF
  have ih := L_Grammar_hasFruitfulSide (l := l) (e := e) (below := below) hx hb hr hlocks hml hown hts hA hK a0 a1 a2 a3 v0_0 v0_3 v0_5 v0_6 f1 f2 f3 r fuel_
  refine lv_iconst (v := 0) hx hb d_Grammar_hasFruitfulSide_0 (by decide) ?_
  refine lv_istore_n (lv' := [(2, .int 0), (0, .ref a0), (1, .int p1)]) hx hb d_Grammar_hasFruitfulSide_1 rfl hl (by decide) rfl (fun ls hl => ?_)
  exact ih p1 0 hF _ _ _ hP hD hS (lv_sub hl [1, 2, 0] rfl)
-- ===== RepairDesk$Grammar.findUsed()V
abbrev wd_Grammar_findUsed (kA : Nat → ClassId) (a0 a1 a2 a3 a4 a5 : Nat) (v0_5 : Value) (x0_6 : Int32) (f1 : (Nat → Int32)) (f2 : (Nat → Int32)) (f3 : (Nat → Int32)) (f4 : (Nat → Int32)) (f5 : (Nat → Int32)) : va_W := [(a0, .inr (2, [.ref a2, .ref a4, .ref a3, .ref a5, .ref a1, v0_5, .int x0_6])), (a1, .inl (kA 1, 6, .inl f1)), (a2, .inl (kA 0, 12, .inl f2)), (a3, .inl (kA 0, 48, .inl f3)), (a4, .inl (kA 0, 12, .inl f4)), (a5, .inl (kA 1, 12, .inl f5))]
abbrev rm_Grammar_findUsed : Room := { frames := 2, cells := 0, slots := 0, locals := 43 }
def B_Grammar_findUsed_0 (K : Nat → Int32 → Int32 → Int32 → (Nat → Int32) → (Nat → Int32) → Option ((Nat → Int32) × (Nat → Int32))) (x0_6 : Int32) (f2 : (Nat → Int32)) (f3 : (Nat → Int32)) (f4 : (Nat → Int32)) (l1 : Int32) (l2 : Int32) (l3 : Int32) (f1 : (Nat → Int32)) (f5 : (Nat → Int32)) : Option ((Nat → Int32) × (Nat → Int32)) := (if 6 ≤ l1 then (K 1 0 0 0 f1 f5) else (if (l1 : Int32) < 0 ∨ 6 ≤ (Int32.toNatClampNeg l1) then none else (K 0 (l1 + 1) 0 0 (upd f1 (Int32.toNatClampNeg l1) (vp_nar .boolean 0)) f5)))
def B_Grammar_findUsed_1 (K : Nat → Int32 → Int32 → Int32 → (Nat → Int32) → (Nat → Int32) → Option ((Nat → Int32) × (Nat → Int32))) (x0_6 : Int32) (f2 : (Nat → Int32)) (f3 : (Nat → Int32)) (f4 : (Nat → Int32)) (l1 : Int32) (l2 : Int32) (l3 : Int32) (f1 : (Nat → Int32)) (f5 : (Nat → Int32)) : Option ((Nat → Int32) × (Nat → Int32)) := (if 12 ≤ l1 then (K 2 1 0 0 f1 f5) else (if (l1 : Int32) < 0 ∨ 12 ≤ (Int32.toNatClampNeg l1) then none else (K 1 (l1 + 1) 0 0 f1 (upd f5 (Int32.toNatClampNeg l1) (vp_nar .boolean 0)))))
def B_Grammar_findUsed_2 (K : Nat → Int32 → Int32 → Int32 → (Nat → Int32) → (Nat → Int32) → Option ((Nat → Int32) × (Nat → Int32))) (x0_6 : Int32) (f2 : (Nat → Int32)) (f3 : (Nat → Int32)) (f4 : (Nat → Int32)) (l1 : Int32) (l2 : Int32) (l3 : Int32) (f1 : (Nat → Int32)) (f5 : (Nat → Int32)) : Option ((Nat → Int32) × (Nat → Int32)) := (if l1 = 0 then (some (f1, f5)) else (if 10 < l2 then (some (f1, f5)) else (K 3 0 l2 0 f1 f5)))
def B_Grammar_findUsed_3 (K : Nat → Int32 → Int32 → Int32 → (Nat → Int32) → (Nat → Int32) → Option ((Nat → Int32) × (Nat → Int32))) (x0_6 : Int32) (f2 : (Nat → Int32)) (f3 : (Nat → Int32)) (f4 : (Nat → Int32)) (l1 : Int32) (l2 : Int32) (l3 : Int32) (f1 : (Nat → Int32)) (f5 : (Nat → Int32)) : Option ((Nat → Int32) × (Nat → Int32)) := (if x0_6 ≤ l3 then (K 2 l1 (l2 + 1) 0 f1 f5) else (if (l3 : Int32) < 0 ∨ 12 ≤ (Int32.toNatClampNeg l3) then none else (if ¬ (f5 (Int32.toNatClampNeg l3)) = 0 then (K 3 l1 l2 (l3 + 1) f1 f5) else ((S_Grammar_hasFruitfulSide l3 f1 f3 f4).bind fun u_10 => (if u_10 = 0 then (K 3 l1 l2 (l3 + 1) f1 f5) else (if (l3 : Int32) < 0 ∨ 12 ≤ (Int32.toNatClampNeg l3) then none else (if (l3 : Int32) < 0 ∨ 12 ≤ (Int32.toNatClampNeg l3) then none else (if (((f2 (Int32.toNatClampNeg l3)) - 6) : Int32) < 0 ∨ 6 ≤ (Int32.toNatClampNeg ((f2 (Int32.toNatClampNeg l3)) - 6)) then none else (K 3 1 l2 (l3 + 1) (upd f1 (Int32.toNatClampNeg ((f2 (Int32.toNatClampNeg l3)) - 6)) (vp_nar .boolean 1)) (upd f5 (Int32.toNatClampNeg l3) (vp_nar .boolean 1)))))))))))
def F_Grammar_findUsed (x0_6 : Int32) (f2 : (Nat → Int32)) (f3 : (Nat → Int32)) (f4 : (Nat → Int32)) : Nat → Nat → Int32 → Int32 → Int32 → (Nat → Int32) → (Nat → Int32) → Option ((Nat → Int32) × (Nat → Int32))
  | 0 => fun _ _ _ _ _ _ => none
  | n + 1 => fun hd l1 l2 l3 f1 f5 => match hd with
    | 0 => B_Grammar_findUsed_0 (F_Grammar_findUsed x0_6 f2 f3 f4 n) x0_6 f2 f3 f4 l1 l2 l3 f1 f5
    | 1 => B_Grammar_findUsed_1 (F_Grammar_findUsed x0_6 f2 f3 f4 n) x0_6 f2 f3 f4 l1 l2 l3 f1 f5
    | 2 => B_Grammar_findUsed_2 (F_Grammar_findUsed x0_6 f2 f3 f4 n) x0_6 f2 f3 f4 l1 l2 l3 f1 f5
    | 3 => B_Grammar_findUsed_3 (F_Grammar_findUsed x0_6 f2 f3 f4 n) x0_6 f2 f3 f4 l1 l2 l3 f1 f5
    | _ => none
set_option maxHeartbeats 4000000 in
set_option maxRecDepth 100000 in
theorem L_Grammar_findUsed {p : Program} {l : Launch} {e : Env} {s : State} {m : MethodId} {args : Array Value} {below : List Frame} {meth : Method} {c : Code} {A : Nat → Prop} {dC : Nat → ClassId} {dI : Nat → Nat → Nat} {kA : Nat → ClassId} (hx : p.tables.exec = Jvm.exec) (hb : c.code = b_Grammar_findUsed) (hr : meth.sig.returnType = none) (hlocks : meth.locks = false) (hml : c.maxLocals = 4) (hown : s.vm.findClass R_Grammar = some m.cls) (hts : ∀ w ∈ w_Grammar_findUsed, w.before args s = true) (hA : ∀ q : Nat, s.heap.size ≤ q → A q) (hK : va_K (dC, dI) classes (tys_ kA) s) (a0 a1 a2 a3 a4 a5 : Nat) (v0_5 : Value) (x0_6 : Int32) (f2 : (Nat → Int32)) (f3 : (Nat → Int32)) (f4 : (Nat → Int32)) (of1 : (Nat → Int32)) (of5 : (Nat → Int32)) : ∀ n : Nat, (∀ (l1 l2 l3 : Int32) (f1 : (Nat → Int32)) (f5 : (Nat → Int32)), F_Grammar_findUsed x0_6 f2 f3 f4 n 0 l1 l2 l3 f1 f5 = some (of1, of5) → ∀ (H : Heap) (locs : List Loc) (ls : Array Slot), va_P (dC, dI) classes (wd_Grammar_findUsed kA a0 a1 a2 a3 a4 a5 v0_5 x0_6 f1 f2 f3 f4 f5) H → va_D A (wd_Grammar_findUsed kA a0 a1 a2 a3 a4 a5 v0_5 x0_6 f1 f2 f3 f4 f5) → va_S A s.heap H locs → lv_has ls 4 [(0, .ref a0), (1, .int l1)] → W p l e (headSpec w_Grammar_findUsed rm_Grammar_findUsed).room s m args below meth c H locs 0 0 (MQ below (va_Qv (fun (_ : Unit) => True) (fun _ t => va_P (dC, dI) classes (wd_Grammar_findUsed kA a0 a1 a2 a3 a4 a5 v0_5 x0_6 of1 f2 f3 f4 of5) t.heap ∧ va_K (dC, dI) classes (tys_ kA) t ∧ va_D A (wd_Grammar_findUsed kA a0 a1 a2 a3 a4 a5 v0_5 x0_6 of1 f2 f3 f4 of5)) A) args s 0 0 A) (F0 m 2 ls [])) ∧ (∀ (l1 l2 l3 : Int32) (f1 : (Nat → Int32)) (f5 : (Nat → Int32)), F_Grammar_findUsed x0_6 f2 f3 f4 n 1 l1 l2 l3 f1 f5 = some (of1, of5) → ∀ (H : Heap) (locs : List Loc) (ls : Array Slot), va_P (dC, dI) classes (wd_Grammar_findUsed kA a0 a1 a2 a3 a4 a5 v0_5 x0_6 f1 f2 f3 f4 f5) H → va_D A (wd_Grammar_findUsed kA a0 a1 a2 a3 a4 a5 v0_5 x0_6 f1 f2 f3 f4 f5) → va_S A s.heap H locs → lv_has ls 4 [(0, .ref a0), (1, .int l1)] → W p l e (headSpec w_Grammar_findUsed rm_Grammar_findUsed).room s m args below meth c H locs 0 0 (MQ below (va_Qv (fun (_ : Unit) => True) (fun _ t => va_P (dC, dI) classes (wd_Grammar_findUsed kA a0 a1 a2 a3 a4 a5 v0_5 x0_6 of1 f2 f3 f4 of5) t.heap ∧ va_K (dC, dI) classes (tys_ kA) t ∧ va_D A (wd_Grammar_findUsed kA a0 a1 a2 a3 a4 a5 v0_5 x0_6 of1 f2 f3 f4 of5)) A) args s 0 0 A) (F0 m 23 ls [])) ∧ (∀ (l1 l2 l3 : Int32) (f1 : (Nat → Int32)) (f5 : (Nat → Int32)), F_Grammar_findUsed x0_6 f2 f3 f4 n 2 l1 l2 l3 f1 f5 = some (of1, of5) → ∀ (H : Heap) (locs : List Loc) (ls : Array Slot), va_P (dC, dI) classes (wd_Grammar_findUsed kA a0 a1 a2 a3 a4 a5 v0_5 x0_6 f1 f2 f3 f4 f5) H → va_D A (wd_Grammar_findUsed kA a0 a1 a2 a3 a4 a5 v0_5 x0_6 f1 f2 f3 f4 f5) → va_S A s.heap H locs → lv_has ls 4 [(0, .ref a0), (1, .int l1), (2, .int l2)] → W p l e (headSpec w_Grammar_findUsed rm_Grammar_findUsed).room s m args below meth c H locs 0 0 (MQ below (va_Qv (fun (_ : Unit) => True) (fun _ t => va_P (dC, dI) classes (wd_Grammar_findUsed kA a0 a1 a2 a3 a4 a5 v0_5 x0_6 of1 f2 f3 f4 of5) t.heap ∧ va_K (dC, dI) classes (tys_ kA) t ∧ va_D A (wd_Grammar_findUsed kA a0 a1 a2 a3 a4 a5 v0_5 x0_6 of1 f2 f3 f4 of5)) A) args s 0 0 A) (F0 m 46 ls [])) ∧ (∀ (l1 l2 l3 : Int32) (f1 : (Nat → Int32)) (f5 : (Nat → Int32)), F_Grammar_findUsed x0_6 f2 f3 f4 n 3 l1 l2 l3 f1 f5 = some (of1, of5) → ∀ (H : Heap) (locs : List Loc) (ls : Array Slot), va_P (dC, dI) classes (wd_Grammar_findUsed kA a0 a1 a2 a3 a4 a5 v0_5 x0_6 f1 f2 f3 f4 f5) H → va_D A (wd_Grammar_findUsed kA a0 a1 a2 a3 a4 a5 v0_5 x0_6 f1 f2 f3 f4 f5) → va_S A s.heap H locs → lv_has ls 4 [(0, .ref a0), (1, .int l1), (2, .int l2), (3, .int l3)] → W p l e (headSpec w_Grammar_findUsed rm_Grammar_findUsed).room s m args below meth c H locs 0 0 (MQ below (va_Qv (fun (_ : Unit) => True) (fun _ t => va_P (dC, dI) classes (wd_Grammar_findUsed kA a0 a1 a2 a3 a4 a5 v0_5 x0_6 of1 f2 f3 f4 of5) t.heap ∧ va_K (dC, dI) classes (tys_ kA) t ∧ va_D A (wd_Grammar_findUsed kA a0 a1 a2 a3 a4 a5 v0_5 x0_6 of1 f2 f3 f4 of5)) A) args s 0 0 A) (F0 m 60 ls [])) := by
  have hg := fun (w : Cond) (h : w ∈ gw) => hts w (List.mem_cons_of_mem _ h)
  intro n
  induction n with
  | zero =>
    exact ⟨fun _ _ _ _ _ hF => absurd (show (none : Option _) = some _ from hF) (fun z => by cases z), fun _ _ _ _ _ hF => absurd (show (none : Option _) = some _ from hF) (fun z => by cases z), fun _ _ _ _ _ hF => absurd (show (none : Option _) = some _ from hF) (fun z => by cases z), fun _ _ _ _ _ hF => absurd (show (none : Option _) = some _ from hF) (fun z => by cases z)⟩
  | succ n ih =>
    refine ⟨?_, ?_, ?_, ?_⟩
    · intro l1 l2 l3 f1 f5 hF H locs ls hP hD hS hl
      have hF : B_Grammar_findUsed_0 (F_Grammar_findUsed x0_6 f2 f3 f4 n) x0_6 f2 f3 f4 l1 l2 l3 f1 f5 = some (of1, of5) := hF
      unfold B_Grammar_findUsed_0 at hF
      refine lv_iload_n hx hb d_Grammar_findUsed_2 rfl (lv_at hl 1 rfl) ?_
      refine lv_bipush (v := 6) hx hb d_Grammar_findUsed_3 (by decide) ?_
      refine lv_icmp_ge (tgt := 21) hx hb d_Grammar_findUsed_5 (by decide) (fun c_1 => ?_) (fun c_1 => ?_)
      · rw [if_pos c_1] at hF
        refine lv_iconst (v := 0) hx hb d_Grammar_findUsed_21 (by decide) ?_
        refine lv_istore_n (lv' := [(1, .int 0), (0, .ref a0)]) hx hb d_Grammar_findUsed_22 rfl hl (by decide) rfl (fun ls hl => ?_)
        exact ih.2.1 0 0 0 f1 f5 hF _ _ _ hP hD hS (lv_sub hl [1, 0] rfl)
      · rw [if_neg c_1] at hF
        refine lv_aload_n hx hb d_Grammar_findUsed_8 rfl (lv_at hl 0 rfl) ?_
        refine va_get (D := (dC, dI)) (ci := 2) (v := .ref a1) (C := R_Grammar) (T := F_Grammar) (N := 7) hx hb hg iw_Grammar hown hK hP 0 rfl rfl 4 (by decide) (hg _ gw_44) (fun _ h9 => h9) rfl d_Grammar_findUsed_9 ?_
        refine lv_iload_n hx hb d_Grammar_findUsed_12 rfl (lv_at hl 1 rfl) ?_
        refine lv_iconst (v := 0) hx hb d_Grammar_findUsed_13 (by decide) ?_
        obtain ⟨h_2, hF⟩ := rd_chk hF
        refine va_zast hx hb hK hP hD hS 1 1 rfl rfl h_2 d_Grammar_findUsed_14 (fun H locs hP hD hS => ?_)
        have hP : va_P (dC, dI) classes (wd_Grammar_findUsed kA a0 a1 a2 a3 a4 a5 v0_5 x0_6 (upd f1 (Int32.toNatClampNeg l1) (vp_nar .boolean 0)) f2 f3 f4 f5) H := hP
        have hD : va_D A (wd_Grammar_findUsed kA a0 a1 a2 a3 a4 a5 v0_5 x0_6 (upd f1 (Int32.toNatClampNeg l1) (vp_nar .boolean 0)) f2 f3 f4 f5) := hD
        refine lv_iinc (v := (l1 + 1)) (lv' := [(1, .int (l1 + 1)), (0, .ref a0)]) hx hb d_Grammar_findUsed_15 hl (k := 1) rfl (by rfl) (by decide) rfl (fun ls hl => ?_)
        refine lv_goto (tgt := 2) hx hb d_Grammar_findUsed_18 (by decide) ?_
        exact ih.1 (l1 + 1) 0 0 (upd f1 (Int32.toNatClampNeg l1) (vp_nar .boolean 0)) f5 hF _ _ _ hP hD hS (lv_sub hl [1, 0] rfl)
    · intro l1 l2 l3 f1 f5 hF H locs ls hP hD hS hl
      have hF : B_Grammar_findUsed_1 (F_Grammar_findUsed x0_6 f2 f3 f4 n) x0_6 f2 f3 f4 l1 l2 l3 f1 f5 = some (of1, of5) := hF
      unfold B_Grammar_findUsed_1 at hF
      refine lv_iload_n hx hb d_Grammar_findUsed_23 rfl (lv_at hl 1 rfl) ?_
      refine lv_bipush (v := 12) hx hb d_Grammar_findUsed_24 (by decide) ?_
      refine lv_icmp_ge (tgt := 42) hx hb d_Grammar_findUsed_26 (by decide) (fun c_3 => ?_) (fun c_3 => ?_)
      · rw [if_pos c_3] at hF
        refine lv_iconst (v := 1) hx hb d_Grammar_findUsed_42 (by decide) ?_
        refine lv_istore_n (lv' := [(1, .int 1), (0, .ref a0)]) hx hb d_Grammar_findUsed_43 rfl hl (by decide) rfl (fun ls hl => ?_)
        refine lv_iconst (v := 0) hx hb d_Grammar_findUsed_44 (by decide) ?_
        refine lv_istore_n (lv' := [(2, .int 0), (1, .int 1), (0, .ref a0)]) hx hb d_Grammar_findUsed_45 rfl hl (by decide) rfl (fun ls hl => ?_)
        exact ih.2.2.1 1 0 0 f1 f5 hF _ _ _ hP hD hS (lv_sub hl [2, 1, 0] rfl)
      · rw [if_neg c_3] at hF
        refine lv_aload_n hx hb d_Grammar_findUsed_29 rfl (lv_at hl 0 rfl) ?_
        refine va_get (D := (dC, dI)) (ci := 2) (v := .ref a5) (C := R_Grammar) (T := F_Grammar) (N := 7) hx hb hg iw_Grammar hown hK hP 0 rfl rfl 3 (by decide) (hg _ gw_49) (fun _ h9 => h9) rfl d_Grammar_findUsed_30 ?_
        refine lv_iload_n hx hb d_Grammar_findUsed_33 rfl (lv_at hl 1 rfl) ?_
        refine lv_iconst (v := 0) hx hb d_Grammar_findUsed_34 (by decide) ?_
        obtain ⟨h_4, hF⟩ := rd_chk hF
        refine va_zast hx hb hK hP hD hS 5 1 rfl rfl h_4 d_Grammar_findUsed_35 (fun H locs hP hD hS => ?_)
        have hP : va_P (dC, dI) classes (wd_Grammar_findUsed kA a0 a1 a2 a3 a4 a5 v0_5 x0_6 f1 f2 f3 f4 (upd f5 (Int32.toNatClampNeg l1) (vp_nar .boolean 0))) H := hP
        have hD : va_D A (wd_Grammar_findUsed kA a0 a1 a2 a3 a4 a5 v0_5 x0_6 f1 f2 f3 f4 (upd f5 (Int32.toNatClampNeg l1) (vp_nar .boolean 0))) := hD
        refine lv_iinc (v := (l1 + 1)) (lv' := [(1, .int (l1 + 1)), (0, .ref a0)]) hx hb d_Grammar_findUsed_36 hl (k := 1) rfl (by rfl) (by decide) rfl (fun ls hl => ?_)
        refine lv_goto (tgt := 23) hx hb d_Grammar_findUsed_39 (by decide) ?_
        exact ih.2.1 (l1 + 1) 0 0 f1 (upd f5 (Int32.toNatClampNeg l1) (vp_nar .boolean 0)) hF _ _ _ hP hD hS (lv_sub hl [1, 0] rfl)
    · intro l1 l2 l3 f1 f5 hF H locs ls hP hD hS hl
      have hF : B_Grammar_findUsed_2 (F_Grammar_findUsed x0_6 f2 f3 f4 n) x0_6 f2 f3 f4 l1 l2 l3 f1 f5 = some (of1, of5) := hF
      unfold B_Grammar_findUsed_2 at hF
      refine lv_iload_n hx hb d_Grammar_findUsed_46 rfl (lv_at hl 1 rfl) ?_
      refine lv_if_eq (tgt := 121) hx hb d_Grammar_findUsed_47 (by decide) (fun c_5 => ?_) (fun c_5 => ?_)
      · rw [if_pos c_5] at hF
        have e0 := Option.some.inj hF
        have q0 := Prod.mk.inj e0
        exact W.vret hx hb hr (fun t ht hW => ⟨⟨(), rfl, trivial, by rw [ht, ← q0.1, ← q0.2]; exact hP, va_K.moved hW.alike hK, (by rw [← q0.1, ← q0.2]; exact hD)⟩, hS.F ht⟩) hS.2.2 d_Grammar_findUsed_121 hlocks
      · rw [if_neg c_5] at hF
        refine lv_iload_n hx hb d_Grammar_findUsed_50 rfl (lv_at hl 2 rfl) ?_
        refine lv_bipush (v := 10) hx hb d_Grammar_findUsed_51 (by decide) ?_
        refine lv_icmp_gt (tgt := 121) hx hb d_Grammar_findUsed_53 (by decide) (fun c_6 => ?_) (fun c_6 => ?_)
        · rw [if_pos c_6] at hF
          have e0 := Option.some.inj hF
          have q0 := Prod.mk.inj e0
          exact W.vret hx hb hr (fun t ht hW => ⟨⟨(), rfl, trivial, by rw [ht, ← q0.1, ← q0.2]; exact hP, va_K.moved hW.alike hK, (by rw [← q0.1, ← q0.2]; exact hD)⟩, hS.F ht⟩) hS.2.2 d_Grammar_findUsed_121 hlocks
        · rw [if_neg c_6] at hF
          refine lv_iconst (v := 0) hx hb d_Grammar_findUsed_56 (by decide) ?_
          refine lv_istore_n (lv' := [(1, .int 0), (0, .ref a0), (2, .int l2)]) hx hb d_Grammar_findUsed_57 rfl hl (by decide) rfl (fun ls hl => ?_)
          refine lv_iconst (v := 0) hx hb d_Grammar_findUsed_58 (by decide) ?_
          refine lv_istore_n (lv' := [(3, .int 0), (1, .int 0), (0, .ref a0), (2, .int l2)]) hx hb d_Grammar_findUsed_59 rfl hl (by decide) rfl (fun ls hl => ?_)
          exact ih.2.2.2 0 l2 0 f1 f5 hF _ _ _ hP hD hS (lv_sub hl [2, 1, 3, 0] rfl)
    · intro l1 l2 l3 f1 f5 hF H locs ls hP hD hS hl
      have hF : B_Grammar_findUsed_3 (F_Grammar_findUsed x0_6 f2 f3 f4 n) x0_6 f2 f3 f4 l1 l2 l3 f1 f5 = some (of1, of5) := hF
      unfold B_Grammar_findUsed_3 at hF
      refine lv_iload_n hx hb d_Grammar_findUsed_60 rfl (lv_at hl 3 rfl) ?_
      refine lv_aload_n hx hb d_Grammar_findUsed_61 rfl (lv_at hl 0 rfl) ?_
      refine va_get (D := (dC, dI)) (ci := 2) (v := .int x0_6) (C := R_Grammar) (T := F_Grammar) (N := 7) hx hb hg iw_Grammar hown hK hP 0 rfl rfl 6 (by decide) (hg _ gw_20) (fun _ h9 => h9) rfl d_Grammar_findUsed_62 ?_
      refine lv_icmp_ge (tgt := 115) hx hb d_Grammar_findUsed_65 (by decide) (fun c_7 => ?_) (fun c_7 => ?_)
      · rw [if_pos c_7] at hF
        refine lv_iinc (v := (l2 + 1)) (lv' := [(2, .int (l2 + 1)), (0, .ref a0), (1, .int l1), (3, .int l3)]) hx hb d_Grammar_findUsed_115 hl (k := 2) rfl (by rfl) (by decide) rfl (fun ls hl => ?_)
        refine lv_goto (tgt := 46) hx hb d_Grammar_findUsed_118 (by decide) ?_
        exact ih.2.2.1 l1 (l2 + 1) 0 f1 f5 hF _ _ _ hP hD hS (lv_sub hl [1, 2, 0] rfl)
      · rw [if_neg c_7] at hF
        refine lv_aload_n hx hb d_Grammar_findUsed_68 rfl (lv_at hl 0 rfl) ?_
        refine va_get (D := (dC, dI)) (ci := 2) (v := .ref a5) (C := R_Grammar) (T := F_Grammar) (N := 7) hx hb hg iw_Grammar hown hK hP 0 rfl rfl 3 (by decide) (hg _ gw_49) (fun _ h9 => h9) rfl d_Grammar_findUsed_69 ?_
        refine lv_iload_n hx hb d_Grammar_findUsed_72 rfl (lv_at hl 3 rfl) ?_
        obtain ⟨h_8, hF⟩ := rd_chk hF
        refine va_zald hx hb hK hP 5 1 rfl rfl h_8 d_Grammar_findUsed_73 ?_
        refine lv_if_ne (tgt := 109) hx hb d_Grammar_findUsed_74 (by decide) (fun c_9 => ?_) (fun c_9 => ?_)
        · rw [if_pos c_9] at hF
          refine lv_iinc (v := (l3 + 1)) (lv' := [(3, .int (l3 + 1)), (0, .ref a0), (1, .int l1), (2, .int l2)]) hx hb d_Grammar_findUsed_109 hl (k := 3) rfl (by rfl) (by decide) rfl (fun ls hl => ?_)
          refine lv_goto (tgt := 60) hx hb d_Grammar_findUsed_112 (by decide) ?_
          exact ih.2.2.2 l1 l2 (l3 + 1) f1 f5 hF _ _ _ hP hD hS (lv_sub hl [1, 2, 3, 0] rfl)
        · rw [if_neg (fun z => z c_9)] at hF
          refine lv_aload_n hx hb d_Grammar_findUsed_77 rfl (lv_at hl 0 rfl) ?_
          refine lv_iload_n hx hb d_Grammar_findUsed_78 rfl (lv_at hl 3 rfl) ?_
          obtain ⟨u_10, hS_10, hF⟩ := rd_bind hF
          have hPc := hP.sub (ws' := (wd_Grammar_hasFruitfulSide kA a0 a1 a3 a4 (.ref a2) (.ref a5) v0_5 (.int x0_6) f1 f3 f4)) [0, 1, 3, 4] rfl
          have hDc := hD.sub (ws' := (wd_Grammar_hasFruitfulSide kA a0 a1 a3 a4 (.ref a2) (.ref a5) v0_5 (.int x0_6) f1 f3 f4)) [0, 1, 3, 4] (by decide) rfl
          have hFc := va_free (wc := (wd_Grammar_hasFruitfulSide kA a0 a1 a3 a4 (.ref a2) (.ref a5) v0_5 (.int x0_6) f1 f3 f4)) hD hS hA [0, 1, 3, 4] rfl
          refine va_calli (va_runV (As := [.int l3]) (rest := []) ⟨hx, hb, hml, hown, hts⟩ (c_Grammar_hasFruitfulSide l dC dI kA H.size a0 a1 a3 a4 (.ref a2) (.ref a5) v0_5 (.int x0_6) l3 f1 f3 f4 u_10 hS_10) (cwV 1 hts (gw_V gw_50 gw_51 gw_52 gw_42 gw_53) rfl rfl rfl (by decide +kernel) ⟨Nat.le_of_ble_eq_true rfl, Nat.le_of_ble_eq_true rfl⟩) ⟨fun a U g mk q => by obtain ⟨q0, q1, qP, qK, qD⟩ := q; exact ⟨q0, q1, qP, va_K.moved (u := U) (U := U.calling g mk a) (Vm.Alike.refl U.vm) qK, qD⟩, va_recv hK hP (ci := 2) (q0 := 0) rfl rfl, fun U hU hW => ⟨rfl, by rw [hU], by rw [hU]; exact hPc, va_K.moved hW.alike hK, hDc.weaken (fun _ _ _ _ => trivial)⟩⟩ rfl rfl hl.1 rfl (lv_room (Nat.le_of_ble_eq_true rfl)) d_Grammar_findUsed_79 ⟨Nat.zero_le _, Nat.zero_le _⟩) hS (fun q _ h => hFc q h) hFc (fun r1 u t H1 locs ht hvm hw hB hz1 hk1 hS => ?_)
          rw [show r1 = _ from hw]
          obtain ⟨hP1, hK1, hD1⟩ := hB
          rw [ht] at hP1
          obtain ⟨hP, hD⟩ := va_join (wr := [(a2, .inl (kA 0, 12, .inl f2)), (a5, .inl (kA 1, 12, .inl f5))]) (w1 := (wd_Grammar_hasFruitfulSide kA a0 a1 a3 a4 (.ref a2) (.ref a5) v0_5 (.int x0_6) f1 f3 f4)) hP hD [0, 1, 3, 4] [2, 5] rfl rfl (by decide) (by decide) hk1 hFc hP1 hD1
          have hP := hP.sub (ws' := (wd_Grammar_findUsed kA a0 a1 a2 a3 a4 a5 v0_5 x0_6 f1 f2 f3 f4 f5)) [2, 3, 0, 4, 5, 1] rfl
          have hD := hD.sub (ws' := (wd_Grammar_findUsed kA a0 a1 a2 a3 a4 a5 v0_5 x0_6 f1 f2 f3 f4 f5)) [2, 3, 0, 4, 5, 1] (by decide) rfl
          clear hPc hDc hFc hP1 hK1 hD1
          generalize H1 = H at hP hS ⊢
          refine lv_if_eq (tgt := 109) hx hb d_Grammar_findUsed_82 (by decide) (fun c_11 => ?_) (fun c_11 => ?_)
          · rw [if_pos c_11] at hF
            refine lv_iinc (v := (l3 + 1)) (lv' := [(3, .int (l3 + 1)), (0, .ref a0), (1, .int l1), (2, .int l2)]) hx hb d_Grammar_findUsed_109 hl (k := 3) rfl (by rfl) (by decide) rfl (fun ls hl => ?_)
            refine lv_goto (tgt := 60) hx hb d_Grammar_findUsed_112 (by decide) ?_
            exact ih.2.2.2 l1 l2 (l3 + 1) f1 f5 hF _ _ _ hP hD hS (lv_sub hl [1, 2, 3, 0] rfl)
          · rw [if_neg c_11] at hF
            refine lv_aload_n hx hb d_Grammar_findUsed_85 rfl (lv_at hl 0 rfl) ?_
            refine va_get (D := (dC, dI)) (ci := 2) (v := .ref a5) (C := R_Grammar) (T := F_Grammar) (N := 7) hx hb hg iw_Grammar hown hK hP 0 rfl rfl 3 (by decide) (hg _ gw_49) (fun _ h9 => h9) rfl d_Grammar_findUsed_86 ?_
            refine lv_iload_n hx hb d_Grammar_findUsed_89 rfl (lv_at hl 3 rfl) ?_
            refine lv_iconst (v := 1) hx hb d_Grammar_findUsed_90 (by decide) ?_
            obtain ⟨h_12, hF⟩ := rd_chk hF
            refine va_zast hx hb hK hP hD hS 5 1 rfl rfl h_12 d_Grammar_findUsed_91 (fun H locs hP hD hS => ?_)
            have hP : va_P (dC, dI) classes (wd_Grammar_findUsed kA a0 a1 a2 a3 a4 a5 v0_5 x0_6 f1 f2 f3 f4 (upd f5 (Int32.toNatClampNeg l3) (vp_nar .boolean 1))) H := hP
            have hD : va_D A (wd_Grammar_findUsed kA a0 a1 a2 a3 a4 a5 v0_5 x0_6 f1 f2 f3 f4 (upd f5 (Int32.toNatClampNeg l3) (vp_nar .boolean 1))) := hD
            refine lv_aload_n hx hb d_Grammar_findUsed_92 rfl (lv_at hl 0 rfl) ?_
            refine va_get (D := (dC, dI)) (ci := 2) (v := .ref a1) (C := R_Grammar) (T := F_Grammar) (N := 7) hx hb hg iw_Grammar hown hK hP 0 rfl rfl 4 (by decide) (hg _ gw_44) (fun _ h9 => h9) rfl d_Grammar_findUsed_93 ?_
            refine lv_aload_n hx hb d_Grammar_findUsed_96 rfl (lv_at hl 0 rfl) ?_
            refine va_get (D := (dC, dI)) (ci := 2) (v := .ref a2) (C := R_Grammar) (T := F_Grammar) (N := 7) hx hb hg iw_Grammar hown hK hP 0 rfl rfl 0 (by decide) (hg _ gw_23) (fun _ h9 => h9) rfl d_Grammar_findUsed_97 ?_
            refine lv_iload_n hx hb d_Grammar_findUsed_100 rfl (lv_at hl 3 rfl) ?_
            obtain ⟨h_13, hF⟩ := rd_chk hF
            refine va_iald hx hb hK hP 2 0 rfl rfl h_13 d_Grammar_findUsed_101 ?_
            refine lv_bipush (v := 6) hx hb d_Grammar_findUsed_102 (by decide) ?_
            refine lv_isub hx hb d_Grammar_findUsed_104 ?_
            refine lv_iconst (v := 1) hx hb d_Grammar_findUsed_105 (by decide) ?_
            obtain ⟨h_14, hF⟩ := rd_chk hF
            refine va_zast hx hb hK hP hD hS 1 1 rfl rfl h_14 d_Grammar_findUsed_106 (fun H locs hP hD hS => ?_)
            have hP : va_P (dC, dI) classes (wd_Grammar_findUsed kA a0 a1 a2 a3 a4 a5 v0_5 x0_6 (upd f1 (Int32.toNatClampNeg ((f2 (Int32.toNatClampNeg l3)) - 6)) (vp_nar .boolean 1)) f2 f3 f4 (upd f5 (Int32.toNatClampNeg l3) (vp_nar .boolean 1))) H := hP
            have hD : va_D A (wd_Grammar_findUsed kA a0 a1 a2 a3 a4 a5 v0_5 x0_6 (upd f1 (Int32.toNatClampNeg ((f2 (Int32.toNatClampNeg l3)) - 6)) (vp_nar .boolean 1)) f2 f3 f4 (upd f5 (Int32.toNatClampNeg l3) (vp_nar .boolean 1))) := hD
            refine lv_iconst (v := 1) hx hb d_Grammar_findUsed_107 (by decide) ?_
            refine lv_istore_n (lv' := [(1, .int 1), (0, .ref a0), (2, .int l2), (3, .int l3)]) hx hb d_Grammar_findUsed_108 rfl hl (by decide) rfl (fun ls hl => ?_)
            refine lv_iinc (v := (l3 + 1)) (lv' := [(3, .int (l3 + 1)), (1, .int 1), (0, .ref a0), (2, .int l2)]) hx hb d_Grammar_findUsed_109 hl (k := 3) rfl (by rfl) (by decide) rfl (fun ls hl => ?_)
            refine lv_goto (tgt := 60) hx hb d_Grammar_findUsed_112 (by decide) ?_
            exact ih.2.2.2 1 l2 (l3 + 1) (upd f1 (Int32.toNatClampNeg ((f2 (Int32.toNatClampNeg l3)) - 6)) (vp_nar .boolean 1)) (upd f5 (Int32.toNatClampNeg l3) (vp_nar .boolean 1)) hF _ _ _ hP hD hS (lv_sub hl [2, 1, 3, 0] rfl)
def S_Grammar_findUsed (x0_6 : Int32) (f1 : (Nat → Int32)) (f2 : (Nat → Int32)) (f3 : (Nat → Int32)) (f4 : (Nat → Int32)) (f5 : (Nat → Int32)) : Option ((Nat → Int32) × (Nat → Int32)) := (F_Grammar_findUsed x0_6 f2 f3 f4 fuel_ 0 0 0 0 f1 f5)
set_option maxHeartbeats 4000000 in
set_option maxRecDepth 100000 in
theorem c_Grammar_findUsed (l : Launch) (dC : Nat → ClassId) (dI : Nat → Nat → Nat) (kA : Nat → ClassId) (sz : Nat) (a0 a1 a2 a3 a4 a5 : Nat) (v0_5 : Value) (x0_6 : Int32) (f1 : (Nat → Int32)) (f2 : (Nat → Int32)) (f3 : (Nat → Int32)) (f4 : (Nat → Int32)) (f5 : (Nat → Int32)) (of1 : (Nat → Int32)) (of5 : (Nat → Int32)) (hF : S_Grammar_findUsed x0_6 f1 f2 f3 f4 f5 = some (of1, of5)) : Met l y_Grammar_findUsed w_Grammar_findUsed rm_Grammar_findUsed (va_Pc [.ref a0] (fun U => U.heap.size = sz ∧ va_P (dC, dI) classes (wd_Grammar_findUsed kA a0 a1 a2 a3 a4 a5 v0_5 x0_6 f1 f2 f3 f4 f5) U.heap ∧ va_K (dC, dI) classes (tys_ kA) U ∧ va_D (fun _ => True) (wd_Grammar_findUsed kA a0 a1 a2 a3 a4 a5 v0_5 x0_6 f1 f2 f3 f4 f5))) (va_Qv (fun (_ : Unit) => True) (fun _ t => va_P (dC, dI) classes (wd_Grammar_findUsed kA a0 a1 a2 a3 a4 a5 v0_5 x0_6 of1 f2 f3 f4 of5) t.heap ∧ va_K (dC, dI) classes (tys_ kA) t ∧ va_D (va_A (wd_Grammar_findUsed kA a0 a1 a2 a3 a4 a5 v0_5 x0_6 f1 f2 f3 f4 f5) sz) (wd_Grammar_findUsed kA a0 a1 a2 a3 a4 a5 v0_5 x0_6 of1 f2 f3 f4 of5)) (va_A (wd_Grammar_findUsed kA a0 a1 a2 a3 a4 a5 v0_5 x0_6 f1 f2 f3 f4 f5) sz)) 0 0 (va_A (wd_Grammar_findUsed kA a0 a1 a2 a3 a4 a5 v0_5 x0_6 f1 f2 f3 f4 f5) sz) := by
  refine Met.ofW (cc := b_Grammar_findUsed) (maxL := 4) (ret := none) (by decide) rfl ?_
  intro p e s m args below meth c s₁ B hml hv
  obtain ⟨rfl, hsz, hP, hK, hD0⟩ := hv
  have hx := B.exec
  have hb := B.bytes
  have hr := B.returns
  have hts := atoms_spec (ws := w_Grammar_findUsed) B.pre
  have hown : s.vm.findClass R_Grammar = some m.cls := findClass_of_methodNamed B.named
  have hg := fun (w : Cond) (h : w ∈ gw) => hts w (List.mem_cons_of_mem _ h)
  have hlocks := B.notSynchronized
  subst hsz
  have hD := hD0.self (sz := s.heap.size)
  generalize hAe : va_A (wd_Grammar_findUsed kA a0 a1 a2 a3 a4 a5 v0_5 x0_6 f1 f2 f3 f4 f5) s.heap.size = A at hD ⊢
  have hA : ∀ q : Nat, s.heap.size ≤ q → A q := fun q h => by rw [← hAe]; exact Or.inr h
  have hS : va_S A s.heap s.heap [] := va_S.rf
  have hl := lv_entry ([.ref a0]) (n := 4) (Nat.le_of_ble_eq_true rfl)
  rw [lg_entry_eq]
  generalize (lg_sl ([.ref a0]) ++ List.replicate (4 - (lg_sl ([.ref a0])).length) Slot.unset).toArray = ls at hl ⊢
  have hl : lv_has ls 4 [(0, .ref a0)] := hl
  unfold S_Grammar_findUsed at hF
  have ih := L_Grammar_findUsed (l := l) (e := e) (below := below) hx hb hr hlocks hml hown hts hA hK a0 a1 a2 a3 a4 a5 v0_5 x0_6 f2 f3 f4 of1 of5 fuel_
  refine lv_iconst (v := 0) hx hb d_Grammar_findUsed_0 (by decide) ?_
  refine lv_istore_n (lv' := [(1, .int 0), (0, .ref a0)]) hx hb d_Grammar_findUsed_1 rfl hl (by decide) rfl (fun ls hl => ?_)
  exact ih.1 0 0 0 f1 f5 hF _ _ _ hP hD hS (lv_sub hl [1, 0] rfl)
-- ===== RepairDesk$Grammar.sizeOf(I)I
abbrev wd_Grammar_sizeOf (kA : Nat → ClassId) (a0 a1 : Nat) (v0_0 v0_2 v0_3 v0_4 v0_5 v0_6 : Value) (f1 : (Nat → Int32)) : va_W := [(a0, .inr (2, [v0_0, .ref a1, v0_2, v0_3, v0_4, v0_5, v0_6])), (a1, .inl (kA 0, 12, .inl f1))]
abbrev rm_Grammar_sizeOf : Room := { frames := 0, cells := 0, slots := 0, locals := 0 }
def S_Grammar_sizeOf (p1 : Int32) (f1 : (Nat → Int32)) : Option (Int32) := (if p1 < 0 then (some 0) else (if 12 ≤ p1 then (some 0) else (if (p1 : Int32) < 0 ∨ 12 ≤ (Int32.toNatClampNeg p1) then none else (some (f1 (Int32.toNatClampNeg p1))))))
set_option maxHeartbeats 4000000 in
set_option maxRecDepth 100000 in
theorem c_Grammar_sizeOf (l : Launch) (dC : Nat → ClassId) (dI : Nat → Nat → Nat) (kA : Nat → ClassId) (sz : Nat) (a0 a1 : Nat) (v0_0 v0_2 v0_3 v0_4 v0_5 v0_6 : Value) (p1 : Int32) (f1 : (Nat → Int32)) (r : Int32) (hF : S_Grammar_sizeOf p1 f1 = some r) : Met l y_Grammar_sizeOf w_Grammar_sizeOf rm_Grammar_sizeOf (va_Pc [.ref a0, .int p1] (fun U => U.heap.size = sz ∧ va_P (dC, dI) classes (wd_Grammar_sizeOf kA a0 a1 v0_0 v0_2 v0_3 v0_4 v0_5 v0_6 f1) U.heap ∧ va_K (dC, dI) classes (tys_ kA) U ∧ va_D (fun _ => True) (wd_Grammar_sizeOf kA a0 a1 v0_0 v0_2 v0_3 v0_4 v0_5 v0_6 f1))) (va_Qi (fun (r1 : Int32) (_ : Unit) => r1 = r) (fun _ t => va_P (dC, dI) classes (wd_Grammar_sizeOf kA a0 a1 v0_0 v0_2 v0_3 v0_4 v0_5 v0_6 f1) t.heap ∧ va_K (dC, dI) classes (tys_ kA) t ∧ va_D (va_A (wd_Grammar_sizeOf kA a0 a1 v0_0 v0_2 v0_3 v0_4 v0_5 v0_6 f1) sz) (wd_Grammar_sizeOf kA a0 a1 v0_0 v0_2 v0_3 v0_4 v0_5 v0_6 f1)) (va_A (wd_Grammar_sizeOf kA a0 a1 v0_0 v0_2 v0_3 v0_4 v0_5 v0_6 f1) sz)) 0 0 (va_A (wd_Grammar_sizeOf kA a0 a1 v0_0 v0_2 v0_3 v0_4 v0_5 v0_6 f1) sz) := by
  refine Met.ofW (cc := b_Grammar_sizeOf) (maxL := 2) (ret := some .int) (by decide) rfl ?_
  intro p e s m args below meth c s₁ B hml hv
  obtain ⟨rfl, hsz, hP, hK, hD0⟩ := hv
  have hx := B.exec
  have hb := B.bytes
  have hr := B.returns
  have hts := atoms_spec (ws := w_Grammar_sizeOf) B.pre
  have hown : s.vm.findClass R_Grammar = some m.cls := findClass_of_methodNamed B.named
  have hg := fun (w : Cond) (h : w ∈ gw) => hts w (List.mem_cons_of_mem _ h)
  have hlocks := B.notSynchronized
  subst hsz
  have hD := hD0.self (sz := s.heap.size)
  generalize hAe : va_A (wd_Grammar_sizeOf kA a0 a1 v0_0 v0_2 v0_3 v0_4 v0_5 v0_6 f1) s.heap.size = A at hD ⊢
  have hA : ∀ q : Nat, s.heap.size ≤ q → A q := fun q h => by rw [← hAe]; exact Or.inr h
  have hS : va_S A s.heap s.heap [] := va_S.rf
  have hl := lv_entry ([.ref a0, .int p1]) (n := 2) (Nat.le_of_ble_eq_true rfl)
  rw [lg_entry_eq]
  generalize (lg_sl ([.ref a0, .int p1]) ++ List.replicate (2 - (lg_sl ([.ref a0, .int p1])).length) Slot.unset).toArray = ls at hl ⊢
  have hl : lv_has ls 2 [(0, .ref a0), (1, .int p1)] := hl
  unfold S_Grammar_sizeOf at hF
  refine lv_iload_n hx hb d_Grammar_sizeOf_0 rfl (lv_at hl 1 rfl) ?_
  refine lv_if_lt (tgt := 19) hx hb d_Grammar_sizeOf_1 (by decide) (fun c_1 => ?_) (fun c_1 => ?_)
  · rw [if_pos c_1] at hF
    refine lv_iconst (v := 0) hx hb d_Grammar_sizeOf_19 (by decide) ?_
    have e0 := Option.some.inj hF
    exact W.iret (v := 0) hx hb hr (fun t ht hW => ⟨⟨0, (), rfl, e0, by rw [ht]; exact hP, va_K.moved hW.alike hK, (by exact hD)⟩, hS.F ht⟩) hS.2.2 d_Grammar_sizeOf_20 hlocks
  · rw [if_neg c_1] at hF
    refine lv_iload_n hx hb d_Grammar_sizeOf_4 rfl (lv_at hl 1 rfl) ?_
    refine lv_bipush (v := 12) hx hb d_Grammar_sizeOf_5 (by decide) ?_
    refine lv_icmp_ge (tgt := 19) hx hb d_Grammar_sizeOf_7 (by decide) (fun c_2 => ?_) (fun c_2 => ?_)
    · rw [if_pos c_2] at hF
      refine lv_iconst (v := 0) hx hb d_Grammar_sizeOf_19 (by decide) ?_
      have e0 := Option.some.inj hF
      exact W.iret (v := 0) hx hb hr (fun t ht hW => ⟨⟨0, (), rfl, e0, by rw [ht]; exact hP, va_K.moved hW.alike hK, (by exact hD)⟩, hS.F ht⟩) hS.2.2 d_Grammar_sizeOf_20 hlocks
    · rw [if_neg c_2] at hF
      refine lv_aload_n hx hb d_Grammar_sizeOf_10 rfl (lv_at hl 0 rfl) ?_
      refine va_get (D := (dC, dI)) (ci := 2) (v := .ref a1) (C := R_Grammar) (T := F_Grammar) (N := 7) hx hb hg iw_Grammar hown hK hP 0 rfl rfl 1 (by decide) (hg _ gw_24) (fun _ h9 => h9) rfl d_Grammar_sizeOf_11 ?_
      refine lv_iload_n hx hb d_Grammar_sizeOf_14 rfl (lv_at hl 1 rfl) ?_
      obtain ⟨h_3, hF⟩ := rd_chk hF
      refine va_iald hx hb hK hP 1 0 rfl rfl h_3 d_Grammar_sizeOf_15 ?_
      refine lv_goto (tgt := 20) hx hb d_Grammar_sizeOf_16 (by decide) ?_
      have e0 := Option.some.inj hF
      exact W.iret (v := (f1 (Int32.toNatClampNeg p1))) hx hb hr (fun t ht hW => ⟨⟨(f1 (Int32.toNatClampNeg p1)), (), rfl, e0, by rw [ht]; exact hP, va_K.moved hW.alike hK, (by exact hD)⟩, hS.F ht⟩) hS.2.2 d_Grammar_sizeOf_20 hlocks
-- ===== RepairDesk$Grammar.symbolAt(II)I
abbrev wd_Grammar_symbolAt (kA : Nat → ClassId) (a0 a1 a2 : Nat) (v0_0 v0_3 v0_4 v0_5 v0_6 : Value) (f1 : (Nat → Int32)) (f2 : (Nat → Int32)) : va_W := [(a0, .inr (2, [v0_0, .ref a2, .ref a1, v0_3, v0_4, v0_5, v0_6])), (a1, .inl (kA 0, 48, .inl f1)), (a2, .inl (kA 0, 12, .inl f2))]
abbrev rm_Grammar_symbolAt : Room := { frames := 1, cells := 0, slots := 0, locals := 21 }
def S_Grammar_symbolAt (p1 : Int32) (p2 : Int32) (f1 : (Nat → Int32)) (f2 : (Nat → Int32)) : Option (Int32) := (if p2 < 0 then (some (-1)) else ((S_Grammar_sizeOf p1 f2).bind fun u_2 => (if p2 < u_2 then (if (((p1 * 4) + p2) : Int32) < 0 ∨ 48 ≤ (Int32.toNatClampNeg ((p1 * 4) + p2)) then none else (some (f1 (Int32.toNatClampNeg ((p1 * 4) + p2))))) else (some (-1)))))
set_option maxHeartbeats 4000000 in
set_option maxRecDepth 100000 in
theorem c_Grammar_symbolAt (l : Launch) (dC : Nat → ClassId) (dI : Nat → Nat → Nat) (kA : Nat → ClassId) (sz : Nat) (a0 a1 a2 : Nat) (v0_0 v0_3 v0_4 v0_5 v0_6 : Value) (p1 : Int32) (p2 : Int32) (f1 : (Nat → Int32)) (f2 : (Nat → Int32)) (r : Int32) (hF : S_Grammar_symbolAt p1 p2 f1 f2 = some r) : Met l y_Grammar_symbolAt w_Grammar_symbolAt rm_Grammar_symbolAt (va_Pc [.ref a0, .int p1, .int p2] (fun U => U.heap.size = sz ∧ va_P (dC, dI) classes (wd_Grammar_symbolAt kA a0 a1 a2 v0_0 v0_3 v0_4 v0_5 v0_6 f1 f2) U.heap ∧ va_K (dC, dI) classes (tys_ kA) U ∧ va_D (fun _ => True) (wd_Grammar_symbolAt kA a0 a1 a2 v0_0 v0_3 v0_4 v0_5 v0_6 f1 f2))) (va_Qi (fun (r1 : Int32) (_ : Unit) => r1 = r) (fun _ t => va_P (dC, dI) classes (wd_Grammar_symbolAt kA a0 a1 a2 v0_0 v0_3 v0_4 v0_5 v0_6 f1 f2) t.heap ∧ va_K (dC, dI) classes (tys_ kA) t ∧ va_D (va_A (wd_Grammar_symbolAt kA a0 a1 a2 v0_0 v0_3 v0_4 v0_5 v0_6 f1 f2) sz) (wd_Grammar_symbolAt kA a0 a1 a2 v0_0 v0_3 v0_4 v0_5 v0_6 f1 f2)) (va_A (wd_Grammar_symbolAt kA a0 a1 a2 v0_0 v0_3 v0_4 v0_5 v0_6 f1 f2) sz)) 0 0 (va_A (wd_Grammar_symbolAt kA a0 a1 a2 v0_0 v0_3 v0_4 v0_5 v0_6 f1 f2) sz) := by
  refine Met.ofW (cc := b_Grammar_symbolAt) (maxL := 3) (ret := some .int) (by decide) rfl ?_
  intro p e s m args below meth c s₁ B hml hv
  obtain ⟨rfl, hsz, hP, hK, hD0⟩ := hv
  have hx := B.exec
  have hb := B.bytes
  have hr := B.returns
  have hts := atoms_spec (ws := w_Grammar_symbolAt) B.pre
  have hown : s.vm.findClass R_Grammar = some m.cls := findClass_of_methodNamed B.named
  have hg := fun (w : Cond) (h : w ∈ gw) => hts w (List.mem_cons_of_mem _ h)
  have hlocks := B.notSynchronized
  subst hsz
  have hD := hD0.self (sz := s.heap.size)
  generalize hAe : va_A (wd_Grammar_symbolAt kA a0 a1 a2 v0_0 v0_3 v0_4 v0_5 v0_6 f1 f2) s.heap.size = A at hD ⊢
  have hA : ∀ q : Nat, s.heap.size ≤ q → A q := fun q h => by rw [← hAe]; exact Or.inr h
  have hS : va_S A s.heap s.heap [] := va_S.rf
  have hl := lv_entry ([.ref a0, .int p1, .int p2]) (n := 3) (Nat.le_of_ble_eq_true rfl)
  rw [lg_entry_eq]
  generalize (lg_sl ([.ref a0, .int p1, .int p2]) ++ List.replicate (3 - (lg_sl ([.ref a0, .int p1, .int p2])).length) Slot.unset).toArray = ls at hl ⊢
  have hl : lv_has ls 3 [(0, .ref a0), (1, .int p1), (2, .int p2)] := hl
  unfold S_Grammar_symbolAt at hF
  refine lv_iload_n hx hb d_Grammar_symbolAt_0 rfl (lv_at hl 2 rfl) ?_
  refine lv_if_lt (tgt := 13) hx hb d_Grammar_symbolAt_1 (by decide) (fun c_1 => ?_) (fun c_1 => ?_)
  · rw [if_pos c_1] at hF
    refine lv_iconst (v := (-1)) hx hb d_Grammar_symbolAt_13 (by decide) ?_
    have e0 := Option.some.inj hF
    exact W.iret (v := (-1)) hx hb hr (fun t ht hW => ⟨⟨(-1), (), rfl, e0, by rw [ht]; exact hP, va_K.moved hW.alike hK, (by exact hD)⟩, hS.F ht⟩) hS.2.2 d_Grammar_symbolAt_14 hlocks
  · rw [if_neg c_1] at hF
    refine lv_iload_n hx hb d_Grammar_symbolAt_4 rfl (lv_at hl 2 rfl) ?_
    refine lv_aload_n hx hb d_Grammar_symbolAt_5 rfl (lv_at hl 0 rfl) ?_
    refine lv_iload_n hx hb d_Grammar_symbolAt_6 rfl (lv_at hl 1 rfl) ?_
    obtain ⟨u_2, hS_2, hF⟩ := rd_bind hF
    have hPc := hP.sub (ws' := (wd_Grammar_sizeOf kA a0 a2 v0_0 (.ref a1) v0_3 v0_4 v0_5 v0_6 f2)) [0, 2] rfl
    have hDc := hD.sub (ws' := (wd_Grammar_sizeOf kA a0 a2 v0_0 (.ref a1) v0_3 v0_4 v0_5 v0_6 f2)) [0, 2] (by decide) rfl
    have hFc := va_free (wc := (wd_Grammar_sizeOf kA a0 a2 v0_0 (.ref a1) v0_3 v0_4 v0_5 v0_6 f2)) hD hS hA [0, 2] rfl
    refine va_calli (va_runV (As := [.int p1]) (rest := [.int p2]) ⟨hx, hb, hml, hown, hts⟩ (c_Grammar_sizeOf l dC dI kA s.heap.size a0 a2 v0_0 (.ref a1) v0_3 v0_4 v0_5 v0_6 p1 f2 u_2 hS_2) (cwV 1 hts (gw_V gw_54 gw_55 gw_56 gw_42 gw_57) rfl rfl rfl (by decide +kernel) ⟨Nat.le_of_ble_eq_true rfl, Nat.le_of_ble_eq_true rfl⟩) ⟨fun a U g mk q => by obtain ⟨q0, q1, qP, qK, qD⟩ := q; exact ⟨q0, q1, qP, va_K.moved (u := U) (U := U.calling g mk a) (Vm.Alike.refl U.vm) qK, qD⟩, va_recv hK hP (ci := 2) (q0 := 0) rfl rfl, fun U hU hW => ⟨rfl, by rw [hU], by rw [hU]; exact hPc, va_K.moved hW.alike hK, hDc.weaken (fun _ _ _ _ => trivial)⟩⟩ rfl rfl hl.1 rfl (lv_room (Nat.le_of_ble_eq_true rfl)) d_Grammar_symbolAt_7 ⟨Nat.zero_le _, Nat.zero_le _⟩) hS (fun q _ h => hFc q h) hFc (fun r1 u t H1 locs ht hvm hw hB hz1 hk1 hS => ?_)
    rw [show r1 = _ from hw]
    obtain ⟨hP1, hK1, hD1⟩ := hB
    rw [ht] at hP1
    obtain ⟨hP, hD⟩ := va_join (wr := [(a1, .inl (kA 0, 48, .inl f1))]) (w1 := (wd_Grammar_sizeOf kA a0 a2 v0_0 (.ref a1) v0_3 v0_4 v0_5 v0_6 f2)) hP hD [0, 2] [1] rfl rfl (by decide) (by decide) hk1 hFc hP1 hD1
    have hP := hP.sub (ws' := (wd_Grammar_symbolAt kA a0 a1 a2 v0_0 v0_3 v0_4 v0_5 v0_6 f1 f2)) [1, 0, 2] rfl
    have hD := hD.sub (ws' := (wd_Grammar_symbolAt kA a0 a1 a2 v0_0 v0_3 v0_4 v0_5 v0_6 f1 f2)) [1, 0, 2] (by decide) rfl
    clear hPc hDc hFc hP1 hK1 hD1
    generalize H1 = H at hP hS ⊢
    refine lv_icmp_lt (tgt := 15) hx hb d_Grammar_symbolAt_10 (by decide) (fun c_3 => ?_) (fun c_3 => ?_)
    · rw [if_pos c_3] at hF
      refine lv_aload_n hx hb d_Grammar_symbolAt_15 rfl (lv_at hl 0 rfl) ?_
      refine va_get (D := (dC, dI)) (ci := 2) (v := .ref a1) (C := R_Grammar) (T := F_Grammar) (N := 7) hx hb hg iw_Grammar hown hK hP 0 rfl rfl 2 (by decide) (hg _ gw_30) (fun _ h9 => h9) rfl d_Grammar_symbolAt_16 ?_
      refine lv_iload_n hx hb d_Grammar_symbolAt_19 rfl (lv_at hl 1 rfl) ?_
      refine lv_iconst (v := 4) hx hb d_Grammar_symbolAt_20 (by decide) ?_
      refine lv_imul hx hb d_Grammar_symbolAt_21 ?_
      refine lv_iload_n hx hb d_Grammar_symbolAt_22 rfl (lv_at hl 2 rfl) ?_
      refine lv_iadd hx hb d_Grammar_symbolAt_23 ?_
      obtain ⟨h_4, hF⟩ := rd_chk hF
      refine va_iald hx hb hK hP 1 0 rfl rfl h_4 d_Grammar_symbolAt_24 ?_
      have e0 := Option.some.inj hF
      exact W.iret (v := (f1 (Int32.toNatClampNeg ((p1 * 4) + p2)))) hx hb hr (fun t ht hW => ⟨⟨(f1 (Int32.toNatClampNeg ((p1 * 4) + p2))), (), rfl, e0, by rw [ht]; exact hP, va_K.moved hW.alike hK, (by exact hD)⟩, hS.F ht⟩) hS.2.2 d_Grammar_symbolAt_25 hlocks
    · rw [if_neg c_3] at hF
      refine lv_iconst (v := (-1)) hx hb d_Grammar_symbolAt_13 (by decide) ?_
      have e0 := Option.some.inj hF
      exact W.iret (v := (-1)) hx hb hr (fun t ht hW => ⟨⟨(-1), (), rfl, e0, by rw [ht]; exact hP, va_K.moved hW.alike hK, (by exact hD)⟩, hS.F ht⟩) hS.2.2 d_Grammar_symbolAt_14 hlocks
-- ===== RepairDesk$Grammar.beginnings(II)I
abbrev wd_Grammar_beginnings (kA : Nat → ClassId) (a0 a1 a2 a3 : Nat) (v0_0 v0_3 v0_4 v0_6 : Value) (f1 : (Nat → Int32)) (f2 : (Nat → Int32)) (f3 : (Nat → Int32)) : va_W := [(a0, .inr (2, [v0_0, .ref a3, .ref a2, v0_3, v0_4, .ref a1, v0_6])), (a1, .inl (kA 0, 6, .inl f1)), (a2, .inl (kA 0, 48, .inl f2)), (a3, .inl (kA 0, 12, .inl f3))]
abbrev rm_Grammar_beginnings : Room := { frames := 2, cells := 0, slots := 0, locals := 43 }
def B_Grammar_beginnings_0 (K : Nat → Int32 → Int32 → Int32 → Int32 → Option (Int32)) (f1 : (Nat → Int32)) (f2 : (Nat → Int32)) (f3 : (Nat → Int32)) (l1 : Int32) (l2 : Int32) (l3 : Int32) (l4 : Int32)  : Option (Int32) := ((S_Grammar_sizeOf l1 f3).bind fun u_1 => (if u_1 ≤ l4 then (some l3) else (if (l3 &&& 64) = 0 then (some l3) else ((S_Grammar_symbolAt l1 l4 f2 f3).bind fun u_4 => (if u_4 < 6 then (if u_4 < 0 then (K 0 l1 l2 (l3 &&& (-65)) (l4 + 1)) else (K 0 l1 l2 ((l3 &&& (-65)) ||| ((1 : Int32) <<< ((u_4 : Int32) &&& 31))) (l4 + 1))) else (if ((u_4 - 6) : Int32) < 0 ∨ 6 ≤ (Int32.toNatClampNeg (u_4 - 6)) then none else (K 0 l1 l2 ((l3 &&& (-65)) ||| (f1 (Int32.toNatClampNeg (u_4 - 6)))) (l4 + 1))))))))
def F_Grammar_beginnings (f1 : (Nat → Int32)) (f2 : (Nat → Int32)) (f3 : (Nat → Int32)) : Nat → Nat → Int32 → Int32 → Int32 → Int32 → Option (Int32)
  | 0 => fun _ _ _ _ _ => none
  | n + 1 => fun hd l1 l2 l3 l4 => match hd with
    | 0 => B_Grammar_beginnings_0 (F_Grammar_beginnings f1 f2 f3 n) f1 f2 f3 l1 l2 l3 l4
    | _ => none
set_option maxHeartbeats 4000000 in
set_option maxRecDepth 100000 in
theorem L_Grammar_beginnings {p : Program} {l : Launch} {e : Env} {s : State} {m : MethodId} {args : Array Value} {below : List Frame} {meth : Method} {c : Code} {A : Nat → Prop} {dC : Nat → ClassId} {dI : Nat → Nat → Nat} {kA : Nat → ClassId} (hx : p.tables.exec = Jvm.exec) (hb : c.code = b_Grammar_beginnings) (hr : meth.sig.returnType = some .int) (hlocks : meth.locks = false) (hml : c.maxLocals = 6) (hown : s.vm.findClass R_Grammar = some m.cls) (hts : ∀ w ∈ w_Grammar_beginnings, w.before args s = true) (hA : ∀ q : Nat, s.heap.size ≤ q → A q) (hK : va_K (dC, dI) classes (tys_ kA) s) (a0 a1 a2 a3 : Nat) (v0_0 v0_3 v0_4 v0_6 : Value) (f1 : (Nat → Int32)) (f2 : (Nat → Int32)) (f3 : (Nat → Int32)) (r : Int32) : ∀ n : Nat, (∀ (l1 l2 l3 l4 : Int32), F_Grammar_beginnings f1 f2 f3 n 0 l1 l2 l3 l4 = some r → ∀ (H : Heap) (locs : List Loc) (ls : Array Slot), va_P (dC, dI) classes (wd_Grammar_beginnings kA a0 a1 a2 a3 v0_0 v0_3 v0_4 v0_6 f1 f2 f3) H → va_D A (wd_Grammar_beginnings kA a0 a1 a2 a3 v0_0 v0_3 v0_4 v0_6 f1 f2 f3) → va_S A s.heap H locs → lv_has ls 6 [(0, .ref a0), (1, .int l1), (2, .int l2), (3, .int l3), (4, .int l4)] → W p l e (headSpec w_Grammar_beginnings rm_Grammar_beginnings).room s m args below meth c H locs 0 0 (MQ below (va_Qi (fun (r1 : Int32) (_ : Unit) => r1 = r) (fun _ t => va_P (dC, dI) classes (wd_Grammar_beginnings kA a0 a1 a2 a3 v0_0 v0_3 v0_4 v0_6 f1 f2 f3) t.heap ∧ va_K (dC, dI) classes (tys_ kA) t ∧ va_D A (wd_Grammar_beginnings kA a0 a1 a2 a3 v0_0 v0_3 v0_4 v0_6 f1 f2 f3)) A) args s 0 0 A) (F0 m 6 ls [])) := by
  have hg := fun (w : Cond) (h : w ∈ gw) => hts w (List.mem_cons_of_mem _ h)
  intro n
  induction n with
  | zero =>
    exact fun _ _ _ _ hF => absurd (show (none : Option _) = some _ from hF) (fun z => by cases z)
  | succ n ih =>
    intro l1 l2 l3 l4 hF H locs ls hP hD hS hl
    have hF : B_Grammar_beginnings_0 (F_Grammar_beginnings f1 f2 f3 n) f1 f2 f3 l1 l2 l3 l4 = some r := hF
    unfold B_Grammar_beginnings_0 at hF
    refine lv_iload hx hb d_Grammar_beginnings_6 (lv_at hl 4 rfl) ?_
    refine lv_aload_n hx hb d_Grammar_beginnings_8 rfl (lv_at hl 0 rfl) ?_
    refine lv_iload_n hx hb d_Grammar_beginnings_9 rfl (lv_at hl 1 rfl) ?_
    obtain ⟨u_1, hS_1, hF⟩ := rd_bind hF
    have hPc := hP.sub (ws' := (wd_Grammar_sizeOf kA a0 a3 v0_0 (.ref a2) v0_3 v0_4 (.ref a1) v0_6 f3)) [0, 3] rfl
    have hDc := hD.sub (ws' := (wd_Grammar_sizeOf kA a0 a3 v0_0 (.ref a2) v0_3 v0_4 (.ref a1) v0_6 f3)) [0, 3] (by decide) rfl
    have hFc := va_free (wc := (wd_Grammar_sizeOf kA a0 a3 v0_0 (.ref a2) v0_3 v0_4 (.ref a1) v0_6 f3)) hD hS hA [0, 3] rfl
    refine va_calli (va_runV (As := [.int l1]) (rest := [.int l4]) ⟨hx, hb, hml, hown, hts⟩ (c_Grammar_sizeOf l dC dI kA H.size a0 a3 v0_0 (.ref a2) v0_3 v0_4 (.ref a1) v0_6 l1 f3 u_1 hS_1) (cwV 1 hts (gw_V gw_54 gw_55 gw_56 gw_42 gw_57) rfl rfl rfl (by decide +kernel) ⟨Nat.le_of_ble_eq_true rfl, Nat.le_of_ble_eq_true rfl⟩) ⟨fun a U g mk q => by obtain ⟨q0, q1, qP, qK, qD⟩ := q; exact ⟨q0, q1, qP, va_K.moved (u := U) (U := U.calling g mk a) (Vm.Alike.refl U.vm) qK, qD⟩, va_recv hK hP (ci := 2) (q0 := 0) rfl rfl, fun U hU hW => ⟨rfl, by rw [hU], by rw [hU]; exact hPc, va_K.moved hW.alike hK, hDc.weaken (fun _ _ _ _ => trivial)⟩⟩ rfl rfl hl.1 rfl (lv_room (Nat.le_of_ble_eq_true rfl)) d_Grammar_beginnings_10 ⟨Nat.zero_le _, Nat.zero_le _⟩) hS (fun q _ h => hFc q h) hFc (fun r1 u t H1 locs ht hvm hw hB hz1 hk1 hS => ?_)
    rw [show r1 = _ from hw]
    obtain ⟨hP1, hK1, hD1⟩ := hB
    rw [ht] at hP1
    obtain ⟨hP, hD⟩ := va_join (wr := [(a1, .inl (kA 0, 6, .inl f1)), (a2, .inl (kA 0, 48, .inl f2))]) (w1 := (wd_Grammar_sizeOf kA a0 a3 v0_0 (.ref a2) v0_3 v0_4 (.ref a1) v0_6 f3)) hP hD [0, 3] [1, 2] rfl rfl (by decide) (by decide) hk1 hFc hP1 hD1
    have hP := hP.sub (ws' := (wd_Grammar_beginnings kA a0 a1 a2 a3 v0_0 v0_3 v0_4 v0_6 f1 f2 f3)) [2, 0, 1, 3] rfl
    have hD := hD.sub (ws' := (wd_Grammar_beginnings kA a0 a1 a2 a3 v0_0 v0_3 v0_4 v0_6 f1 f2 f3)) [2, 0, 1, 3] (by decide) rfl
    clear hPc hDc hFc hP1 hK1 hD1
    generalize H1 = H at hP hS ⊢
    refine lv_icmp_ge (tgt := 78) hx hb d_Grammar_beginnings_13 (by decide) (fun c_2 => ?_) (fun c_2 => ?_)
    · rw [if_pos c_2] at hF
      refine lv_iload_n hx hb d_Grammar_beginnings_78 rfl (lv_at hl 3 rfl) ?_
      have e0 := Option.some.inj hF
      exact W.iret (v := l3) hx hb hr (fun t ht hW => ⟨⟨l3, (), rfl, e0, by rw [ht]; exact hP, va_K.moved hW.alike hK, (by exact hD)⟩, hS.F ht⟩) hS.2.2 d_Grammar_beginnings_79 hlocks
    · rw [if_neg c_2] at hF
      refine lv_iload_n hx hb d_Grammar_beginnings_16 rfl (lv_at hl 3 rfl) ?_
      refine lv_bipush (v := 64) hx hb d_Grammar_beginnings_17 (by decide) ?_
      refine lv_iand hx hb d_Grammar_beginnings_19 ?_
      refine lv_if_eq (tgt := 78) hx hb d_Grammar_beginnings_20 (by decide) (fun c_3 => ?_) (fun c_3 => ?_)
      · rw [if_pos c_3] at hF
        refine lv_iload_n hx hb d_Grammar_beginnings_78 rfl (lv_at hl 3 rfl) ?_
        have e0 := Option.some.inj hF
        exact W.iret (v := l3) hx hb hr (fun t ht hW => ⟨⟨l3, (), rfl, e0, by rw [ht]; exact hP, va_K.moved hW.alike hK, (by exact hD)⟩, hS.F ht⟩) hS.2.2 d_Grammar_beginnings_79 hlocks
      · rw [if_neg c_3] at hF
        refine lv_aload_n hx hb d_Grammar_beginnings_23 rfl (lv_at hl 0 rfl) ?_
        refine lv_iload_n hx hb d_Grammar_beginnings_24 rfl (lv_at hl 1 rfl) ?_
        refine lv_iload hx hb d_Grammar_beginnings_25 (lv_at hl 4 rfl) ?_
        obtain ⟨u_4, hS_4, hF⟩ := rd_bind hF
        have hPc := hP.sub (ws' := (wd_Grammar_symbolAt kA a0 a2 a3 v0_0 v0_3 v0_4 (.ref a1) v0_6 f2 f3)) [0, 2, 3] rfl
        have hDc := hD.sub (ws' := (wd_Grammar_symbolAt kA a0 a2 a3 v0_0 v0_3 v0_4 (.ref a1) v0_6 f2 f3)) [0, 2, 3] (by decide) rfl
        have hFc := va_free (wc := (wd_Grammar_symbolAt kA a0 a2 a3 v0_0 v0_3 v0_4 (.ref a1) v0_6 f2 f3)) hD hS hA [0, 2, 3] rfl
        refine va_calli (va_runV (As := [.int l1, .int l4]) (rest := []) ⟨hx, hb, hml, hown, hts⟩ (c_Grammar_symbolAt l dC dI kA H.size a0 a2 a3 v0_0 v0_3 v0_4 (.ref a1) v0_6 l1 l4 f2 f3 u_4 hS_4) (cwV 2 hts (gw_V gw_58 gw_59 gw_60 gw_42 gw_61) rfl rfl rfl (by decide +kernel) ⟨Nat.le_of_ble_eq_true rfl, Nat.le_of_ble_eq_true rfl⟩) ⟨fun a U g mk q => by obtain ⟨q0, q1, qP, qK, qD⟩ := q; exact ⟨q0, q1, qP, va_K.moved (u := U) (U := U.calling g mk a) (Vm.Alike.refl U.vm) qK, qD⟩, va_recv hK hP (ci := 2) (q0 := 0) rfl rfl, fun U hU hW => ⟨rfl, by rw [hU], by rw [hU]; exact hPc, va_K.moved hW.alike hK, hDc.weaken (fun _ _ _ _ => trivial)⟩⟩ rfl rfl hl.1 rfl (lv_room (Nat.le_of_ble_eq_true rfl)) d_Grammar_beginnings_27 ⟨Nat.zero_le _, Nat.zero_le _⟩) hS (fun q _ h => hFc q h) hFc (fun r1 u t H1 locs ht hvm hw hB hz1 hk1 hS => ?_)
        rw [show r1 = _ from hw]
        obtain ⟨hP1, hK1, hD1⟩ := hB
        rw [ht] at hP1
        obtain ⟨hP, hD⟩ := va_join (wr := [(a1, .inl (kA 0, 6, .inl f1))]) (w1 := (wd_Grammar_symbolAt kA a0 a2 a3 v0_0 v0_3 v0_4 (.ref a1) v0_6 f2 f3)) hP hD [0, 2, 3] [1] rfl rfl (by decide) (by decide) hk1 hFc hP1 hD1
        have hP := hP.sub (ws' := (wd_Grammar_beginnings kA a0 a1 a2 a3 v0_0 v0_3 v0_4 v0_6 f1 f2 f3)) [1, 0, 2, 3] rfl
        have hD := hD.sub (ws' := (wd_Grammar_beginnings kA a0 a1 a2 a3 v0_0 v0_3 v0_4 v0_6 f1 f2 f3)) [1, 0, 2, 3] (by decide) rfl
        clear hPc hDc hFc hP1 hK1 hD1
        generalize H1 = H at hP hS ⊢
        refine lv_istore (lv' := [(5, .int u_4), (0, .ref a0), (1, .int l1), (2, .int l2), (3, .int l3), (4, .int l4)]) hx hb d_Grammar_beginnings_30 hl (by decide) rfl (fun ls hl => ?_)
        refine lv_iload_n hx hb d_Grammar_beginnings_32 rfl (lv_at hl 4 rfl) ?_
        refine lv_bipush (v := (-65)) hx hb d_Grammar_beginnings_33 (by decide) ?_
        refine lv_iand hx hb d_Grammar_beginnings_35 ?_
        refine lv_istore_n (lv' := [(3, .int (l3 &&& (-65))), (5, .int u_4), (0, .ref a0), (1, .int l1), (2, .int l2), (4, .int l4)]) hx hb d_Grammar_beginnings_36 rfl hl (by decide) rfl (fun ls hl => ?_)
        refine lv_iload hx hb d_Grammar_beginnings_37 (lv_at hl 1 rfl) ?_
        refine lv_bipush (v := 6) hx hb d_Grammar_beginnings_39 (by decide) ?_
        refine lv_icmp_lt (tgt := 60) hx hb d_Grammar_beginnings_41 (by decide) (fun c_5 => ?_) (fun c_5 => ?_)
        · rw [if_pos c_5] at hF
          refine lv_iload hx hb d_Grammar_beginnings_60 (lv_at hl 1 rfl) ?_
          refine lv_if_lt (tgt := 72) hx hb d_Grammar_beginnings_62 (by decide) (fun c_6 => ?_) (fun c_6 => ?_)
          · rw [if_pos c_6] at hF
            refine lv_iinc (v := (l4 + 1)) (lv' := [(4, .int (l4 + 1)), (3, .int (l3 &&& (-65))), (5, .int u_4), (0, .ref a0), (1, .int l1), (2, .int l2)]) hx hb d_Grammar_beginnings_72 hl (k := 5) rfl (by rfl) (by decide) rfl (fun ls hl => ?_)
            refine lv_goto (tgt := 6) hx hb d_Grammar_beginnings_75 (by decide) ?_
            exact ih l1 l2 (l3 &&& (-65)) (l4 + 1) hF _ _ _ hP hD hS (lv_sub hl [3, 4, 5, 1, 0] rfl)
          · rw [if_neg c_6] at hF
            refine lv_iload_n hx hb d_Grammar_beginnings_65 rfl (lv_at hl 0 rfl) ?_
            refine lv_iconst (v := 1) hx hb d_Grammar_beginnings_66 (by decide) ?_
            refine lv_iload hx hb d_Grammar_beginnings_67 (lv_at hl 1 rfl) ?_
            refine lv_ishl hx hb d_Grammar_beginnings_69 ?_
            refine lv_ior hx hb d_Grammar_beginnings_70 ?_
            refine lv_istore_n (lv' := [(3, .int ((l3 &&& (-65)) ||| ((1 : Int32) <<< ((u_4 : Int32) &&& 31)))), (5, .int u_4), (0, .ref a0), (1, .int l1), (2, .int l2), (4, .int l4)]) hx hb d_Grammar_beginnings_71 rfl hl (by decide) rfl (fun ls hl => ?_)
            refine lv_iinc (v := (l4 + 1)) (lv' := [(4, .int (l4 + 1)), (3, .int ((l3 &&& (-65)) ||| ((1 : Int32) <<< ((u_4 : Int32) &&& 31)))), (5, .int u_4), (0, .ref a0), (1, .int l1), (2, .int l2)]) hx hb d_Grammar_beginnings_72 hl (k := 5) rfl (by rfl) (by decide) rfl (fun ls hl => ?_)
            refine lv_goto (tgt := 6) hx hb d_Grammar_beginnings_75 (by decide) ?_
            exact ih l1 l2 ((l3 &&& (-65)) ||| ((1 : Int32) <<< ((u_4 : Int32) &&& 31))) (l4 + 1) hF _ _ _ hP hD hS (lv_sub hl [3, 4, 5, 1, 0] rfl)
        · rw [if_neg c_5] at hF
          refine lv_iload_n hx hb d_Grammar_beginnings_44 rfl (lv_at hl 0 rfl) ?_
          refine lv_aload_n hx hb d_Grammar_beginnings_45 rfl (lv_at hl 2 rfl) ?_
          refine va_get (D := (dC, dI)) (ci := 2) (v := .ref a1) (C := R_Grammar) (T := F_Grammar) (N := 7) hx hb hg iw_Grammar hown hK hP 0 rfl rfl 5 (by decide) (hg _ gw_62) (fun _ h9 => h9) rfl d_Grammar_beginnings_46 ?_
          refine lv_iload hx hb d_Grammar_beginnings_49 (lv_at hl 1 rfl) ?_
          refine lv_bipush (v := 6) hx hb d_Grammar_beginnings_51 (by decide) ?_
          refine lv_isub hx hb d_Grammar_beginnings_53 ?_
          obtain ⟨h_7, hF⟩ := rd_chk hF
          refine va_iald hx hb hK hP 1 0 rfl rfl h_7 d_Grammar_beginnings_54 ?_
          refine lv_ior hx hb d_Grammar_beginnings_55 ?_
          refine lv_istore_n (lv' := [(3, .int ((l3 &&& (-65)) ||| (f1 (Int32.toNatClampNeg (u_4 - 6))))), (5, .int u_4), (0, .ref a0), (1, .int l1), (2, .int l2), (4, .int l4)]) hx hb d_Grammar_beginnings_56 rfl hl (by decide) rfl (fun ls hl => ?_)
          refine lv_goto (tgt := 72) hx hb d_Grammar_beginnings_57 (by decide) ?_
          refine lv_iinc (v := (l4 + 1)) (lv' := [(4, .int (l4 + 1)), (3, .int ((l3 &&& (-65)) ||| (f1 (Int32.toNatClampNeg (u_4 - 6))))), (5, .int u_4), (0, .ref a0), (1, .int l1), (2, .int l2)]) hx hb d_Grammar_beginnings_72 hl (k := 5) rfl (by rfl) (by decide) rfl (fun ls hl => ?_)
          refine lv_goto (tgt := 6) hx hb d_Grammar_beginnings_75 (by decide) ?_
          exact ih l1 l2 ((l3 &&& (-65)) ||| (f1 (Int32.toNatClampNeg (u_4 - 6)))) (l4 + 1) hF _ _ _ hP hD hS (lv_sub hl [3, 4, 5, 1, 0] rfl)
def S_Grammar_beginnings (p1 : Int32) (p2 : Int32) (f1 : (Nat → Int32)) (f2 : (Nat → Int32)) (f3 : (Nat → Int32)) : Option (Int32) := (F_Grammar_beginnings f1 f2 f3 fuel_ 0 p1 p2 64 p2)
set_option maxHeartbeats 4000000 in
set_option maxRecDepth 100000 in
theorem c_Grammar_beginnings (l : Launch) (dC : Nat → ClassId) (dI : Nat → Nat → Nat) (kA : Nat → ClassId) (sz : Nat) (a0 a1 a2 a3 : Nat) (v0_0 v0_3 v0_4 v0_6 : Value) (p1 : Int32) (p2 : Int32) (f1 : (Nat → Int32)) (f2 : (Nat → Int32)) (f3 : (Nat → Int32)) (r : Int32) (hF : S_Grammar_beginnings p1 p2 f1 f2 f3 = some r) : Met l y_Grammar_beginnings w_Grammar_beginnings rm_Grammar_beginnings (va_Pc [.ref a0, .int p1, .int p2] (fun U => U.heap.size = sz ∧ va_P (dC, dI) classes (wd_Grammar_beginnings kA a0 a1 a2 a3 v0_0 v0_3 v0_4 v0_6 f1 f2 f3) U.heap ∧ va_K (dC, dI) classes (tys_ kA) U ∧ va_D (fun _ => True) (wd_Grammar_beginnings kA a0 a1 a2 a3 v0_0 v0_3 v0_4 v0_6 f1 f2 f3))) (va_Qi (fun (r1 : Int32) (_ : Unit) => r1 = r) (fun _ t => va_P (dC, dI) classes (wd_Grammar_beginnings kA a0 a1 a2 a3 v0_0 v0_3 v0_4 v0_6 f1 f2 f3) t.heap ∧ va_K (dC, dI) classes (tys_ kA) t ∧ va_D (va_A (wd_Grammar_beginnings kA a0 a1 a2 a3 v0_0 v0_3 v0_4 v0_6 f1 f2 f3) sz) (wd_Grammar_beginnings kA a0 a1 a2 a3 v0_0 v0_3 v0_4 v0_6 f1 f2 f3)) (va_A (wd_Grammar_beginnings kA a0 a1 a2 a3 v0_0 v0_3 v0_4 v0_6 f1 f2 f3) sz)) 0 0 (va_A (wd_Grammar_beginnings kA a0 a1 a2 a3 v0_0 v0_3 v0_4 v0_6 f1 f2 f3) sz) := by
  refine Met.ofW (cc := b_Grammar_beginnings) (maxL := 6) (ret := some .int) (by decide) rfl ?_
  intro p e s m args below meth c s₁ B hml hv
  obtain ⟨rfl, hsz, hP, hK, hD0⟩ := hv
  have hx := B.exec
  have hb := B.bytes
  have hr := B.returns
  have hts := atoms_spec (ws := w_Grammar_beginnings) B.pre
  have hown : s.vm.findClass R_Grammar = some m.cls := findClass_of_methodNamed B.named
  have hg := fun (w : Cond) (h : w ∈ gw) => hts w (List.mem_cons_of_mem _ h)
  have hlocks := B.notSynchronized
  subst hsz
  have hD := hD0.self (sz := s.heap.size)
  generalize hAe : va_A (wd_Grammar_beginnings kA a0 a1 a2 a3 v0_0 v0_3 v0_4 v0_6 f1 f2 f3) s.heap.size = A at hD ⊢
  have hA : ∀ q : Nat, s.heap.size ≤ q → A q := fun q h => by rw [← hAe]; exact Or.inr h
  have hS : va_S A s.heap s.heap [] := va_S.rf
  have hl := lv_entry ([.ref a0, .int p1, .int p2]) (n := 6) (Nat.le_of_ble_eq_true rfl)
  rw [lg_entry_eq]
  generalize (lg_sl ([.ref a0, .int p1, .int p2]) ++ List.replicate (6 - (lg_sl ([.ref a0, .int p1, .int p2])).length) Slot.unset).toArray = ls at hl ⊢
  have hl : lv_has ls 6 [(0, .ref a0), (1, .int p1), (2, .int p2)] := hl
  unfold S_Grammar_beginnings at hF
  have ih := L_Grammar_beginnings (l := l) (e := e) (below := below) hx hb hr hlocks hml hown hts hA hK a0 a1 a2 a3 v0_0 v0_3 v0_4 v0_6 f1 f2 f3 r fuel_
  refine lv_bipush (v := 64) hx hb d_Grammar_beginnings_0 (by decide) ?_
  refine lv_istore_n (lv' := [(3, .int 64), (0, .ref a0), (1, .int p1), (2, .int p2)]) hx hb d_Grammar_beginnings_2 rfl hl (by decide) rfl (fun ls hl => ?_)
  refine lv_iload_n hx hb d_Grammar_beginnings_3 rfl (lv_at hl 3 rfl) ?_
  refine lv_istore (lv' := [(4, .int p2), (3, .int 64), (0, .ref a0), (1, .int p1), (2, .int p2)]) hx hb d_Grammar_beginnings_4 hl (by decide) rfl (fun ls hl => ?_)
  exact ih p1 p2 64 p2 hF _ _ _ hP hD hS (lv_sub hl [2, 3, 4, 1, 0] rfl)
-- ===== RepairDesk$Grammar.findFirsts()V
abbrev wd_Grammar_findFirsts (kA : Nat → ClassId) (a0 a1 a2 a3 a4 a5 : Nat) (v0_4 : Value) (x0_6 : Int32) (f1 : (Nat → Int32)) (f2 : (Nat → Int32)) (f3 : (Nat → Int32)) (f4 : (Nat → Int32)) (f5 : (Nat → Int32)) : va_W := [(a0, .inr (2, [.ref a2, .ref a4, .ref a3, .ref a5, v0_4, .ref a1, .int x0_6])), (a1, .inl (kA 0, 6, .inl f1)), (a2, .inl (kA 0, 12, .inl f2)), (a3, .inl (kA 0, 48, .inl f3)), (a4, .inl (kA 0, 12, .inl f4)), (a5, .inl (kA 1, 12, .inl f5))]
abbrev rm_Grammar_findFirsts : Room := { frames := 3, cells := 0, slots := 0, locals := 68 }
def B_Grammar_findFirsts_0 (K : Nat → Int32 → Int32 → Int32 → (Nat → Int32) → Option ((Nat → Int32))) (x0_6 : Int32) (f2 : (Nat → Int32)) (f3 : (Nat → Int32)) (f4 : (Nat → Int32)) (f5 : (Nat → Int32)) (l1 : Int32) (l2 : Int32) (l3 : Int32) (f1 : (Nat → Int32)) : Option ((Nat → Int32)) := (if 6 ≤ l1 then (K 1 1 0 0 f1) else (if (l1 : Int32) < 0 ∨ 6 ≤ (Int32.toNatClampNeg l1) then none else (K 0 (l1 + 1) 0 0 (upd f1 (Int32.toNatClampNeg l1) 0))))
def B_Grammar_findFirsts_1 (K : Nat → Int32 → Int32 → Int32 → (Nat → Int32) → Option ((Nat → Int32))) (x0_6 : Int32) (f2 : (Nat → Int32)) (f3 : (Nat → Int32)) (f4 : (Nat → Int32)) (f5 : (Nat → Int32)) (l1 : Int32) (l2 : Int32) (l3 : Int32) (f1 : (Nat → Int32)) : Option ((Nat → Int32)) := (if l1 = 0 then (some f1) else (if 42 < l2 then (some f1) else (K 2 0 l2 0 f1)))
def B_Grammar_findFirsts_2 (K : Nat → Int32 → Int32 → Int32 → (Nat → Int32) → Option ((Nat → Int32))) (x0_6 : Int32) (f2 : (Nat → Int32)) (f3 : (Nat → Int32)) (f4 : (Nat → Int32)) (f5 : (Nat → Int32)) (l1 : Int32) (l2 : Int32) (l3 : Int32) (f1 : (Nat → Int32)) : Option ((Nat → Int32)) := (if x0_6 ≤ l3 then (K 1 l1 (l2 + 1) 0 f1) else (if (l3 : Int32) < 0 ∨ 12 ≤ (Int32.toNatClampNeg l3) then none else (if (l3 : Int32) < 0 ∨ 12 ≤ (Int32.toNatClampNeg l3) then none else (if (f5 (Int32.toNatClampNeg l3)) = 0 then (if (((f2 (Int32.toNatClampNeg l3)) - 6) : Int32) < 0 ∨ 6 ≤ (Int32.toNatClampNeg ((f2 (Int32.toNatClampNeg l3)) - 6)) then none else (if (((f2 (Int32.toNatClampNeg l3)) - 6) : Int32) < 0 ∨ 6 ≤ (Int32.toNatClampNeg ((f2 (Int32.toNatClampNeg l3)) - 6)) then none else (if (f1 (Int32.toNatClampNeg ((f2 (Int32.toNatClampNeg l3)) - 6))) = (f1 (Int32.toNatClampNeg ((f2 (Int32.toNatClampNeg l3)) - 6))) then (K 2 l1 l2 (l3 + 1) f1) else (if (((f2 (Int32.toNatClampNeg l3)) - 6) : Int32) < 0 ∨ 6 ≤ (Int32.toNatClampNeg ((f2 (Int32.toNatClampNeg l3)) - 6)) then none else (K 2 1 l2 (l3 + 1) (upd f1 (Int32.toNatClampNeg ((f2 (Int32.toNatClampNeg l3)) - 6)) (f1 (Int32.toNatClampNeg ((f2 (Int32.toNatClampNeg l3)) - 6))))))))) else (if (((f2 (Int32.toNatClampNeg l3)) - 6) : Int32) < 0 ∨ 6 ≤ (Int32.toNatClampNeg ((f2 (Int32.toNatClampNeg l3)) - 6)) then none else ((S_Grammar_beginnings l3 0 f1 f3 f4).bind fun u_14 => (if (((f2 (Int32.toNatClampNeg l3)) - 6) : Int32) < 0 ∨ 6 ≤ (Int32.toNatClampNeg ((f2 (Int32.toNatClampNeg l3)) - 6)) then none else (if ((f1 (Int32.toNatClampNeg ((f2 (Int32.toNatClampNeg l3)) - 6))) ||| u_14) = (f1 (Int32.toNatClampNeg ((f2 (Int32.toNatClampNeg l3)) - 6))) then (K 2 l1 l2 (l3 + 1) f1) else (if (((f2 (Int32.toNatClampNeg l3)) - 6) : Int32) < 0 ∨ 6 ≤ (Int32.toNatClampNeg ((f2 (Int32.toNatClampNeg l3)) - 6)) then none else (K 2 1 l2 (l3 + 1) (upd f1 (Int32.toNatClampNeg ((f2 (Int32.toNatClampNeg l3)) - 6)) ((f1 (Int32.toNatClampNeg ((f2 (Int32.toNatClampNeg l3)) - 6))) ||| u_14))))))))))))
def F_Grammar_findFirsts (x0_6 : Int32) (f2 : (Nat → Int32)) (f3 : (Nat → Int32)) (f4 : (Nat → Int32)) (f5 : (Nat → Int32)) : Nat → Nat → Int32 → Int32 → Int32 → (Nat → Int32) → Option ((Nat → Int32))
  | 0 => fun _ _ _ _ _ => none
  | n + 1 => fun hd l1 l2 l3 f1 => match hd with
    | 0 => B_Grammar_findFirsts_0 (F_Grammar_findFirsts x0_6 f2 f3 f4 f5 n) x0_6 f2 f3 f4 f5 l1 l2 l3 f1
    | 1 => B_Grammar_findFirsts_1 (F_Grammar_findFirsts x0_6 f2 f3 f4 f5 n) x0_6 f2 f3 f4 f5 l1 l2 l3 f1
    | 2 => B_Grammar_findFirsts_2 (F_Grammar_findFirsts x0_6 f2 f3 f4 f5 n) x0_6 f2 f3 f4 f5 l1 l2 l3 f1
    | _ => none
set_option maxHeartbeats 4000000 in
set_option maxRecDepth 100000 in
theorem L_Grammar_findFirsts {p : Program} {l : Launch} {e : Env} {s : State} {m : MethodId} {args : Array Value} {below : List Frame} {meth : Method} {c : Code} {A : Nat → Prop} {dC : Nat → ClassId} {dI : Nat → Nat → Nat} {kA : Nat → ClassId} (hx : p.tables.exec = Jvm.exec) (hb : c.code = b_Grammar_findFirsts) (hr : meth.sig.returnType = none) (hlocks : meth.locks = false) (hml : c.maxLocals = 6) (hown : s.vm.findClass R_Grammar = some m.cls) (hts : ∀ w ∈ w_Grammar_findFirsts, w.before args s = true) (hA : ∀ q : Nat, s.heap.size ≤ q → A q) (hK : va_K (dC, dI) classes (tys_ kA) s) (a0 a1 a2 a3 a4 a5 : Nat) (v0_4 : Value) (x0_6 : Int32) (f2 : (Nat → Int32)) (f3 : (Nat → Int32)) (f4 : (Nat → Int32)) (f5 : (Nat → Int32)) (of1 : (Nat → Int32)) : ∀ n : Nat, (∀ (l1 l2 l3 : Int32) (f1 : (Nat → Int32)), F_Grammar_findFirsts x0_6 f2 f3 f4 f5 n 0 l1 l2 l3 f1 = some of1 → ∀ (H : Heap) (locs : List Loc) (ls : Array Slot), va_P (dC, dI) classes (wd_Grammar_findFirsts kA a0 a1 a2 a3 a4 a5 v0_4 x0_6 f1 f2 f3 f4 f5) H → va_D A (wd_Grammar_findFirsts kA a0 a1 a2 a3 a4 a5 v0_4 x0_6 f1 f2 f3 f4 f5) → va_S A s.heap H locs → lv_has ls 6 [(0, .ref a0), (1, .int l1)] → W p l e (headSpec w_Grammar_findFirsts rm_Grammar_findFirsts).room s m args below meth c H locs 0 0 (MQ below (va_Qv (fun (_ : Unit) => True) (fun _ t => va_P (dC, dI) classes (wd_Grammar_findFirsts kA a0 a1 a2 a3 a4 a5 v0_4 x0_6 of1 f2 f3 f4 f5) t.heap ∧ va_K (dC, dI) classes (tys_ kA) t ∧ va_D A (wd_Grammar_findFirsts kA a0 a1 a2 a3 a4 a5 v0_4 x0_6 of1 f2 f3 f4 f5)) A) args s 0 0 A) (F0 m 2 ls [])) ∧ (∀ (l1 l2 l3 : Int32) (f1 : (Nat → Int32)), F_Grammar_findFirsts x0_6 f2 f3 f4 f5 n 1 l1 l2 l3 f1 = some of1 → ∀ (H : Heap) (locs : List Loc) (ls : Array Slot), va_P (dC, dI) classes (wd_Grammar_findFirsts kA a0 a1 a2 a3 a4 a5 v0_4 x0_6 f1 f2 f3 f4 f5) H → va_D A (wd_Grammar_findFirsts kA a0 a1 a2 a3 a4 a5 v0_4 x0_6 f1 f2 f3 f4 f5) → va_S A s.heap H locs → lv_has ls 6 [(0, .ref a0), (1, .int l1), (2, .int l2)] → W p l e (headSpec w_Grammar_findFirsts rm_Grammar_findFirsts).room s m args below meth c H locs 0 0 (MQ below (va_Qv (fun (_ : Unit) => True) (fun _ t => va_P (dC, dI) classes (wd_Grammar_findFirsts kA a0 a1 a2 a3 a4 a5 v0_4 x0_6 of1 f2 f3 f4 f5) t.heap ∧ va_K (dC, dI) classes (tys_ kA) t ∧ va_D A (wd_Grammar_findFirsts kA a0 a1 a2 a3 a4 a5 v0_4 x0_6 of1 f2 f3 f4 f5)) A) args s 0 0 A) (F0 m 25 ls [])) ∧ (∀ (l1 l2 l3 : Int32) (f1 : (Nat → Int32)), F_Grammar_findFirsts x0_6 f2 f3 f4 f5 n 2 l1 l2 l3 f1 = some of1 → ∀ (H : Heap) (locs : List Loc) (ls : Array Slot), va_P (dC, dI) classes (wd_Grammar_findFirsts kA a0 a1 a2 a3 a4 a5 v0_4 x0_6 f1 f2 f3 f4 f5) H → va_D A (wd_Grammar_findFirsts kA a0 a1 a2 a3 a4 a5 v0_4 x0_6 f1 f2 f3 f4 f5) → va_S A s.heap H locs → lv_has ls 6 [(0, .ref a0), (1, .int l1), (2, .int l2), (3, .int l3)] → W p l e (headSpec w_Grammar_findFirsts rm_Grammar_findFirsts).room s m args below meth c H locs 0 0 (MQ below (va_Qv (fun (_ : Unit) => True) (fun _ t => va_P (dC, dI) classes (wd_Grammar_findFirsts kA a0 a1 a2 a3 a4 a5 v0_4 x0_6 of1 f2 f3 f4 f5) t.heap ∧ va_K (dC, dI) classes (tys_ kA) t ∧ va_D A (wd_Grammar_findFirsts kA a0 a1 a2 a3 a4 a5 v0_4 x0_6 of1 f2 f3 f4 f5)) A) args s 0 0 A) (F0 m 39 ls [])) := by
  have hg := fun (w : Cond) (h : w ∈ gw) => hts w (List.mem_cons_of_mem _ h)
  intro n
  induction n with
  | zero =>
    exact ⟨fun _ _ _ _ hF => absurd (show (none : Option _) = some _ from hF) (fun z => by cases z), fun _ _ _ _ hF => absurd (show (none : Option _) = some _ from hF) (fun z => by cases z), fun _ _ _ _ hF => absurd (show (none : Option _) = some _ from hF) (fun z => by cases z)⟩
  | succ n ih =>
    refine ⟨?_, ?_, ?_⟩
    · intro l1 l2 l3 f1 hF H locs ls hP hD hS hl
      have hF : B_Grammar_findFirsts_0 (F_Grammar_findFirsts x0_6 f2 f3 f4 f5 n) x0_6 f2 f3 f4 f5 l1 l2 l3 f1 = some of1 := hF
      unfold B_Grammar_findFirsts_0 at hF
      refine lv_iload_n hx hb d_Grammar_findFirsts_2 rfl (lv_at hl 1 rfl) ?_
      refine lv_bipush (v := 6) hx hb d_Grammar_findFirsts_3 (by decide) ?_
      refine lv_icmp_ge (tgt := 21) hx hb d_Grammar_findFirsts_5 (by decide) (fun c_1 => ?_) (fun c_1 => ?_)
      · rw [if_pos c_1] at hF
        refine lv_iconst (v := 1) hx hb d_Grammar_findFirsts_21 (by decide) ?_
        refine lv_istore_n (lv' := [(1, .int 1), (0, .ref a0)]) hx hb d_Grammar_findFirsts_22 rfl hl (by decide) rfl (fun ls hl => ?_)
        refine lv_iconst (v := 0) hx hb d_Grammar_findFirsts_23 (by decide) ?_
        refine lv_istore_n (lv' := [(2, .int 0), (1, .int 1), (0, .ref a0)]) hx hb d_Grammar_findFirsts_24 rfl hl (by decide) rfl (fun ls hl => ?_)
        exact ih.2.1 1 0 0 f1 hF _ _ _ hP hD hS (lv_sub hl [2, 1, 0] rfl)
      · rw [if_neg c_1] at hF
        refine lv_aload_n hx hb d_Grammar_findFirsts_8 rfl (lv_at hl 0 rfl) ?_
        refine va_get (D := (dC, dI)) (ci := 2) (v := .ref a1) (C := R_Grammar) (T := F_Grammar) (N := 7) hx hb hg iw_Grammar hown hK hP 0 rfl rfl 5 (by decide) (hg _ gw_62) (fun _ h9 => h9) rfl d_Grammar_findFirsts_9 ?_
        refine lv_iload_n hx hb d_Grammar_findFirsts_12 rfl (lv_at hl 1 rfl) ?_
        refine lv_iconst (v := 0) hx hb d_Grammar_findFirsts_13 (by decide) ?_
        obtain ⟨h_2, hF⟩ := rd_chk hF
        refine va_iast hx hb hK hP hD hS 1 0 rfl rfl h_2 d_Grammar_findFirsts_14 (fun H locs hP hD hS => ?_)
        have hP : va_P (dC, dI) classes (wd_Grammar_findFirsts kA a0 a1 a2 a3 a4 a5 v0_4 x0_6 (upd f1 (Int32.toNatClampNeg l1) 0) f2 f3 f4 f5) H := hP
        have hD : va_D A (wd_Grammar_findFirsts kA a0 a1 a2 a3 a4 a5 v0_4 x0_6 (upd f1 (Int32.toNatClampNeg l1) 0) f2 f3 f4 f5) := hD
        refine lv_iinc (v := (l1 + 1)) (lv' := [(1, .int (l1 + 1)), (0, .ref a0)]) hx hb d_Grammar_findFirsts_15 hl (k := 1) rfl (by rfl) (by decide) rfl (fun ls hl => ?_)
        refine lv_goto (tgt := 2) hx hb d_Grammar_findFirsts_18 (by decide) ?_
        exact ih.1 (l1 + 1) 0 0 (upd f1 (Int32.toNatClampNeg l1) 0) hF _ _ _ hP hD hS (lv_sub hl [1, 0] rfl)
    · intro l1 l2 l3 f1 hF H locs ls hP hD hS hl
      have hF : B_Grammar_findFirsts_1 (F_Grammar_findFirsts x0_6 f2 f3 f4 f5 n) x0_6 f2 f3 f4 f5 l1 l2 l3 f1 = some of1 := hF
      unfold B_Grammar_findFirsts_1 at hF
      refine lv_iload_n hx hb d_Grammar_findFirsts_25 rfl (lv_at hl 1 rfl) ?_
      refine lv_if_eq (tgt := 128) hx hb d_Grammar_findFirsts_26 (by decide) (fun c_3 => ?_) (fun c_3 => ?_)
      · rw [if_pos c_3] at hF
        have e0 := Option.some.inj hF
        exact W.vret hx hb hr (fun t ht hW => ⟨⟨(), rfl, trivial, by rw [ht, ← e0]; exact hP, va_K.moved hW.alike hK, (by rw [← e0]; exact hD)⟩, hS.F ht⟩) hS.2.2 d_Grammar_findFirsts_128 hlocks
      · rw [if_neg c_3] at hF
        refine lv_iload_n hx hb d_Grammar_findFirsts_29 rfl (lv_at hl 2 rfl) ?_
        refine lv_bipush (v := 42) hx hb d_Grammar_findFirsts_30 (by decide) ?_
        refine lv_icmp_gt (tgt := 128) hx hb d_Grammar_findFirsts_32 (by decide) (fun c_4 => ?_) (fun c_4 => ?_)
        · rw [if_pos c_4] at hF
          have e0 := Option.some.inj hF
          exact W.vret hx hb hr (fun t ht hW => ⟨⟨(), rfl, trivial, by rw [ht, ← e0]; exact hP, va_K.moved hW.alike hK, (by rw [← e0]; exact hD)⟩, hS.F ht⟩) hS.2.2 d_Grammar_findFirsts_128 hlocks
        · rw [if_neg c_4] at hF
          refine lv_iconst (v := 0) hx hb d_Grammar_findFirsts_35 (by decide) ?_
          refine lv_istore_n (lv' := [(1, .int 0), (0, .ref a0), (2, .int l2)]) hx hb d_Grammar_findFirsts_36 rfl hl (by decide) rfl (fun ls hl => ?_)
          refine lv_iconst (v := 0) hx hb d_Grammar_findFirsts_37 (by decide) ?_
          refine lv_istore_n (lv' := [(3, .int 0), (1, .int 0), (0, .ref a0), (2, .int l2)]) hx hb d_Grammar_findFirsts_38 rfl hl (by decide) rfl (fun ls hl => ?_)
          exact ih.2.2 0 l2 0 f1 hF _ _ _ hP hD hS (lv_sub hl [2, 1, 3, 0] rfl)
    · intro l1 l2 l3 f1 hF H locs ls hP hD hS hl
      have hF : B_Grammar_findFirsts_2 (F_Grammar_findFirsts x0_6 f2 f3 f4 f5 n) x0_6 f2 f3 f4 f5 l1 l2 l3 f1 = some of1 := hF
      unfold B_Grammar_findFirsts_2 at hF
      refine lv_iload_n hx hb d_Grammar_findFirsts_39 rfl (lv_at hl 3 rfl) ?_
      refine lv_aload_n hx hb d_Grammar_findFirsts_40 rfl (lv_at hl 0 rfl) ?_
      refine va_get (D := (dC, dI)) (ci := 2) (v := .int x0_6) (C := R_Grammar) (T := F_Grammar) (N := 7) hx hb hg iw_Grammar hown hK hP 0 rfl rfl 6 (by decide) (hg _ gw_20) (fun _ h9 => h9) rfl d_Grammar_findFirsts_41 ?_
      refine lv_icmp_ge (tgt := 122) hx hb d_Grammar_findFirsts_44 (by decide) (fun c_5 => ?_) (fun c_5 => ?_)
      · rw [if_pos c_5] at hF
        refine lv_iinc (v := (l2 + 1)) (lv' := [(2, .int (l2 + 1)), (0, .ref a0), (1, .int l1), (3, .int l3)]) hx hb d_Grammar_findFirsts_122 hl (k := 2) rfl (by rfl) (by decide) rfl (fun ls hl => ?_)
        refine lv_goto (tgt := 25) hx hb d_Grammar_findFirsts_125 (by decide) ?_
        exact ih.2.1 l1 (l2 + 1) 0 f1 hF _ _ _ hP hD hS (lv_sub hl [1, 2, 0] rfl)
      · rw [if_neg c_5] at hF
        refine lv_aload_n hx hb d_Grammar_findFirsts_47 rfl (lv_at hl 0 rfl) ?_
        refine va_get (D := (dC, dI)) (ci := 2) (v := .ref a2) (C := R_Grammar) (T := F_Grammar) (N := 7) hx hb hg iw_Grammar hown hK hP 0 rfl rfl 0 (by decide) (hg _ gw_23) (fun _ h9 => h9) rfl d_Grammar_findFirsts_48 ?_
        refine lv_iload_n hx hb d_Grammar_findFirsts_51 rfl (lv_at hl 3 rfl) ?_
        obtain ⟨h_6, hF⟩ := rd_chk hF
        refine va_iald hx hb hK hP 2 0 rfl rfl h_6 d_Grammar_findFirsts_52 ?_
        refine lv_bipush (v := 6) hx hb d_Grammar_findFirsts_53 (by decide) ?_
        refine lv_isub hx hb d_Grammar_findFirsts_55 ?_
        refine lv_istore (lv' := [(4, .int ((f2 (Int32.toNatClampNeg l3)) - 6)), (0, .ref a0), (1, .int l1), (2, .int l2), (3, .int l3)]) hx hb d_Grammar_findFirsts_56 hl (by decide) rfl (fun ls hl => ?_)
        refine lv_aload_n hx hb d_Grammar_findFirsts_58 rfl (lv_at hl 1 rfl) ?_
        refine va_get (D := (dC, dI)) (ci := 2) (v := .ref a5) (C := R_Grammar) (T := F_Grammar) (N := 7) hx hb hg iw_Grammar hown hK hP 0 rfl rfl 3 (by decide) (hg _ gw_49) (fun _ h9 => h9) rfl d_Grammar_findFirsts_59 ?_
        refine lv_iload_n hx hb d_Grammar_findFirsts_62 rfl (lv_at hl 4 rfl) ?_
        obtain ⟨h_7, hF⟩ := rd_chk hF
        refine va_zald hx hb hK hP 5 1 rfl rfl h_7 d_Grammar_findFirsts_63 ?_
        refine lv_if_eq (tgt := 84) hx hb d_Grammar_findFirsts_64 (by decide) (fun c_8 => ?_) (fun c_8 => ?_)
        · rw [if_pos c_8] at hF
          refine lv_aload_n hx hb d_Grammar_findFirsts_84 rfl (lv_at hl 1 rfl) ?_
          refine va_get (D := (dC, dI)) (ci := 2) (v := .ref a1) (C := R_Grammar) (T := F_Grammar) (N := 7) hx hb hg iw_Grammar hown hK hP 0 rfl rfl 5 (by decide) (hg _ gw_62) (fun _ h9 => h9) rfl d_Grammar_findFirsts_85 ?_
          refine lv_iload hx hb d_Grammar_findFirsts_88 (lv_at hl 0 rfl) ?_
          obtain ⟨h_9, hF⟩ := rd_chk hF
          refine va_iald hx hb hK hP 1 0 rfl rfl h_9 d_Grammar_findFirsts_90 ?_
          refine lv_istore (lv' := [(5, .int (f1 (Int32.toNatClampNeg ((f2 (Int32.toNatClampNeg l3)) - 6)))), (4, .int ((f2 (Int32.toNatClampNeg l3)) - 6)), (0, .ref a0), (1, .int l1), (2, .int l2), (3, .int l3)]) hx hb d_Grammar_findFirsts_91 hl (by decide) rfl (fun ls hl => ?_)
          refine lv_iload hx hb d_Grammar_findFirsts_93 (lv_at hl 0 rfl) ?_
          refine lv_aload_n hx hb d_Grammar_findFirsts_95 rfl (lv_at hl 2 rfl) ?_
          refine va_get (D := (dC, dI)) (ci := 2) (v := .ref a1) (C := R_Grammar) (T := F_Grammar) (N := 7) hx hb hg iw_Grammar hown hK hP 0 rfl rfl 5 (by decide) (hg _ gw_62) (fun _ h9 => h9) rfl d_Grammar_findFirsts_96 ?_
          refine lv_iload hx hb d_Grammar_findFirsts_99 (lv_at hl 1 rfl) ?_
          obtain ⟨h_10, hF⟩ := rd_chk hF
          refine va_iald hx hb hK hP 1 0 rfl rfl h_10 d_Grammar_findFirsts_101 ?_
          refine lv_icmp_eq (tgt := 116) hx hb d_Grammar_findFirsts_102 (by decide) (fun c_11 => ?_) (fun c_11 => ?_)
          · rw [if_pos c_11] at hF
            refine lv_iinc (v := (l3 + 1)) (lv' := [(3, .int (l3 + 1)), (5, .int (f1 (Int32.toNatClampNeg ((f2 (Int32.toNatClampNeg l3)) - 6)))), (4, .int ((f2 (Int32.toNatClampNeg l3)) - 6)), (0, .ref a0), (1, .int l1), (2, .int l2)]) hx hb d_Grammar_findFirsts_116 hl (k := 5) rfl (by rfl) (by decide) rfl (fun ls hl => ?_)
            refine lv_goto (tgt := 39) hx hb d_Grammar_findFirsts_119 (by decide) ?_
            exact ih.2.2 l1 l2 (l3 + 1) f1 hF _ _ _ hP hD hS (lv_sub hl [3, 4, 5, 0] rfl)
          · rw [if_neg c_11] at hF
            refine lv_aload_n hx hb d_Grammar_findFirsts_105 rfl (lv_at hl 2 rfl) ?_
            refine va_get (D := (dC, dI)) (ci := 2) (v := .ref a1) (C := R_Grammar) (T := F_Grammar) (N := 7) hx hb hg iw_Grammar hown hK hP 0 rfl rfl 5 (by decide) (hg _ gw_62) (fun _ h9 => h9) rfl d_Grammar_findFirsts_106 ?_
            refine lv_iload hx hb d_Grammar_findFirsts_109 (lv_at hl 1 rfl) ?_
            refine lv_iload hx hb d_Grammar_findFirsts_111 (lv_at hl 0 rfl) ?_
            obtain ⟨h_12, hF⟩ := rd_chk hF
            refine va_iast hx hb hK hP hD hS 1 0 rfl rfl h_12 d_Grammar_findFirsts_113 (fun H locs hP hD hS => ?_)
            have hP : va_P (dC, dI) classes (wd_Grammar_findFirsts kA a0 a1 a2 a3 a4 a5 v0_4 x0_6 (upd f1 (Int32.toNatClampNeg ((f2 (Int32.toNatClampNeg l3)) - 6)) (f1 (Int32.toNatClampNeg ((f2 (Int32.toNatClampNeg l3)) - 6)))) f2 f3 f4 f5) H := hP
            have hD : va_D A (wd_Grammar_findFirsts kA a0 a1 a2 a3 a4 a5 v0_4 x0_6 (upd f1 (Int32.toNatClampNeg ((f2 (Int32.toNatClampNeg l3)) - 6)) (f1 (Int32.toNatClampNeg ((f2 (Int32.toNatClampNeg l3)) - 6)))) f2 f3 f4 f5) := hD
            refine lv_iconst (v := 1) hx hb d_Grammar_findFirsts_114 (by decide) ?_
            refine lv_istore_n (lv' := [(1, .int 1), (5, .int (f1 (Int32.toNatClampNeg ((f2 (Int32.toNatClampNeg l3)) - 6)))), (4, .int ((f2 (Int32.toNatClampNeg l3)) - 6)), (0, .ref a0), (2, .int l2), (3, .int l3)]) hx hb d_Grammar_findFirsts_115 rfl hl (by decide) rfl (fun ls hl => ?_)
            refine lv_iinc (v := (l3 + 1)) (lv' := [(3, .int (l3 + 1)), (1, .int 1), (5, .int (f1 (Int32.toNatClampNeg ((f2 (Int32.toNatClampNeg l3)) - 6)))), (4, .int ((f2 (Int32.toNatClampNeg l3)) - 6)), (0, .ref a0), (2, .int l2)]) hx hb d_Grammar_findFirsts_116 hl (k := 5) rfl (by rfl) (by decide) rfl (fun ls hl => ?_)
            refine lv_goto (tgt := 39) hx hb d_Grammar_findFirsts_119 (by decide) ?_
            exact ih.2.2 1 l2 (l3 + 1) (upd f1 (Int32.toNatClampNeg ((f2 (Int32.toNatClampNeg l3)) - 6)) (f1 (Int32.toNatClampNeg ((f2 (Int32.toNatClampNeg l3)) - 6)))) hF _ _ _ hP hD hS (lv_sub hl [4, 1, 5, 0] rfl)
        · rw [if_neg c_8] at hF
          refine lv_aload_n hx hb d_Grammar_findFirsts_67 rfl (lv_at hl 1 rfl) ?_
          refine va_get (D := (dC, dI)) (ci := 2) (v := .ref a1) (C := R_Grammar) (T := F_Grammar) (N := 7) hx hb hg iw_Grammar hown hK hP 0 rfl rfl 5 (by decide) (hg _ gw_62) (fun _ h9 => h9) rfl d_Grammar_findFirsts_68 ?_
          refine lv_iload hx hb d_Grammar_findFirsts_71 (lv_at hl 0 rfl) ?_
          obtain ⟨h_13, hF⟩ := rd_chk hF
          refine va_iald hx hb hK hP 1 0 rfl rfl h_13 d_Grammar_findFirsts_73 ?_
          refine lv_aload_n hx hb d_Grammar_findFirsts_74 rfl (lv_at hl 1 rfl) ?_
          refine lv_iload_n hx hb d_Grammar_findFirsts_75 rfl (lv_at hl 4 rfl) ?_
          refine lv_iconst (v := 0) hx hb d_Grammar_findFirsts_76 (by decide) ?_
          obtain ⟨u_14, hS_14, hF⟩ := rd_bind hF
          have hPc := hP.sub (ws' := (wd_Grammar_beginnings kA a0 a1 a3 a4 (.ref a2) (.ref a5) v0_4 (.int x0_6) f1 f3 f4)) [0, 1, 3, 4] rfl
          have hDc := hD.sub (ws' := (wd_Grammar_beginnings kA a0 a1 a3 a4 (.ref a2) (.ref a5) v0_4 (.int x0_6) f1 f3 f4)) [0, 1, 3, 4] (by decide) rfl
          have hFc := va_free (wc := (wd_Grammar_beginnings kA a0 a1 a3 a4 (.ref a2) (.ref a5) v0_4 (.int x0_6) f1 f3 f4)) hD hS hA [0, 1, 3, 4] rfl
          refine va_calli (va_runV (As := [.int l3, .int 0]) (rest := [.int (f1 (Int32.toNatClampNeg ((f2 (Int32.toNatClampNeg l3)) - 6)))]) ⟨hx, hb, hml, hown, hts⟩ (c_Grammar_beginnings l dC dI kA H.size a0 a1 a3 a4 (.ref a2) (.ref a5) v0_4 (.int x0_6) l3 0 f1 f3 f4 u_14 hS_14) (cwV 2 hts (gw_V gw_63 gw_64 gw_65 gw_42 gw_66) rfl rfl rfl (by decide +kernel) ⟨Nat.le_of_ble_eq_true rfl, Nat.le_of_ble_eq_true rfl⟩) ⟨fun a U g mk q => by obtain ⟨q0, q1, qP, qK, qD⟩ := q; exact ⟨q0, q1, qP, va_K.moved (u := U) (U := U.calling g mk a) (Vm.Alike.refl U.vm) qK, qD⟩, va_recv hK hP (ci := 2) (q0 := 0) rfl rfl, fun U hU hW => ⟨rfl, by rw [hU], by rw [hU]; exact hPc, va_K.moved hW.alike hK, hDc.weaken (fun _ _ _ _ => trivial)⟩⟩ rfl rfl hl.1 rfl (lv_room (Nat.le_of_ble_eq_true rfl)) d_Grammar_findFirsts_77 ⟨Nat.zero_le _, Nat.zero_le _⟩) hS (fun q _ h => hFc q h) hFc (fun r1 u t H1 locs ht hvm hw hB hz1 hk1 hS => ?_)
          rw [show r1 = _ from hw]
          obtain ⟨hP1, hK1, hD1⟩ := hB
          rw [ht] at hP1
          obtain ⟨hP, hD⟩ := va_join (wr := [(a2, .inl (kA 0, 12, .inl f2)), (a5, .inl (kA 1, 12, .inl f5))]) (w1 := (wd_Grammar_beginnings kA a0 a1 a3 a4 (.ref a2) (.ref a5) v0_4 (.int x0_6) f1 f3 f4)) hP hD [0, 1, 3, 4] [2, 5] rfl rfl (by decide) (by decide) hk1 hFc hP1 hD1
          have hP := hP.sub (ws' := (wd_Grammar_findFirsts kA a0 a1 a2 a3 a4 a5 v0_4 x0_6 f1 f2 f3 f4 f5)) [2, 3, 0, 4, 5, 1] rfl
          have hD := hD.sub (ws' := (wd_Grammar_findFirsts kA a0 a1 a2 a3 a4 a5 v0_4 x0_6 f1 f2 f3 f4 f5)) [2, 3, 0, 4, 5, 1] (by decide) rfl
          clear hPc hDc hFc hP1 hK1 hD1
          generalize H1 = H at hP hS ⊢
          refine lv_ior hx hb d_Grammar_findFirsts_80 ?_
          refine lv_goto (tgt := 91) hx hb d_Grammar_findFirsts_81 (by decide) ?_
          refine lv_istore (lv' := [(5, .int ((f1 (Int32.toNatClampNeg ((f2 (Int32.toNatClampNeg l3)) - 6))) ||| u_14)), (4, .int ((f2 (Int32.toNatClampNeg l3)) - 6)), (0, .ref a0), (1, .int l1), (2, .int l2), (3, .int l3)]) hx hb d_Grammar_findFirsts_91 hl (by decide) rfl (fun ls hl => ?_)
          refine lv_iload hx hb d_Grammar_findFirsts_93 (lv_at hl 0 rfl) ?_
          refine lv_aload_n hx hb d_Grammar_findFirsts_95 rfl (lv_at hl 2 rfl) ?_
          refine va_get (D := (dC, dI)) (ci := 2) (v := .ref a1) (C := R_Grammar) (T := F_Grammar) (N := 7) hx hb hg iw_Grammar hown hK hP 0 rfl rfl 5 (by decide) (hg _ gw_62) (fun _ h9 => h9) rfl d_Grammar_findFirsts_96 ?_
          refine lv_iload hx hb d_Grammar_findFirsts_99 (lv_at hl 1 rfl) ?_
          obtain ⟨h_15, hF⟩ := rd_chk hF
          refine va_iald hx hb hK hP 1 0 rfl rfl h_15 d_Grammar_findFirsts_101 ?_
          refine lv_icmp_eq (tgt := 116) hx hb d_Grammar_findFirsts_102 (by decide) (fun c_16 => ?_) (fun c_16 => ?_)
          · rw [if_pos c_16] at hF
            refine lv_iinc (v := (l3 + 1)) (lv' := [(3, .int (l3 + 1)), (5, .int ((f1 (Int32.toNatClampNeg ((f2 (Int32.toNatClampNeg l3)) - 6))) ||| u_14)), (4, .int ((f2 (Int32.toNatClampNeg l3)) - 6)), (0, .ref a0), (1, .int l1), (2, .int l2)]) hx hb d_Grammar_findFirsts_116 hl (k := 5) rfl (by rfl) (by decide) rfl (fun ls hl => ?_)
            refine lv_goto (tgt := 39) hx hb d_Grammar_findFirsts_119 (by decide) ?_
            exact ih.2.2 l1 l2 (l3 + 1) f1 hF _ _ _ hP hD hS (lv_sub hl [3, 4, 5, 0] rfl)
          · rw [if_neg c_16] at hF
            refine lv_aload_n hx hb d_Grammar_findFirsts_105 rfl (lv_at hl 2 rfl) ?_
            refine va_get (D := (dC, dI)) (ci := 2) (v := .ref a1) (C := R_Grammar) (T := F_Grammar) (N := 7) hx hb hg iw_Grammar hown hK hP 0 rfl rfl 5 (by decide) (hg _ gw_62) (fun _ h9 => h9) rfl d_Grammar_findFirsts_106 ?_
            refine lv_iload hx hb d_Grammar_findFirsts_109 (lv_at hl 1 rfl) ?_
            refine lv_iload hx hb d_Grammar_findFirsts_111 (lv_at hl 0 rfl) ?_
            obtain ⟨h_17, hF⟩ := rd_chk hF
            refine va_iast hx hb hK hP hD hS 1 0 rfl rfl h_17 d_Grammar_findFirsts_113 (fun H locs hP hD hS => ?_)
            have hP : va_P (dC, dI) classes (wd_Grammar_findFirsts kA a0 a1 a2 a3 a4 a5 v0_4 x0_6 (upd f1 (Int32.toNatClampNeg ((f2 (Int32.toNatClampNeg l3)) - 6)) ((f1 (Int32.toNatClampNeg ((f2 (Int32.toNatClampNeg l3)) - 6))) ||| u_14)) f2 f3 f4 f5) H := hP
            have hD : va_D A (wd_Grammar_findFirsts kA a0 a1 a2 a3 a4 a5 v0_4 x0_6 (upd f1 (Int32.toNatClampNeg ((f2 (Int32.toNatClampNeg l3)) - 6)) ((f1 (Int32.toNatClampNeg ((f2 (Int32.toNatClampNeg l3)) - 6))) ||| u_14)) f2 f3 f4 f5) := hD
            refine lv_iconst (v := 1) hx hb d_Grammar_findFirsts_114 (by decide) ?_
            refine lv_istore_n (lv' := [(1, .int 1), (5, .int ((f1 (Int32.toNatClampNeg ((f2 (Int32.toNatClampNeg l3)) - 6))) ||| u_14)), (4, .int ((f2 (Int32.toNatClampNeg l3)) - 6)), (0, .ref a0), (2, .int l2), (3, .int l3)]) hx hb d_Grammar_findFirsts_115 rfl hl (by decide) rfl (fun ls hl => ?_)
            refine lv_iinc (v := (l3 + 1)) (lv' := [(3, .int (l3 + 1)), (1, .int 1), (5, .int ((f1 (Int32.toNatClampNeg ((f2 (Int32.toNatClampNeg l3)) - 6))) ||| u_14)), (4, .int ((f2 (Int32.toNatClampNeg l3)) - 6)), (0, .ref a0), (2, .int l2)]) hx hb d_Grammar_findFirsts_116 hl (k := 5) rfl (by rfl) (by decide) rfl (fun ls hl => ?_)
            refine lv_goto (tgt := 39) hx hb d_Grammar_findFirsts_119 (by decide) ?_
            exact ih.2.2 1 l2 (l3 + 1) (upd f1 (Int32.toNatClampNeg ((f2 (Int32.toNatClampNeg l3)) - 6)) ((f1 (Int32.toNatClampNeg ((f2 (Int32.toNatClampNeg l3)) - 6))) ||| u_14)) hF _ _ _ hP hD hS (lv_sub hl [4, 1, 5, 0] rfl)
def S_Grammar_findFirsts (x0_6 : Int32) (f1 : (Nat → Int32)) (f2 : (Nat → Int32)) (f3 : (Nat → Int32)) (f4 : (Nat → Int32)) (f5 : (Nat → Int32)) : Option ((Nat → Int32)) := (F_Grammar_findFirsts x0_6 f2 f3 f4 f5 fuel_ 0 0 0 0 f1)
set_option maxHeartbeats 4000000 in
set_option maxRecDepth 100000 in
theorem c_Grammar_findFirsts (l : Launch) (dC : Nat → ClassId) (dI : Nat → Nat → Nat) (kA : Nat → ClassId) (sz : Nat) (a0 a1 a2 a3 a4 a5 : Nat) (v0_4 : Value) (x0_6 : Int32) (f1 : (Nat → Int32)) (f2 : (Nat → Int32)) (f3 : (Nat → Int32)) (f4 : (Nat → Int32)) (f5 : (Nat → Int32)) (of1 : (Nat → Int32)) (hF : S_Grammar_findFirsts x0_6 f1 f2 f3 f4 f5 = some of1) : Met l y_Grammar_findFirsts w_Grammar_findFirsts rm_Grammar_findFirsts (va_Pc [.ref a0] (fun U => U.heap.size = sz ∧ va_P (dC, dI) classes (wd_Grammar_findFirsts kA a0 a1 a2 a3 a4 a5 v0_4 x0_6 f1 f2 f3 f4 f5) U.heap ∧ va_K (dC, dI) classes (tys_ kA) U ∧ va_D (fun _ => True) (wd_Grammar_findFirsts kA a0 a1 a2 a3 a4 a5 v0_4 x0_6 f1 f2 f3 f4 f5))) (va_Qv (fun (_ : Unit) => True) (fun _ t => va_P (dC, dI) classes (wd_Grammar_findFirsts kA a0 a1 a2 a3 a4 a5 v0_4 x0_6 of1 f2 f3 f4 f5) t.heap ∧ va_K (dC, dI) classes (tys_ kA) t ∧ va_D (va_A (wd_Grammar_findFirsts kA a0 a1 a2 a3 a4 a5 v0_4 x0_6 f1 f2 f3 f4 f5) sz) (wd_Grammar_findFirsts kA a0 a1 a2 a3 a4 a5 v0_4 x0_6 of1 f2 f3 f4 f5)) (va_A (wd_Grammar_findFirsts kA a0 a1 a2 a3 a4 a5 v0_4 x0_6 f1 f2 f3 f4 f5) sz)) 0 0 (va_A (wd_Grammar_findFirsts kA a0 a1 a2 a3 a4 a5 v0_4 x0_6 f1 f2 f3 f4 f5) sz) := by
  refine Met.ofW (cc := b_Grammar_findFirsts) (maxL := 6) (ret := none) (by decide) rfl ?_
  intro p e s m args below meth c s₁ B hml hv
  obtain ⟨rfl, hsz, hP, hK, hD0⟩ := hv
  have hx := B.exec
  have hb := B.bytes
  have hr := B.returns
  have hts := atoms_spec (ws := w_Grammar_findFirsts) B.pre
  have hown : s.vm.findClass R_Grammar = some m.cls := findClass_of_methodNamed B.named
  have hg := fun (w : Cond) (h : w ∈ gw) => hts w (List.mem_cons_of_mem _ h)
  have hlocks := B.notSynchronized
  subst hsz
  have hD := hD0.self (sz := s.heap.size)
  generalize hAe : va_A (wd_Grammar_findFirsts kA a0 a1 a2 a3 a4 a5 v0_4 x0_6 f1 f2 f3 f4 f5) s.heap.size = A at hD ⊢
  have hA : ∀ q : Nat, s.heap.size ≤ q → A q := fun q h => by rw [← hAe]; exact Or.inr h
  have hS : va_S A s.heap s.heap [] := va_S.rf
  have hl := lv_entry ([.ref a0]) (n := 6) (Nat.le_of_ble_eq_true rfl)
  rw [lg_entry_eq]
  generalize (lg_sl ([.ref a0]) ++ List.replicate (6 - (lg_sl ([.ref a0])).length) Slot.unset).toArray = ls at hl ⊢
  have hl : lv_has ls 6 [(0, .ref a0)] := hl
  unfold S_Grammar_findFirsts at hF
  have ih := L_Grammar_findFirsts (l := l) (e := e) (below := below) hx hb hr hlocks hml hown hts hA hK a0 a1 a2 a3 a4 a5 v0_4 x0_6 f2 f3 f4 f5 of1 fuel_
  refine lv_iconst (v := 0) hx hb d_Grammar_findFirsts_0 (by decide) ?_
  refine lv_istore_n (lv' := [(1, .int 0), (0, .ref a0)]) hx hb d_Grammar_findFirsts_1 rfl hl (by decide) rfl (fun ls hl => ?_)
  exact ih.1 0 0 0 f1 hF _ _ _ hP hD hS (lv_sub hl [1, 0] rfl)
-- ===== RepairDesk$Grammar.prepare()Z
abbrev wd_Grammar_prepare (kA : Nat → ClassId) (a0 a1 a2 a3 a4 a5 a6 : Nat) (x0_6 : Int32) (f1 : (Nat → Int32)) (f2 : (Nat → Int32)) (f3 : (Nat → Int32)) (f4 : (Nat → Int32)) (f5 : (Nat → Int32)) (f6 : (Nat → Int32)) : va_W := [(a0, .inr (2, [.ref a3, .ref a5, .ref a4, .ref a6, .ref a2, .ref a1, .int x0_6])), (a1, .inl (kA 0, 6, .inl f1)), (a2, .inl (kA 1, 6, .inl f2)), (a3, .inl (kA 0, 12, .inl f3)), (a4, .inl (kA 0, 48, .inl f4)), (a5, .inl (kA 0, 12, .inl f5)), (a6, .inl (kA 1, 12, .inl f6))]
abbrev rm_Grammar_prepare : Room := { frames := 4, cells := 0, slots := 0, locals := 93 }
def S_Grammar_prepare (x0_6 : Int32) (f1 : (Nat → Int32)) (f2 : (Nat → Int32)) (f3 : (Nat → Int32)) (f4 : (Nat → Int32)) (f5 : (Nat → Int32)) (f6 : (Nat → Int32)) : Option (Int32 × (Nat → Int32) × (Nat → Int32) × (Nat → Int32) × (Nat → Int32) × (Nat → Int32) × (Nat → Int32)) := (if ¬ x0_6 = 0 then ((S_Grammar_findUsed x0_6 f2 f3 f4 f5 f6).bind fun u_2 => ((S_Grammar_findFirsts x0_6 f1 f3 f4 f5 u_2.2).bind fun u_3 => (if (10 : Int32) < 0 ∨ 12 ≤ (Int32.toNatClampNeg 10) then none else (if (10 : Int32) < 0 ∨ 12 ≤ (Int32.toNatClampNeg 10) then none else (if (0 : Int32) < 0 ∨ 12 ≤ (Int32.toNatClampNeg 0) then none else (if (40 : Int32) < 0 ∨ 48 ≤ (Int32.toNatClampNeg 40) then none else (if (10 : Int32) < 0 ∨ 12 ≤ (Int32.toNatClampNeg 10) then none else (if (0 : Int32) < 0 ∨ 12 ≤ (Int32.toNatClampNeg 0) then none else ((S_Grammar_isFruitful ((upd f3 (Int32.toNatClampNeg 10) (-1)) (Int32.toNatClampNeg 0)) u_2.1).bind fun u_10 => (if u_10 = 0 ∨ u_10 = 1 then some (u_10, u_3, u_2.1, (upd f3 (Int32.toNatClampNeg 10) (-1)), (upd f4 (Int32.toNatClampNeg 40) ((upd f3 (Int32.toNatClampNeg 10) (-1)) (Int32.toNatClampNeg 0))), (upd f5 (Int32.toNatClampNeg 10) 1), (upd u_2.2 (Int32.toNatClampNeg 10) (vp_nar .boolean 1))) else none)))))))))) else (some (0, f1, f2, f3, f4, f5, f6)))
set_option maxHeartbeats 4000000 in
set_option maxRecDepth 100000 in
theorem c_Grammar_prepare (l : Launch) (dC : Nat → ClassId) (dI : Nat → Nat → Nat) (kA : Nat → ClassId) (sz : Nat) (a0 a1 a2 a3 a4 a5 a6 : Nat) (x0_6 : Int32) (f1 : (Nat → Int32)) (f2 : (Nat → Int32)) (f3 : (Nat → Int32)) (f4 : (Nat → Int32)) (f5 : (Nat → Int32)) (f6 : (Nat → Int32)) (r : Int32) (of1 : (Nat → Int32)) (of2 : (Nat → Int32)) (of3 : (Nat → Int32)) (of4 : (Nat → Int32)) (of5 : (Nat → Int32)) (of6 : (Nat → Int32)) (hF : S_Grammar_prepare x0_6 f1 f2 f3 f4 f5 f6 = some (r, of1, of2, of3, of4, of5, of6)) : Met l y_Grammar_prepare w_Grammar_prepare rm_Grammar_prepare (va_Pc [.ref a0] (fun U => U.heap.size = sz ∧ va_P (dC, dI) classes (wd_Grammar_prepare kA a0 a1 a2 a3 a4 a5 a6 x0_6 f1 f2 f3 f4 f5 f6) U.heap ∧ va_K (dC, dI) classes (tys_ kA) U ∧ va_D (fun _ => True) (wd_Grammar_prepare kA a0 a1 a2 a3 a4 a5 a6 x0_6 f1 f2 f3 f4 f5 f6))) (va_Qi (fun (r1 : Int32) (_ : Unit) => r1 = r) (fun _ t => va_P (dC, dI) classes (wd_Grammar_prepare kA a0 a1 a2 a3 a4 a5 a6 x0_6 of1 of2 of3 of4 of5 of6) t.heap ∧ va_K (dC, dI) classes (tys_ kA) t ∧ va_D (va_A (wd_Grammar_prepare kA a0 a1 a2 a3 a4 a5 a6 x0_6 f1 f2 f3 f4 f5 f6) sz) (wd_Grammar_prepare kA a0 a1 a2 a3 a4 a5 a6 x0_6 of1 of2 of3 of4 of5 of6)) (va_A (wd_Grammar_prepare kA a0 a1 a2 a3 a4 a5 a6 x0_6 f1 f2 f3 f4 f5 f6) sz)) 0 0 (va_A (wd_Grammar_prepare kA a0 a1 a2 a3 a4 a5 a6 x0_6 f1 f2 f3 f4 f5 f6) sz) := by
  refine Met.ofW (cc := b_Grammar_prepare) (maxL := 1) (ret := some .boolean) (by decide) rfl ?_
  intro p e s m args below meth c s₁ B hml hv
  obtain ⟨rfl, hsz, hP, hK, hD0⟩ := hv
  have hx := B.exec
  have hb := B.bytes
  have hr := B.returns
  have hts := atoms_spec (ws := w_Grammar_prepare) B.pre
  have hown : s.vm.findClass R_Grammar = some m.cls := findClass_of_methodNamed B.named
  have hg := fun (w : Cond) (h : w ∈ gw) => hts w (List.mem_cons_of_mem _ h)
  have hlocks := B.notSynchronized
  subst hsz
  have hD := hD0.self (sz := s.heap.size)
  generalize hAe : va_A (wd_Grammar_prepare kA a0 a1 a2 a3 a4 a5 a6 x0_6 f1 f2 f3 f4 f5 f6) s.heap.size = A at hD ⊢
  have hA : ∀ q : Nat, s.heap.size ≤ q → A q := fun q h => by rw [← hAe]; exact Or.inr h
  have hS : va_S A s.heap s.heap [] := va_S.rf
  have hl := lv_entry ([.ref a0]) (n := 1) (Nat.le_of_ble_eq_true rfl)
  rw [lg_entry_eq]
  generalize (lg_sl ([.ref a0]) ++ List.replicate (1 - (lg_sl ([.ref a0])).length) Slot.unset).toArray = ls at hl ⊢
  have hl : lv_has ls 1 [(0, .ref a0)] := hl
  unfold S_Grammar_prepare at hF
  refine lv_aload_n hx hb d_Grammar_prepare_0 rfl (lv_at hl 0 rfl) ?_
  refine va_get (D := (dC, dI)) (ci := 2) (v := .int x0_6) (C := R_Grammar) (T := F_Grammar) (N := 7) hx hb hg iw_Grammar hown hK hP 0 rfl rfl 6 (by decide) (hg _ gw_20) (fun _ h9 => h9) rfl d_Grammar_prepare_1 ?_
  refine lv_if_ne (tgt := 9) hx hb d_Grammar_prepare_4 (by decide) (fun c_1 => ?_) (fun c_1 => ?_)
  · rw [if_pos c_1] at hF
    refine lv_aload_n hx hb d_Grammar_prepare_9 rfl (lv_at hl 0 rfl) ?_
    obtain ⟨u_2, hS_2, hF⟩ := rd_bind hF
    have hPc := hP.sub (ws' := (wd_Grammar_findUsed kA a0 a2 a3 a4 a5 a6 (.ref a1) x0_6 f2 f3 f4 f5 f6)) [0, 2, 3, 4, 5, 6] rfl
    have hDc := hD.sub (ws' := (wd_Grammar_findUsed kA a0 a2 a3 a4 a5 a6 (.ref a1) x0_6 f2 f3 f4 f5 f6)) [0, 2, 3, 4, 5, 6] (by decide) rfl
    have hFc := va_free (wc := (wd_Grammar_findUsed kA a0 a2 a3 a4 a5 a6 (.ref a1) x0_6 f2 f3 f4 f5 f6)) hD hS hA [0, 2, 3, 4, 5, 6] rfl
    refine va_callv (va_runV (As := []) (rest := []) ⟨hx, hb, hml, hown, hts⟩ (c_Grammar_findUsed l dC dI kA s.heap.size a0 a2 a3 a4 a5 a6 (.ref a1) x0_6 f2 f3 f4 f5 f6 u_2.1 u_2.2 hS_2) (cwV 0 hts (gw_V gw_67 gw_68 gw_69 gw_42 gw_70) rfl rfl rfl (by decide +kernel) ⟨Nat.le_of_ble_eq_true rfl, Nat.le_of_ble_eq_true rfl⟩) ⟨fun a U g mk q => by obtain ⟨q0, q1, qP, qK, qD⟩ := q; exact ⟨q0, q1, qP, va_K.moved (u := U) (U := U.calling g mk a) (Vm.Alike.refl U.vm) qK, qD⟩, va_recv hK hP (ci := 2) (q0 := 0) rfl rfl, fun U hU hW => ⟨rfl, by rw [hU], by rw [hU]; exact hPc, va_K.moved hW.alike hK, hDc.weaken (fun _ _ _ _ => trivial)⟩⟩ rfl rfl hl.1 rfl (lv_room (Nat.le_of_ble_eq_true rfl)) d_Grammar_prepare_10 ⟨Nat.zero_le _, Nat.zero_le _⟩) hS (fun q _ h => hFc q h) hFc (fun u t H1 locs ht hvm hw hB hz1 hk1 hS => ?_)
    obtain ⟨hP1, hK1, hD1⟩ := hB
    rw [ht] at hP1
    obtain ⟨hP, hD⟩ := va_join (wr := [(a1, .inl (kA 0, 6, .inl f1))]) (w1 := (wd_Grammar_findUsed kA a0 a2 a3 a4 a5 a6 (.ref a1) x0_6 u_2.1 f3 f4 f5 u_2.2)) hP hD [0, 2, 3, 4, 5, 6] [1] rfl rfl (by decide) (by decide) hk1 hFc hP1 hD1
    have hP := hP.sub (ws' := (wd_Grammar_prepare kA a0 a1 a2 a3 a4 a5 a6 x0_6 f1 u_2.1 f3 f4 f5 u_2.2)) [1, 0, 2, 3, 4, 5, 6] rfl
    have hD := hD.sub (ws' := (wd_Grammar_prepare kA a0 a1 a2 a3 a4 a5 a6 x0_6 f1 u_2.1 f3 f4 f5 u_2.2)) [1, 0, 2, 3, 4, 5, 6] (by decide) rfl
    clear hPc hDc hFc hP1 hK1 hD1
    generalize H1 = H at hP hS ⊢
    refine lv_aload_n hx hb d_Grammar_prepare_13 rfl (lv_at hl 0 rfl) ?_
    obtain ⟨u_3, hS_3, hF⟩ := rd_bind hF
    have hPc := hP.sub (ws' := (wd_Grammar_findFirsts kA a0 a1 a3 a4 a5 a6 (.ref a2) x0_6 f1 f3 f4 f5 u_2.2)) [0, 1, 3, 4, 5, 6] rfl
    have hDc := hD.sub (ws' := (wd_Grammar_findFirsts kA a0 a1 a3 a4 a5 a6 (.ref a2) x0_6 f1 f3 f4 f5 u_2.2)) [0, 1, 3, 4, 5, 6] (by decide) rfl
    have hFc := va_free (wc := (wd_Grammar_findFirsts kA a0 a1 a3 a4 a5 a6 (.ref a2) x0_6 f1 f3 f4 f5 u_2.2)) hD hS hA [0, 1, 3, 4, 5, 6] rfl
    refine va_callv (va_runV (As := []) (rest := []) ⟨hx, hb, hml, hown, hts⟩ (c_Grammar_findFirsts l dC dI kA H.size a0 a1 a3 a4 a5 a6 (.ref a2) x0_6 f1 f3 f4 f5 u_2.2 u_3 hS_3) (cwV 0 hts (gw_V gw_71 gw_72 gw_73 gw_42 gw_74) rfl rfl rfl (by decide +kernel) ⟨Nat.le_of_ble_eq_true rfl, Nat.le_of_ble_eq_true rfl⟩) ⟨fun a U g mk q => by obtain ⟨q0, q1, qP, qK, qD⟩ := q; exact ⟨q0, q1, qP, va_K.moved (u := U) (U := U.calling g mk a) (Vm.Alike.refl U.vm) qK, qD⟩, va_recv hK hP (ci := 2) (q0 := 0) rfl rfl, fun U hU hW => ⟨rfl, by rw [hU], by rw [hU]; exact hPc, va_K.moved hW.alike hK, hDc.weaken (fun _ _ _ _ => trivial)⟩⟩ rfl rfl hl.1 rfl (lv_room (Nat.le_of_ble_eq_true rfl)) d_Grammar_prepare_14 ⟨Nat.zero_le _, Nat.zero_le _⟩) hS (fun q _ h => hFc q h) hFc (fun u t H1 locs ht hvm hw hB hz1 hk1 hS => ?_)
    obtain ⟨hP1, hK1, hD1⟩ := hB
    rw [ht] at hP1
    obtain ⟨hP, hD⟩ := va_join (wr := [(a2, .inl (kA 1, 6, .inl u_2.1))]) (w1 := (wd_Grammar_findFirsts kA a0 a1 a3 a4 a5 a6 (.ref a2) x0_6 u_3 f3 f4 f5 u_2.2)) hP hD [0, 1, 3, 4, 5, 6] [2] rfl rfl (by decide) (by decide) hk1 hFc hP1 hD1
    have hP := hP.sub (ws' := (wd_Grammar_prepare kA a0 a1 a2 a3 a4 a5 a6 x0_6 u_3 u_2.1 f3 f4 f5 u_2.2)) [1, 2, 0, 3, 4, 5, 6] rfl
    have hD := hD.sub (ws' := (wd_Grammar_prepare kA a0 a1 a2 a3 a4 a5 a6 x0_6 u_3 u_2.1 f3 f4 f5 u_2.2)) [1, 2, 0, 3, 4, 5, 6] (by decide) rfl
    clear hPc hDc hFc hP1 hK1 hD1
    generalize H1 = H at hP hS ⊢
    refine lv_aload_n hx hb d_Grammar_prepare_17 rfl (lv_at hl 0 rfl) ?_
    refine va_get (D := (dC, dI)) (ci := 2) (v := .ref a3) (C := R_Grammar) (T := F_Grammar) (N := 7) hx hb hg iw_Grammar hown hK hP 0 rfl rfl 0 (by decide) (hg _ gw_23) (fun _ h9 => h9) rfl d_Grammar_prepare_18 ?_
    refine lv_bipush (v := 10) hx hb d_Grammar_prepare_21 (by decide) ?_
    refine lv_iconst (v := (-1)) hx hb d_Grammar_prepare_23 (by decide) ?_
    obtain ⟨h_4, hF⟩ := rd_chk hF
    refine va_iast hx hb hK hP hD hS 3 0 rfl rfl h_4 d_Grammar_prepare_24 (fun H locs hP hD hS => ?_)
    have hP : va_P (dC, dI) classes (wd_Grammar_prepare kA a0 a1 a2 a3 a4 a5 a6 x0_6 u_3 u_2.1 (upd f3 (Int32.toNatClampNeg 10) (-1)) f4 f5 u_2.2) H := hP
    have hD : va_D A (wd_Grammar_prepare kA a0 a1 a2 a3 a4 a5 a6 x0_6 u_3 u_2.1 (upd f3 (Int32.toNatClampNeg 10) (-1)) f4 f5 u_2.2) := hD
    refine lv_aload_n hx hb d_Grammar_prepare_25 rfl (lv_at hl 0 rfl) ?_
    refine va_get (D := (dC, dI)) (ci := 2) (v := .ref a5) (C := R_Grammar) (T := F_Grammar) (N := 7) hx hb hg iw_Grammar hown hK hP 0 rfl rfl 1 (by decide) (hg _ gw_24) (fun _ h9 => h9) rfl d_Grammar_prepare_26 ?_
    refine lv_bipush (v := 10) hx hb d_Grammar_prepare_29 (by decide) ?_
    refine lv_iconst (v := 1) hx hb d_Grammar_prepare_31 (by decide) ?_
    obtain ⟨h_5, hF⟩ := rd_chk hF
    refine va_iast hx hb hK hP hD hS 5 0 rfl rfl h_5 d_Grammar_prepare_32 (fun H locs hP hD hS => ?_)
    have hP : va_P (dC, dI) classes (wd_Grammar_prepare kA a0 a1 a2 a3 a4 a5 a6 x0_6 u_3 u_2.1 (upd f3 (Int32.toNatClampNeg 10) (-1)) f4 (upd f5 (Int32.toNatClampNeg 10) 1) u_2.2) H := hP
    have hD : va_D A (wd_Grammar_prepare kA a0 a1 a2 a3 a4 a5 a6 x0_6 u_3 u_2.1 (upd f3 (Int32.toNatClampNeg 10) (-1)) f4 (upd f5 (Int32.toNatClampNeg 10) 1) u_2.2) := hD
    refine lv_aload_n hx hb d_Grammar_prepare_33 rfl (lv_at hl 0 rfl) ?_
    refine va_get (D := (dC, dI)) (ci := 2) (v := .ref a4) (C := R_Grammar) (T := F_Grammar) (N := 7) hx hb hg iw_Grammar hown hK hP 0 rfl rfl 2 (by decide) (hg _ gw_30) (fun _ h9 => h9) rfl d_Grammar_prepare_34 ?_
    refine lv_bipush (v := 40) hx hb d_Grammar_prepare_37 (by decide) ?_
    refine lv_aload_n hx hb d_Grammar_prepare_39 rfl (lv_at hl 0 rfl) ?_
    refine va_get (D := (dC, dI)) (ci := 2) (v := .ref a3) (C := R_Grammar) (T := F_Grammar) (N := 7) hx hb hg iw_Grammar hown hK hP 0 rfl rfl 0 (by decide) (hg _ gw_23) (fun _ h9 => h9) rfl d_Grammar_prepare_40 ?_
    refine lv_iconst (v := 0) hx hb d_Grammar_prepare_43 (by decide) ?_
    obtain ⟨h_6, hF⟩ := rd_chk hF
    refine va_iald hx hb hK hP 3 0 rfl rfl h_6 d_Grammar_prepare_44 ?_
    obtain ⟨h_7, hF⟩ := rd_chk hF
    refine va_iast hx hb hK hP hD hS 4 0 rfl rfl h_7 d_Grammar_prepare_45 (fun H locs hP hD hS => ?_)
    have hP : va_P (dC, dI) classes (wd_Grammar_prepare kA a0 a1 a2 a3 a4 a5 a6 x0_6 u_3 u_2.1 (upd f3 (Int32.toNatClampNeg 10) (-1)) (upd f4 (Int32.toNatClampNeg 40) ((upd f3 (Int32.toNatClampNeg 10) (-1)) (Int32.toNatClampNeg 0))) (upd f5 (Int32.toNatClampNeg 10) 1) u_2.2) H := hP
    have hD : va_D A (wd_Grammar_prepare kA a0 a1 a2 a3 a4 a5 a6 x0_6 u_3 u_2.1 (upd f3 (Int32.toNatClampNeg 10) (-1)) (upd f4 (Int32.toNatClampNeg 40) ((upd f3 (Int32.toNatClampNeg 10) (-1)) (Int32.toNatClampNeg 0))) (upd f5 (Int32.toNatClampNeg 10) 1) u_2.2) := hD
    refine lv_aload_n hx hb d_Grammar_prepare_46 rfl (lv_at hl 0 rfl) ?_
    refine va_get (D := (dC, dI)) (ci := 2) (v := .ref a6) (C := R_Grammar) (T := F_Grammar) (N := 7) hx hb hg iw_Grammar hown hK hP 0 rfl rfl 3 (by decide) (hg _ gw_49) (fun _ h9 => h9) rfl d_Grammar_prepare_47 ?_
    refine lv_bipush (v := 10) hx hb d_Grammar_prepare_50 (by decide) ?_
    refine lv_iconst (v := 1) hx hb d_Grammar_prepare_52 (by decide) ?_
    obtain ⟨h_8, hF⟩ := rd_chk hF
    refine va_zast hx hb hK hP hD hS 6 1 rfl rfl h_8 d_Grammar_prepare_53 (fun H locs hP hD hS => ?_)
    have hP : va_P (dC, dI) classes (wd_Grammar_prepare kA a0 a1 a2 a3 a4 a5 a6 x0_6 u_3 u_2.1 (upd f3 (Int32.toNatClampNeg 10) (-1)) (upd f4 (Int32.toNatClampNeg 40) ((upd f3 (Int32.toNatClampNeg 10) (-1)) (Int32.toNatClampNeg 0))) (upd f5 (Int32.toNatClampNeg 10) 1) (upd u_2.2 (Int32.toNatClampNeg 10) (vp_nar .boolean 1))) H := hP
    have hD : va_D A (wd_Grammar_prepare kA a0 a1 a2 a3 a4 a5 a6 x0_6 u_3 u_2.1 (upd f3 (Int32.toNatClampNeg 10) (-1)) (upd f4 (Int32.toNatClampNeg 40) ((upd f3 (Int32.toNatClampNeg 10) (-1)) (Int32.toNatClampNeg 0))) (upd f5 (Int32.toNatClampNeg 10) 1) (upd u_2.2 (Int32.toNatClampNeg 10) (vp_nar .boolean 1))) := hD
    refine lv_aload_n hx hb d_Grammar_prepare_54 rfl (lv_at hl 0 rfl) ?_
    refine lv_aload_n hx hb d_Grammar_prepare_55 rfl (lv_at hl 0 rfl) ?_
    refine va_get (D := (dC, dI)) (ci := 2) (v := .ref a3) (C := R_Grammar) (T := F_Grammar) (N := 7) hx hb hg iw_Grammar hown hK hP 0 rfl rfl 0 (by decide) (hg _ gw_23) (fun _ h9 => h9) rfl d_Grammar_prepare_56 ?_
    refine lv_iconst (v := 0) hx hb d_Grammar_prepare_59 (by decide) ?_
    obtain ⟨h_9, hF⟩ := rd_chk hF
    refine va_iald hx hb hK hP 3 0 rfl rfl h_9 d_Grammar_prepare_60 ?_
    obtain ⟨u_10, hS_10, hF⟩ := rd_bind hF
    have hPc := hP.sub (ws' := (wd_Grammar_isFruitful kA a0 a2 (.ref a3) (.ref a5) (.ref a4) (.ref a6) (.ref a1) (.int x0_6) u_2.1)) [0, 2] rfl
    have hDc := hD.sub (ws' := (wd_Grammar_isFruitful kA a0 a2 (.ref a3) (.ref a5) (.ref a4) (.ref a6) (.ref a1) (.int x0_6) u_2.1)) [0, 2] (by decide) rfl
    have hFc := va_free (wc := (wd_Grammar_isFruitful kA a0 a2 (.ref a3) (.ref a5) (.ref a4) (.ref a6) (.ref a1) (.int x0_6) u_2.1)) hD hS hA [0, 2] rfl
    refine va_calli (va_runV (As := [.int ((upd f3 (Int32.toNatClampNeg 10) (-1)) (Int32.toNatClampNeg 0))]) (rest := []) ⟨hx, hb, hml, hown, hts⟩ (c_Grammar_isFruitful l dC dI kA H.size a0 a2 (.ref a3) (.ref a5) (.ref a4) (.ref a6) (.ref a1) (.int x0_6) ((upd f3 (Int32.toNatClampNeg 10) (-1)) (Int32.toNatClampNeg 0)) u_2.1 u_10 hS_10) (cwV 1 hts (gw_V gw_45 gw_46 gw_47 gw_42 gw_48) rfl rfl rfl (by decide +kernel) ⟨Nat.le_of_ble_eq_true rfl, Nat.le_of_ble_eq_true rfl⟩) ⟨fun a U g mk q => by obtain ⟨q0, q1, qP, qK, qD⟩ := q; exact ⟨q0, q1, qP, va_K.moved (u := U) (U := U.calling g mk a) (Vm.Alike.refl U.vm) qK, qD⟩, va_recv hK hP (ci := 2) (q0 := 0) rfl rfl, fun U hU hW => ⟨rfl, by rw [hU], by rw [hU]; exact hPc, va_K.moved hW.alike hK, hDc.weaken (fun _ _ _ _ => trivial)⟩⟩ rfl rfl hl.1 rfl (lv_room (Nat.le_of_ble_eq_true rfl)) d_Grammar_prepare_61 ⟨Nat.zero_le _, Nat.zero_le _⟩) hS (fun q _ h => hFc q h) hFc (fun r1 u t H1 locs ht hvm hw hB hz1 hk1 hS => ?_)
    rw [show r1 = _ from hw]
    obtain ⟨hP1, hK1, hD1⟩ := hB
    rw [ht] at hP1
    obtain ⟨hP, hD⟩ := va_join (wr := [(a1, .inl (kA 0, 6, .inl u_3)), (a3, .inl (kA 0, 12, .inl (upd f3 (Int32.toNatClampNeg 10) (-1)))), (a4, .inl (kA 0, 48, .inl (upd f4 (Int32.toNatClampNeg 40) ((upd f3 (Int32.toNatClampNeg 10) (-1)) (Int32.toNatClampNeg 0))))), (a5, .inl (kA 0, 12, .inl (upd f5 (Int32.toNatClampNeg 10) 1))), (a6, .inl (kA 1, 12, .inl (upd u_2.2 (Int32.toNatClampNeg 10) (vp_nar .boolean 1))))]) (w1 := (wd_Grammar_isFruitful kA a0 a2 (.ref a3) (.ref a5) (.ref a4) (.ref a6) (.ref a1) (.int x0_6) u_2.1)) hP hD [0, 2] [1, 3, 4, 5, 6] rfl rfl (by decide) (by decide) hk1 hFc hP1 hD1
    have hP := hP.sub (ws' := (wd_Grammar_prepare kA a0 a1 a2 a3 a4 a5 a6 x0_6 u_3 u_2.1 (upd f3 (Int32.toNatClampNeg 10) (-1)) (upd f4 (Int32.toNatClampNeg 40) ((upd f3 (Int32.toNatClampNeg 10) (-1)) (Int32.toNatClampNeg 0))) (upd f5 (Int32.toNatClampNeg 10) 1) (upd u_2.2 (Int32.toNatClampNeg 10) (vp_nar .boolean 1)))) [5, 0, 6, 1, 2, 3, 4] rfl
    have hD := hD.sub (ws' := (wd_Grammar_prepare kA a0 a1 a2 a3 a4 a5 a6 x0_6 u_3 u_2.1 (upd f3 (Int32.toNatClampNeg 10) (-1)) (upd f4 (Int32.toNatClampNeg 40) ((upd f3 (Int32.toNatClampNeg 10) (-1)) (Int32.toNatClampNeg 0))) (upd f5 (Int32.toNatClampNeg 10) 1) (upd u_2.2 (Int32.toNatClampNeg 10) (vp_nar .boolean 1)))) [5, 0, 6, 1, 2, 3, 4] (by decide) rfl
    clear hPc hDc hFc hP1 hK1 hD1
    generalize H1 = H at hP hS ⊢
    obtain ⟨b_11, hF⟩ := rd_bool hF
    have e0 := Option.some.inj hF
    have q0 := Prod.mk.inj e0
    have q1 := Prod.mk.inj q0.2
    have q2 := Prod.mk.inj q1.2
    have q3 := Prod.mk.inj q2.2
    have q4 := Prod.mk.inj q3.2
    have q5 := Prod.mk.inj q4.2
    exact W.zret (v := u_10) hx hb hr (rd_nb b_11) (fun t ht hW => ⟨⟨u_10, (), rfl, q0.1, by rw [ht, ← q1.1, ← q2.1, ← q3.1, ← q4.1, ← q5.1, ← q5.2]; exact hP, va_K.moved hW.alike hK, (by rw [← q1.1, ← q2.1, ← q3.1, ← q4.1, ← q5.1, ← q5.2]; exact hD)⟩, hS.F ht⟩) hS.2.2 d_Grammar_prepare_64 hlocks
  · rw [if_neg (fun z => z c_1)] at hF
    refine lv_iconst (v := 0) hx hb d_Grammar_prepare_7 (by decide) ?_
    have e0 := Option.some.inj hF
    have q0 := Prod.mk.inj e0
    have q1 := Prod.mk.inj q0.2
    have q2 := Prod.mk.inj q1.2
    have q3 := Prod.mk.inj q2.2
    have q4 := Prod.mk.inj q3.2
    have q5 := Prod.mk.inj q4.2
    exact W.zret (v := 0) hx hb hr rfl (fun t ht hW => ⟨⟨0, (), rfl, q0.1, by rw [ht, ← q1.1, ← q2.1, ← q3.1, ← q4.1, ← q5.1, ← q5.2]; exact hP, va_K.moved hW.alike hK, (by rw [← q1.1, ← q2.1, ← q3.1, ← q4.1, ← q5.1, ← q5.2]; exact hD)⟩, hS.F ht⟩) hS.2.2 d_Grammar_prepare_8 hlocks
-- ===== RepairDesk$Grammar.isUsed(I)Z
abbrev wd_Grammar_isUsed (kA : Nat → ClassId) (a0 a1 : Nat) (v0_0 v0_1 v0_2 v0_4 v0_5 v0_6 : Value) (f1 : (Nat → Int32)) : va_W := [(a0, .inr (2, [v0_0, v0_1, v0_2, .ref a1, v0_4, v0_5, v0_6])), (a1, .inl (kA 1, 12, .inl f1))]
abbrev rm_Grammar_isUsed : Room := { frames := 0, cells := 0, slots := 0, locals := 0 }
def S_Grammar_isUsed (p1 : Int32) (f1 : (Nat → Int32)) : Option (Int32) := (if p1 < 0 then (some 0) else (if 12 ≤ p1 then (some 0) else (if (p1 : Int32) < 0 ∨ 12 ≤ (Int32.toNatClampNeg p1) then none else (if (f1 (Int32.toNatClampNeg p1)) = 0 then (some 0) else (some 1)))))
set_option maxHeartbeats 4000000 in
set_option maxRecDepth 100000 in
theorem c_Grammar_isUsed (l : Launch) (dC : Nat → ClassId) (dI : Nat → Nat → Nat) (kA : Nat → ClassId) (sz : Nat) (a0 a1 : Nat) (v0_0 v0_1 v0_2 v0_4 v0_5 v0_6 : Value) (p1 : Int32) (f1 : (Nat → Int32)) (r : Int32) (hF : S_Grammar_isUsed p1 f1 = some r) : Met l y_Grammar_isUsed w_Grammar_isUsed rm_Grammar_isUsed (va_Pc [.ref a0, .int p1] (fun U => U.heap.size = sz ∧ va_P (dC, dI) classes (wd_Grammar_isUsed kA a0 a1 v0_0 v0_1 v0_2 v0_4 v0_5 v0_6 f1) U.heap ∧ va_K (dC, dI) classes (tys_ kA) U ∧ va_D (fun _ => True) (wd_Grammar_isUsed kA a0 a1 v0_0 v0_1 v0_2 v0_4 v0_5 v0_6 f1))) (va_Qi (fun (r1 : Int32) (_ : Unit) => r1 = r) (fun _ t => va_P (dC, dI) classes (wd_Grammar_isUsed kA a0 a1 v0_0 v0_1 v0_2 v0_4 v0_5 v0_6 f1) t.heap ∧ va_K (dC, dI) classes (tys_ kA) t ∧ va_D (va_A (wd_Grammar_isUsed kA a0 a1 v0_0 v0_1 v0_2 v0_4 v0_5 v0_6 f1) sz) (wd_Grammar_isUsed kA a0 a1 v0_0 v0_1 v0_2 v0_4 v0_5 v0_6 f1)) (va_A (wd_Grammar_isUsed kA a0 a1 v0_0 v0_1 v0_2 v0_4 v0_5 v0_6 f1) sz)) 0 0 (va_A (wd_Grammar_isUsed kA a0 a1 v0_0 v0_1 v0_2 v0_4 v0_5 v0_6 f1) sz) := by
  refine Met.ofW (cc := b_Grammar_isUsed) (maxL := 2) (ret := some .boolean) (by decide) rfl ?_
  intro p e s m args below meth c s₁ B hml hv
  obtain ⟨rfl, hsz, hP, hK, hD0⟩ := hv
  have hx := B.exec
  have hb := B.bytes
  have hr := B.returns
  have hts := atoms_spec (ws := w_Grammar_isUsed) B.pre
  have hown : s.vm.findClass R_Grammar = some m.cls := findClass_of_methodNamed B.named
  have hg := fun (w : Cond) (h : w ∈ gw) => hts w (List.mem_cons_of_mem _ h)
  have hlocks := B.notSynchronized
  subst hsz
  have hD := hD0.self (sz := s.heap.size)
  generalize hAe : va_A (wd_Grammar_isUsed kA a0 a1 v0_0 v0_1 v0_2 v0_4 v0_5 v0_6 f1) s.heap.size = A at hD ⊢
  have hA : ∀ q : Nat, s.heap.size ≤ q → A q := fun q h => by rw [← hAe]; exact Or.inr h
  have hS : va_S A s.heap s.heap [] := va_S.rf
  have hl := lv_entry ([.ref a0, .int p1]) (n := 2) (Nat.le_of_ble_eq_true rfl)
  rw [lg_entry_eq]
  generalize (lg_sl ([.ref a0, .int p1]) ++ List.replicate (2 - (lg_sl ([.ref a0, .int p1])).length) Slot.unset).toArray = ls at hl ⊢
  have hl : lv_has ls 2 [(0, .ref a0), (1, .int p1)] := hl
  unfold S_Grammar_isUsed at hF
  refine lv_iload_n hx hb d_Grammar_isUsed_0 rfl (lv_at hl 1 rfl) ?_
  refine lv_if_lt (tgt := 23) hx hb d_Grammar_isUsed_1 (by decide) (fun c_1 => ?_) (fun c_1 => ?_)
  · rw [if_pos c_1] at hF
    refine lv_iconst (v := 0) hx hb d_Grammar_isUsed_23 (by decide) ?_
    have e0 := Option.some.inj hF
    exact W.zret (v := 0) hx hb hr rfl (fun t ht hW => ⟨⟨0, (), rfl, e0, by rw [ht]; exact hP, va_K.moved hW.alike hK, (by exact hD)⟩, hS.F ht⟩) hS.2.2 d_Grammar_isUsed_24 hlocks
  · rw [if_neg c_1] at hF
    refine lv_iload_n hx hb d_Grammar_isUsed_4 rfl (lv_at hl 1 rfl) ?_
    refine lv_bipush (v := 12) hx hb d_Grammar_isUsed_5 (by decide) ?_
    refine lv_icmp_ge (tgt := 23) hx hb d_Grammar_isUsed_7 (by decide) (fun c_2 => ?_) (fun c_2 => ?_)
    · rw [if_pos c_2] at hF
      refine lv_iconst (v := 0) hx hb d_Grammar_isUsed_23 (by decide) ?_
      have e0 := Option.some.inj hF
      exact W.zret (v := 0) hx hb hr rfl (fun t ht hW => ⟨⟨0, (), rfl, e0, by rw [ht]; exact hP, va_K.moved hW.alike hK, (by exact hD)⟩, hS.F ht⟩) hS.2.2 d_Grammar_isUsed_24 hlocks
    · rw [if_neg c_2] at hF
      refine lv_aload_n hx hb d_Grammar_isUsed_10 rfl (lv_at hl 0 rfl) ?_
      refine va_get (D := (dC, dI)) (ci := 2) (v := .ref a1) (C := R_Grammar) (T := F_Grammar) (N := 7) hx hb hg iw_Grammar hown hK hP 0 rfl rfl 3 (by decide) (hg _ gw_49) (fun _ h9 => h9) rfl d_Grammar_isUsed_11 ?_
      refine lv_iload_n hx hb d_Grammar_isUsed_14 rfl (lv_at hl 1 rfl) ?_
      obtain ⟨h_3, hF⟩ := rd_chk hF
      refine va_zald hx hb hK hP 1 1 rfl rfl h_3 d_Grammar_isUsed_15 ?_
      refine lv_if_eq (tgt := 23) hx hb d_Grammar_isUsed_16 (by decide) (fun c_4 => ?_) (fun c_4 => ?_)
      · rw [if_pos c_4] at hF
        refine lv_iconst (v := 0) hx hb d_Grammar_isUsed_23 (by decide) ?_
        have e0 := Option.some.inj hF
        exact W.zret (v := 0) hx hb hr rfl (fun t ht hW => ⟨⟨0, (), rfl, e0, by rw [ht]; exact hP, va_K.moved hW.alike hK, (by exact hD)⟩, hS.F ht⟩) hS.2.2 d_Grammar_isUsed_24 hlocks
      · rw [if_neg c_4] at hF
        refine lv_iconst (v := 1) hx hb d_Grammar_isUsed_19 (by decide) ?_
        refine lv_goto (tgt := 24) hx hb d_Grammar_isUsed_20 (by decide) ?_
        have e0 := Option.some.inj hF
        exact W.zret (v := 1) hx hb hr rfl (fun t ht hW => ⟨⟨1, (), rfl, e0, by rw [ht]; exact hP, va_K.moved hW.alike hK, (by exact hD)⟩, hS.F ht⟩) hS.2.2 d_Grammar_isUsed_24 hlocks
-- ===== RepairDesk$Grammar.nameOf(I)I
abbrev wd_Grammar_nameOf (kA : Nat → ClassId) (a0 a1 : Nat) (v0_1 v0_2 v0_3 v0_4 v0_5 v0_6 : Value) (f1 : (Nat → Int32)) : va_W := [(a0, .inr (2, [.ref a1, v0_1, v0_2, v0_3, v0_4, v0_5, v0_6])), (a1, .inl (kA 0, 12, .inl f1))]
abbrev rm_Grammar_nameOf : Room := { frames := 0, cells := 0, slots := 0, locals := 0 }
def S_Grammar_nameOf (p1 : Int32) (f1 : (Nat → Int32)) : Option (Int32) := (if p1 < 0 then (some (-1)) else (if 12 ≤ p1 then (some (-1)) else (if (p1 : Int32) < 0 ∨ 12 ≤ (Int32.toNatClampNeg p1) then none else (some (f1 (Int32.toNatClampNeg p1))))))
set_option maxHeartbeats 4000000 in
set_option maxRecDepth 100000 in
theorem c_Grammar_nameOf (l : Launch) (dC : Nat → ClassId) (dI : Nat → Nat → Nat) (kA : Nat → ClassId) (sz : Nat) (a0 a1 : Nat) (v0_1 v0_2 v0_3 v0_4 v0_5 v0_6 : Value) (p1 : Int32) (f1 : (Nat → Int32)) (r : Int32) (hF : S_Grammar_nameOf p1 f1 = some r) : Met l y_Grammar_nameOf w_Grammar_nameOf rm_Grammar_nameOf (va_Pc [.ref a0, .int p1] (fun U => U.heap.size = sz ∧ va_P (dC, dI) classes (wd_Grammar_nameOf kA a0 a1 v0_1 v0_2 v0_3 v0_4 v0_5 v0_6 f1) U.heap ∧ va_K (dC, dI) classes (tys_ kA) U ∧ va_D (fun _ => True) (wd_Grammar_nameOf kA a0 a1 v0_1 v0_2 v0_3 v0_4 v0_5 v0_6 f1))) (va_Qi (fun (r1 : Int32) (_ : Unit) => r1 = r) (fun _ t => va_P (dC, dI) classes (wd_Grammar_nameOf kA a0 a1 v0_1 v0_2 v0_3 v0_4 v0_5 v0_6 f1) t.heap ∧ va_K (dC, dI) classes (tys_ kA) t ∧ va_D (va_A (wd_Grammar_nameOf kA a0 a1 v0_1 v0_2 v0_3 v0_4 v0_5 v0_6 f1) sz) (wd_Grammar_nameOf kA a0 a1 v0_1 v0_2 v0_3 v0_4 v0_5 v0_6 f1)) (va_A (wd_Grammar_nameOf kA a0 a1 v0_1 v0_2 v0_3 v0_4 v0_5 v0_6 f1) sz)) 0 0 (va_A (wd_Grammar_nameOf kA a0 a1 v0_1 v0_2 v0_3 v0_4 v0_5 v0_6 f1) sz) := by
  refine Met.ofW (cc := b_Grammar_nameOf) (maxL := 2) (ret := some .int) (by decide) rfl ?_
  intro p e s m args below meth c s₁ B hml hv
  obtain ⟨rfl, hsz, hP, hK, hD0⟩ := hv
  have hx := B.exec
  have hb := B.bytes
  have hr := B.returns
  have hts := atoms_spec (ws := w_Grammar_nameOf) B.pre
  have hown : s.vm.findClass R_Grammar = some m.cls := findClass_of_methodNamed B.named
  have hg := fun (w : Cond) (h : w ∈ gw) => hts w (List.mem_cons_of_mem _ h)
  have hlocks := B.notSynchronized
  subst hsz
  have hD := hD0.self (sz := s.heap.size)
  generalize hAe : va_A (wd_Grammar_nameOf kA a0 a1 v0_1 v0_2 v0_3 v0_4 v0_5 v0_6 f1) s.heap.size = A at hD ⊢
  have hA : ∀ q : Nat, s.heap.size ≤ q → A q := fun q h => by rw [← hAe]; exact Or.inr h
  have hS : va_S A s.heap s.heap [] := va_S.rf
  have hl := lv_entry ([.ref a0, .int p1]) (n := 2) (Nat.le_of_ble_eq_true rfl)
  rw [lg_entry_eq]
  generalize (lg_sl ([.ref a0, .int p1]) ++ List.replicate (2 - (lg_sl ([.ref a0, .int p1])).length) Slot.unset).toArray = ls at hl ⊢
  have hl : lv_has ls 2 [(0, .ref a0), (1, .int p1)] := hl
  unfold S_Grammar_nameOf at hF
  refine lv_iload_n hx hb d_Grammar_nameOf_0 rfl (lv_at hl 1 rfl) ?_
  refine lv_if_lt (tgt := 19) hx hb d_Grammar_nameOf_1 (by decide) (fun c_1 => ?_) (fun c_1 => ?_)
  · rw [if_pos c_1] at hF
    refine lv_iconst (v := (-1)) hx hb d_Grammar_nameOf_19 (by decide) ?_
    have e0 := Option.some.inj hF
    exact W.iret (v := (-1)) hx hb hr (fun t ht hW => ⟨⟨(-1), (), rfl, e0, by rw [ht]; exact hP, va_K.moved hW.alike hK, (by exact hD)⟩, hS.F ht⟩) hS.2.2 d_Grammar_nameOf_20 hlocks
  · rw [if_neg c_1] at hF
    refine lv_iload_n hx hb d_Grammar_nameOf_4 rfl (lv_at hl 1 rfl) ?_
    refine lv_bipush (v := 12) hx hb d_Grammar_nameOf_5 (by decide) ?_
    refine lv_icmp_ge (tgt := 19) hx hb d_Grammar_nameOf_7 (by decide) (fun c_2 => ?_) (fun c_2 => ?_)
    · rw [if_pos c_2] at hF
      refine lv_iconst (v := (-1)) hx hb d_Grammar_nameOf_19 (by decide) ?_
      have e0 := Option.some.inj hF
      exact W.iret (v := (-1)) hx hb hr (fun t ht hW => ⟨⟨(-1), (), rfl, e0, by rw [ht]; exact hP, va_K.moved hW.alike hK, (by exact hD)⟩, hS.F ht⟩) hS.2.2 d_Grammar_nameOf_20 hlocks
    · rw [if_neg c_2] at hF
      refine lv_aload_n hx hb d_Grammar_nameOf_10 rfl (lv_at hl 0 rfl) ?_
      refine va_get (D := (dC, dI)) (ci := 2) (v := .ref a1) (C := R_Grammar) (T := F_Grammar) (N := 7) hx hb hg iw_Grammar hown hK hP 0 rfl rfl 0 (by decide) (hg _ gw_23) (fun _ h9 => h9) rfl d_Grammar_nameOf_11 ?_
      refine lv_iload_n hx hb d_Grammar_nameOf_14 rfl (lv_at hl 1 rfl) ?_
      obtain ⟨h_3, hF⟩ := rd_chk hF
      refine va_iald hx hb hK hP 1 0 rfl rfl h_3 d_Grammar_nameOf_15 ?_
      refine lv_goto (tgt := 20) hx hb d_Grammar_nameOf_16 (by decide) ?_
      have e0 := Option.some.inj hF
      exact W.iret (v := (f1 (Int32.toNatClampNeg p1))) hx hb hr (fun t ht hW => ⟨⟨(f1 (Int32.toNatClampNeg p1)), (), rfl, e0, by rw [ht]; exact hP, va_K.moved hW.alike hK, (by exact hD)⟩, hS.F ht⟩) hS.2.2 d_Grammar_nameOf_20 hlocks
