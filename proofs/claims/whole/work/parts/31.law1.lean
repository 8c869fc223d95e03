/-! what the law's own walk stands on -/
theorem lw_V {cw : Cond} {own C : String} {idx : Nat} {y : MethodName} (h1 : (.methodLink own idx y : Cond) ∈ gw) (h2 : (.instanceMethod y : Cond) ∈ gw) (h3 : (.selects C y y : Cond) ∈ gw) (h4 : (.initialized C : Cond) ∈ gw) (h5 : cw ∈ gw) : GoodIn lw_tbl (wsV own idx C y (cw :: gw)) := by
  intro w hw
  have h : w ∈ gw := by
    simp only [wsV, List.cons_append, List.nil_append, List.mem_cons] at hw
    rcases hw with rfl | rfl | rfl | rfl | rfl | h
    · exact h1
    · exact h2
    · exact h3
    · exact h4
    · exact h5
    · exact h
  exact gw_in w h
theorem lw_I {cw : Cond} (h5 : cw ∈ gw) : GoodIn lw_tbl (cw :: gw) := by
  intro w hw
  rcases List.mem_cons.mp hw with rfl | h
  · exact gw_in _ h5
  · exact gw_in w h
section RdSW
variable {p : Program} {l : Launch} {e : Env} {R : Room} {s : State} {m : MethodId} {args : Array Value} {below : List Frame} {meth : Method} {c : Code} {H : Heap} {locs : List Loc} {cells slots : Nat}
/-- a static method with a handler table is called -/
theorem rd_runSW {y : MethodName} {bytes cc : ByteArray} {maxL nL mc ms n index : Nat} {ret : Option FieldType} {hh : List (Nat × Nat × Nat × Nat)} {ws : List Cond} {rm : Room} {Pc : Array Value → State → Prop} {Qc : Array Value → State → Outcome → State → Prop} {free : Addr → Prop} {Ts : List Cond} {own : String} {As rest : List Value} {g : JFrame}
    (S : CallFix p m c cc nL s args Ts own) (hM : Met l y ws rm Pc Qc mc ms free) (hrc : rm.cells = mc) (hrs : rm.slots = ms) (hR : rm.frames + 1 ≤ R.frames ∧ 8 + (maxL + 11) + rm.locals ≤ R.locals) (hws : ∀ w ∈ ws, ∀ (a' : Array Value) (U : State), s.WarmedH U.vm → w.before a' U = true) (hcw : Cond.codeWith y bytes maxL ret hh ∈ ws)
    (hlink : (Cond.methodLink own index y).before args s = true) (hstat : (Cond.static y).before args s = true) (hini : (Cond.initialized y.cls).before args s = true) (hy : y.cls ≠ "java/lang/invoke/MethodHandle" ∧ y.cls ≠ "java/lang/invoke/VarHandle") (hlen : (parseMethodDescriptor y.desc).map (fun d => d.parameters.length) = some n) (hp : PreS s H Pc As)
    (hg : g.method = m) (hn : As.length = n) (hsize : g.locals.size = nL) (hstack : g.stack = As.reverse ++ rest) (hW : 2 * g.monitorRoom + (rest.map fun v => v.category).sum ≤ 8) (hdg : decode cc g.pc = .ok (.invokestatic index, 3)) (hf : cells + mc ≤ R.cells ∧ slots + ms ≤ R.slots) :
    va_Run p l e R s m args below meth c H locs cells slots mc ms g rest (Qc As.toArray) free := by
  obtain ⟨hx, hb, hml, ho, -⟩ := S
  intro T hT X
  obtain ⟨mk, methM, cM, hnamed, hmethM, -, -, -, -, -, -, hsigM⟩ := Cond.codeWith_spec (hws _ hcw args s (State.WarmedH.refl s))
  have hstatic : methM.isStatic = true := Cond.static_spec hnamed hmethM hstat
  obtain ⟨kP, hkP, -⟩ := className_of_methodNamed hnamed
  have hinitP : kP.init = .initialized := Cond.initialized_spec (findClass_of_methodNamed hnamed) hkP hini
  have hl9 : As.length = methM.sig.parameters.length := by
    rw [hsigM] at hlen
    exact hn.trans (Option.some.inj hlen).symm
  obtain ⟨vm₁, X₁, hstep₁⟩ := X.invokestatic hx ho hlink hnamed hmethM hstatic hkP hinitP hy (g := g) hg (argsL := As) (rest := rest) hl9 hstack (by rw [hb]; exact hdg)
  have hK : Back l R p e below s args y 3 8 (PreOf R mc ms Pc) (PostOf Qc mc ms free) := va_backW (bytes := bytes) (maxL := maxL) (ret := ret) (hh := hh) hM hp.1 hrc hrs hR.1 hR.2 hws hcw (fun a' U hW => word_at hW (Or.inl (by first | rfl | simp [Cond.onTables, Cond.keeps, Cond.steady])) hini)
  obtain ⟨v, ⟨U', l2, c2, s2⟩, X', ⟨g', mk', t, L, e1, e2, hq, h1, hL, h2, h3⟩, st⟩ := hK m meth c ⟨T.setVm vm₁, locs, cells, slots⟩ { g with stack := rest } (.invokestatic index) mk As.toArray X₁ hg (hsize.trans hml.symm) (by rw [hb]; exact hdg) hW (X₁.named hnamed) ⟨hf.1, hf.2, hp.2 (T.setVm vm₁) hT X₁.warmed⟩
  dsimp only [Pt.U, Pt.locs, Pt.cells, Pt.slots] at X' e1 e2 h1 h2 h3 st
  subst h1; subst h2; subst h3
  exact ⟨v, (T.setVm vm₁).calling g' mk' As.toArray, t, U', L, hT, X', hL, e1, e2, hq, fun target h => hstep₁ _ fun acts => by rw [doInvoke_state]; exact st.trans h⟩
end RdSW
/-- a helper's words, at any warmer state -/
theorem lw_helpW {s : State} {args : Array Value} (hts : ∀ w ∈ lw_tbl, w.before args s = true) {cw : Cond} (hc : cw ∈ lw_tbl ∧ ((cw.onTables && cw.keeps) = true ∨ ∃ ty, cw = .arrayClass ty)) : ∀ w ∈ cw :: gw, ∀ (a' : Array Value) (U : State), s.WarmedH U.vm → w.before a' U = true := by
  intro w hw a' U hW
  rcases List.mem_cons.mp hw with rfl | h
  · exact word_at hW hc.2 (hts _ hc.1)
  · exact word_at hW (gw_in w h).2 (hts _ (gw_in w h).1)
def cd_rule (k : Int32) : Int32 := (if k = 1 then 1 else (if k = 2 then 2 else 0))
theorem hk_rule {k : Int32} (h : k = 0 ∨ k = 1 ∨ k = 2) : k = 0 ∧ cd_rule k = 0 ∨ k = 1 ∧ cd_rule k = 1 ∨ k = 2 ∧ cd_rule k = 2 := by
  rcases h with rfl | rfl | rfl <;> decide
set_option maxRecDepth 100000 in
theorem cw_rule : (.codeWith y_Law_rule b_Law_rule 3 (some .int) [(0, 8, 11, 13), (0, 8, 14, 15)] : Cond) ∈ lw_tbl ∧ (((.codeWith y_Law_rule b_Law_rule 3 (some .int) [(0, 8, 11, 13), (0, 8, 14, 15)] : Cond).onTables && (.codeWith y_Law_rule b_Law_rule 3 (some .int) [(0, 8, 11, 13), (0, 8, 14, 15)] : Cond).keeps) = true ∨ ∃ ty, (.codeWith y_Law_rule b_Law_rule 3 (some .int) [(0, 8, 11, 13), (0, 8, 14, 15)] : Cond) = .arrayClass ty) := ⟨List.mem_of_getElem? (i := 328) rfl, Or.inl rfl⟩
def cd_compile (k : Int32) : Int32 := (if k = 2 then 1 else (if k = 3 then 2 else 0))
theorem hk_compile {k : Int32} (h : k = 0 ∨ k = 2 ∨ k = 3) : k = 0 ∧ cd_compile k = 0 ∨ k = 2 ∧ cd_compile k = 1 ∨ k = 3 ∧ cd_compile k = 2 := by
  rcases h with rfl | rfl | rfl <;> decide
set_option maxRecDepth 100000 in
theorem cw_compile : (.codeWith y_Law_compile b_Law_compile 3 (some .int) [(0, 8, 11, 15), (0, 8, 14, 20)] : Cond) ∈ lw_tbl ∧ (((.codeWith y_Law_compile b_Law_compile 3 (some .int) [(0, 8, 11, 15), (0, 8, 14, 20)] : Cond).onTables && (.codeWith y_Law_compile b_Law_compile 3 (some .int) [(0, 8, 11, 15), (0, 8, 14, 20)] : Cond).keeps) = true ∨ ∃ ty, (.codeWith y_Law_compile b_Law_compile 3 (some .int) [(0, 8, 11, 15), (0, 8, 14, 20)] : Cond) = .arrayClass ty) := ⟨List.mem_of_getElem? (i := 462) rfl, Or.inl rfl⟩
def cd_text (k : Int32) : Int32 := (if k = 1 then 1 else 0)
theorem hk_text {k : Int32} (h : k = 0 ∨ k = 1) : k = 0 ∧ cd_text k = 0 ∨ k = 1 ∧ cd_text k = 1 := by
  rcases h with rfl | rfl <;> decide
set_option maxRecDepth 100000 in
theorem cw_text : (.codeWith y_Law_text b_Law_text 3 (some .int) [(0, 8, 11, 13)] : Cond) ∈ lw_tbl ∧ (((.codeWith y_Law_text b_Law_text 3 (some .int) [(0, 8, 11, 13)] : Cond).onTables && (.codeWith y_Law_text b_Law_text 3 (some .int) [(0, 8, 11, 13)] : Cond).keeps) = true ∨ ∃ ty, (.codeWith y_Law_text b_Law_text 3 (some .int) [(0, 8, 11, 13)] : Cond) = .arrayClass ty) := ⟨List.mem_of_getElem? (i := 586) rfl, Or.inl rfl⟩
def cd_parse (k : Int32) : Int32 := (if k = 2 then 1 else 0)
theorem hk_parse {k : Int32} (h : k = 0 ∨ k = 2) : k = 0 ∧ cd_parse k = 0 ∨ k = 2 ∧ cd_parse k = 1 := by
  rcases h with rfl | rfl <;> decide
set_option maxRecDepth 100000 in
theorem cw_parse : (.codeWith y_Law_parse b_Law_parse 3 (some .int) [(0, 8, 11, 15)] : Cond) ∈ lw_tbl ∧ (((.codeWith y_Law_parse b_Law_parse 3 (some .int) [(0, 8, 11, 15)] : Cond).onTables && (.codeWith y_Law_parse b_Law_parse 3 (some .int) [(0, 8, 11, 15)] : Cond).keeps) = true ∨ ∃ ty, (.codeWith y_Law_parse b_Law_parse 3 (some .int) [(0, 8, 11, 15)] : Cond) = .arrayClass ty) := ⟨List.mem_of_getElem? (i := 604) rfl, Or.inl rfl⟩
def cd_repair (k : Int32) : Int32 := (if k = 2 then 1 else (if k = 1 then 2 else (if k = 3 then 3 else 0)))
theorem hk_repair {k : Int32} (h : k = 0 ∨ k = 2 ∨ k = 1 ∨ k = 3) : k = 0 ∧ cd_repair k = 0 ∨ k = 2 ∧ cd_repair k = 1 ∨ k = 1 ∧ cd_repair k = 2 ∨ k = 3 ∧ cd_repair k = 3 := by
  rcases h with rfl | rfl | rfl | rfl <;> decide
set_option maxRecDepth 100000 in
theorem cw_repair : (.codeWith y_Law_repair b_Law_repair 4 (some .int) [(0, 9, 12, 15), (0, 9, 15, 13), (0, 9, 18, 20)] : Cond) ∈ lw_tbl ∧ (((.codeWith y_Law_repair b_Law_repair 4 (some .int) [(0, 9, 12, 15), (0, 9, 15, 13), (0, 9, 18, 20)] : Cond).onTables && (.codeWith y_Law_repair b_Law_repair 4 (some .int) [(0, 9, 12, 15), (0, 9, 15, 13), (0, 9, 18, 20)] : Cond).keeps) = true ∨ ∃ ty, (.codeWith y_Law_repair b_Law_repair 4 (some .int) [(0, 9, 12, 15), (0, 9, 15, 13), (0, 9, 18, 20)] : Cond) = .arrayClass ty) := ⟨List.mem_of_getElem? (i := 650) rfl, Or.inl rfl⟩
def cd_reach (k : Int32) : Int32 := (if k = 4 then 1 else 0)
theorem hk_reach {k : Int32} (h : k = 0 ∨ k = 4) : k = 0 ∧ cd_reach k = 0 ∨ k = 4 ∧ cd_reach k = 1 := by
  rcases h with rfl | rfl <;> decide
set_option maxRecDepth 100000 in
theorem cw_reach : (.codeWith y_Law_reach b_Law_reach 4 (some .int) [(0, 9, 12, 35)] : Cond) ∈ lw_tbl ∧ (((.codeWith y_Law_reach b_Law_reach 4 (some .int) [(0, 9, 12, 35)] : Cond).onTables && (.codeWith y_Law_reach b_Law_reach 4 (some .int) [(0, 9, 12, 35)] : Cond).keeps) = true ∨ ∃ ty, (.codeWith y_Law_reach b_Law_reach 4 (some .int) [(0, 9, 12, 35)] : Cond) = .arrayClass ty) := ⟨List.mem_of_getElem? (i := 701) rfl, Or.inl rfl⟩
def cd_apply (k : Int32) : Int32 := (if k = 4 then 1 else (if k = 2 then 2 else 0))
theorem hk_apply {k : Int32} (h : k = 0 ∨ k = 4 ∨ k = 2) : k = 0 ∧ cd_apply k = 0 ∨ k = 4 ∧ cd_apply k = 1 ∨ k = 2 ∧ cd_apply k = 2 := by
  rcases h with rfl | rfl | rfl <;> decide
set_option maxRecDepth 100000 in
theorem cw_apply : (.codeWith y_Law_apply b_Law_apply 4 (some .int) [(0, 9, 12, 35), (0, 9, 15, 15)] : Cond) ∈ lw_tbl ∧ (((.codeWith y_Law_apply b_Law_apply 4 (some .int) [(0, 9, 12, 35), (0, 9, 15, 15)] : Cond).onTables && (.codeWith y_Law_apply b_Law_apply 4 (some .int) [(0, 9, 12, 35), (0, 9, 15, 15)] : Cond).keeps) = true ∨ ∃ ty, (.codeWith y_Law_apply b_Law_apply 4 (some .int) [(0, 9, 12, 35), (0, 9, 15, 15)] : Cond) = .arrayClass ty) := ⟨List.mem_of_getElem? (i := 730) rfl, Or.inl rfl⟩
abbrev wdL (kA : Nat → ClassId) (x0 m0 oL : Nat) (ux um : Nat → Nat) (X1_1 : Int32) (Y2 : (Nat → Int32)) (X3_6 : Int32) (Y4 : (Nat → Int32)) (Y5 : (Nat → Int32)) (Y6 : (Nat → Int32)) (Y7 : (Nat → Int32)) (Y8 : (Nat → Int32)) (Y9 : (Nat → Int32)) (X10_3 : Int32) (X10_4 : Int32) (Y11 : (Nat → Int32)) (Y12 : (Nat → Int32)) (Y13 : (Nat → Int32)) (X14_2 : Int32) (Y15 : (Nat → Int32)) (Y16 : (Nat → Int32)) (Y18 : (Nat → Int32)) (Y19 : (Nat → Int32)) (Y21 : (Nat → Int32)) (Y22 : (Nat → Int32)) (X23_3 : Int32) (X23_4 : Int32) (X23_5 : Int32) (Y24 : (Nat → Int32)) (Y25 : (Nat → Int32)) (Y26 : (Nat → Int32)) (X27_5 : Int32) (X27_6 : Int32) (X27_7 : Int32) (Y28 : (Nat → Int32)) (X29_0 : Int32) (X29_2 : Int32) (X29_3 : Int32) (X29_11 : Int32) (X29_12 : Int32) (X29_15 : Int32) (X29_16 : Int32) (X29_22 : Int32) (X29_23 : Int32) (X29_27 : Int32) (X29_28 : Int32) (Y30 : (Nat → Int32)) (Y31 : (Nat → Int32)) (Y32 : (Nat → Int32)) (Y33 : (Nat → Int32)) (Y34 : (Nat → Int32)) (Y35 : (Nat → Int32)) (Y36 : (Nat → Int32)) (Y37 : (Nat → Int32)) (Y38 : (Nat → Int32)) (Y39 : (Nat → Int32)) (Y40 : (Nat → Int32)) (Y41 : (Nat → Int32)) (Y42 : (Nat → Int32)) (Y43 : (Nat → Int32)) (Y44 : (Nat → Int32)) (Y45 : (Nat → Int32)) (Y46 : (Nat → Int32)) (Y47 : (Nat → Int32)) (Y48 : (Nat → Int64)) : va_W := [(x0, .inr (8, [.ref (ux 0), .ref (ux 2), .ref (ux 9), .ref (ux 13), .ref (ux 16), .ref (ux 19), .ref (ux 22), .ref (ux 26)])), ((ux 0), .inr (3, [.ref (ux 1), .int X1_1])), ((ux 1), .inl (kA 2, 10, .inl Y2)), ((ux 2), .inr (2, [.ref (ux 3), .ref (ux 4), .ref (ux 5), .ref (ux 6), .ref (ux 7), .ref (ux 8), .int X3_6])), ((ux 3), .inl (kA 0, 12, .inl Y4)), ((ux 4), .inl (kA 0, 12, .inl Y5)), ((ux 5), .inl (kA 0, 48, .inl Y6)), ((ux 6), .inl (kA 1, 12, .inl Y7)), ((ux 7), .inl (kA 1, 6, .inl Y8)), ((ux 8), .inl (kA 0, 6, .inl Y9)), ((ux 9), .inr (6, [.ref (ux 10), .ref (ux 11), .ref (ux 12), .int X10_3, .int X10_4])), ((ux 10), .inl (kA 0, 2255, .inl Y11)), ((ux 11), .inl (kA 0, 480, .inl Y12)), ((ux 12), .inl (kA 0, 280, .inl Y13)), ((ux 13), .inr (7, [.ref (ux 14), .ref (ux 15), .int X14_2])), ((ux 14), .inl (kA 0, 16, .inl Y15)), ((ux 15), .inl (kA 0, 16, .inl Y16)), ((ux 16), .inr (0, [.ref (ux 17), .ref (ux 18)])), ((ux 17), .inl (kA 0, 6, .inl Y18)), ((ux 18), .inl (kA 0, 6, .inl Y19)), ((ux 19), .inr (5, [.ref (ux 2), .ref (ux 9), .ref (ux 20), .ref (ux 21)])), ((ux 20), .inl (kA 0, 4096, .inl Y21)), ((ux 21), .inl (kA 0, 8, .inl Y22)), ((ux 22), .inr (1, [.ref (ux 23), .ref (ux 24), .ref (ux 25), .int X23_3, .int X23_4, .int X23_5])), ((ux 23), .inl (kA 0, 240, .inl Y24)), ((ux 24), .inl (kA 0, 40, .inl Y25)), ((ux 25), .inl (kA 0, 40, .inl Y26)), ((ux 26), .inr (4, [.ref (ux 19), .ref (ux 13), .ref (ux 16), .ref (ux 22), .ref (ux 27), .int X27_5, .int X27_6, .int X27_7])), ((ux 27), .inl (kA 0, 6, .inl Y28)), (m0, .inr (9, [.int X29_0, .ref (um 0), .int X29_2, .int X29_3, .ref (um 1), .ref (um 2), .ref (um 3), .ref (um 4), .ref (um 5), .ref (um 6), .ref (um 7), .int X29_11, .int X29_12, .ref (um 8), .ref (um 9), .int X29_15, .int X29_16, .ref (um 10), .ref (um 11), .ref (um 12), .ref (um 13), .ref (um 14), .int X29_22, .int X29_23, .ref (um 15), .ref (um 16), .ref (um 17), .int X29_27, .int X29_28])), ((um 0), .inl (kA 2, 10, .inl Y30)), ((um 1), .inl (kA 0, 11, .inl Y31)), ((um 2), .inl (kA 0, 11, .inl Y32)), ((um 3), .inl (kA 0, 44, .inl Y33)), ((um 4), .inl (kA 1, 11, .inl Y34)), ((um 5), .inl (kA 1, 6, .inl Y35)), ((um 6), .inl (kA 1, 6, .inl Y36)), ((um 7), .inl (kA 0, 6, .inl Y37)), ((um 8), .inl (kA 0, 2310, .inl Y38)), ((um 9), .inl (kA 0, 492, .inl Y39)), ((um 10), .inl (kA 0, 16, .inl Y40)), ((um 11), .inl (kA 0, 24, .inl Y41)), ((um 12), .inl (kA 0, 400, .inl Y42)), ((um 13), .inl (kA 0, 6, .inl Y43)), ((um 14), .inl (kA 0, 6, .inl Y44)), ((um 15), .inl (kA 0, 280, .inl Y45)), ((um 16), .inl (kA 0, 40, .inl Y46)), ((um 17), .inl (kA 0, 8, .inl Y47)), (oL, .inl (kA 3, 1, .inr (.inl Y48)))]
