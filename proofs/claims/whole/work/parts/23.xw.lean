/-! what the throws of RepairDesk stand on: words on the exceptions, the texts, two statics of Throwable -/
def xI : String := "java/lang/IllegalArgumentException"
def xS : String := "java/lang/IllegalStateException"
def xU : String := "java/lang/UnsupportedOperationException"
def xN : String := "java/util/NoSuchElementException"
def xrt_ : String := "java/lang/RuntimeException"
def xnm_ : List String := ["java/lang/Exception"]
def xs_ : List (Nat × String × Nat × ByteArray) := [(88, xI, 7, rd_bx 7), (99, xS, 7, rd_bx 7), (116, xU, 7, rd_bx 7), (167, xN, 13, rd_bx 13)]
def xwl_ : List Cond := xs_.flatMap (fun q => rd_own R_Desk q.1 q.2.1 q.2.2.1 q.2.2.2 xrt_ xnm_)
def xh_ : List Cond := [.isRef (.static Bundle.tN "UNASSIGNED_STACK" Bundle.steD), .isRef (.static Bundle.tN "SUPPRESSED_SENTINEL" Bundle.listD), .laysStatic Bundle.tN "UNASSIGNED_STACK" Bundle.steD, .laysStatic Bundle.tN "SUPPRESSED_SENTINEL" Bundle.listD]
def xt_ : List (Nat × String) := [(86, "the line is no new rule"), (97, "there are ten rules"), (107, "there are no rules"), (114, "no row of letters comes of the start"), (121, "the grammar is too great or not good"), (129, "the line is no row of up to eight letters"), (138, "nothing is compiled"), (144, "the guard is not 0 .. 3"), (150, "there are more than forty repairs"), (165, "there is no such repair"), (175, "the text would have more than sixteen letters")]
def xpairs_ : List (String × String) := [(xI, xS), (xI, xU), (xI, xN), (xS, xI), (xS, xU), (xS, xN), (xU, xI), (xU, xS), (xU, xN), (xN, xI), (xN, xS), (xN, xU)]
theorem xwl_or : ∀ w ∈ xwl_, w.onTables = true ∨ w ∈ xh_ := by
  have h : xwl_.all (fun w => w.onTables || decide (w ∈ xh_)) = true := by decide +kernel
  intro w hw
  have := List.all_eq_true.mp h w hw
  simpa using this
theorem xwl_face : ∀ w ∈ xwl_, w.keepsFace = true := by
  have h : xwl_.all Cond.keepsFace = true := by decide +kernel
  exact List.all_eq_true.mp h
/-- the words that the tables decide, the texts' addresses, what can't be cast to what -/
def rd_X (sa : Nat → Nat) (U : State) : Prop := (∀ w ∈ xwl_, w.onTables = true → w.before #[] U = true) ∧ (∀ q ∈ xt_, vk_R R_Desk q.1 q.2 (sa q.1) U) ∧ ∀ q ∈ xpairs_, va_Nc q.1 q.2 U
theorem rd_X.warm {sa : Nat → Nat} {s U : State} (hW : s.WarmedH U.vm) (h : rd_X sa s) : rd_X sa U := by
  refine ⟨fun w hw ho => ?_, fun q hq => vk_R.warm hW (h.2.1 q hq), fun q hq => (h.2.2 q hq).moved hW.alike⟩
  have h1 : w.before #[] (s.setVm U.vm) = true := Cond.before_shiftedFace (State.Shifted.of_warmed hW) w (xwl_face w hw) (h.1 w hw ho)
  rw [Cond.onTables_vm (A' := #[]) (U' := U) U.vm w ho, State.setVm_self] at h1
  exact h1
theorem rd_X.same {sa : Nat → Nat} {s U : State} (hv : U.vm = s.vm) (h : rd_X sa s) : rd_X sa U := rd_X.warm (by rw [hv]; exact State.WarmedH.refl s) h
/-- the statics of Throwable: in every state whose tables are alike, and whose heap is H outside of A, the four words hold -/
def rd_St (A : Nat → Prop) (U : State) (H : Heap) : Prop := ∀ V : State, U.vm.Alike V.vm → (∀ a : Nat, a < H.size → ¬ A a → V.heap[a]? = H[a]?) → ∀ w ∈ xh_, ∀ args : Array Value, w.before args V = true
theorem rd_St.moved {A : Nat → Prop} {u U : State} {H : Heap} (hv : u.vm.Alike U.vm) (h : rd_St A u H) : rd_St A U H := fun V h1 h2 => h V (hv.trans h1) h2
theorem rd_St.kept {A : Nat → Prop} {U : State} {H H1 : Heap} (hz : H.size ≤ H1.size) (hq : ∀ a : Nat, a < H.size → ¬ A a → H1[a]? = H[a]?) (h : rd_St A U H) : rd_St A U H1 :=
  fun V h1 h2 => h V h1 (fun a ha hA => (h2 a (Nat.lt_of_lt_of_le ha hz) hA).trans (hq a ha hA))
theorem rd_St.narrow {A B : Nat → Prop} {U : State} {H : Heap} (hAB : ∀ q, q < H.size → B q → A q) (h : rd_St A U H) : rd_St B U H :=
  fun V h1 h2 => h V h1 (fun a ha hA => h2 a ha (fun z => hA (hAB a ha z)))
theorem rd_site {args : Array Value} {s : State} {A : Nat → Prop} {H : Heap} {locs : List Loc} {sa : Nat → Nat} (hg : ∀ w ∈ gw, w.before args s = true) (hX : rd_X sa s) (hSt : rd_St A s s.heap) (hS : va_S A s.heap H locs)
    {ik is ic ix : Nat} {bx : ByteArray} {E text : String} (h1 : (.classLink R_Desk ik E : Cond) ∈ gw) (h2 : (.initialized E : Cond) ∈ gw) (h3 : (is, text) ∈ xt_) (h4 : (ic, E, ix, bx) ∈ xs_) :
    ∀ U : State, U.vm = s.vm → U.heap = H → (Cond.classLink R_Desk ik E).before args U = true ∧ (Cond.initialized E).before args U = true ∧ vk_R R_Desk is text (sa is) U ∧ ∀ w ∈ rd_own R_Desk ic E ix bx xrt_ xnm_, w.before args U = true := by
  intro U hv hH
  have hW : s.WarmedH U.vm := by rw [hv]; exact State.WarmedH.refl s
  have hXU := rd_X.same hv hX
  refine ⟨word_at hW (gw_in _ h1).2 (hg _ h1), word_at hW (gw_in _ h2).2 (hg _ h2), hXU.2.1 (is, text) h3, fun w hw => ?_⟩
  have hm : w ∈ xwl_ := List.mem_flatMap.mpr ⟨(ic, E, ix, bx), h4, hw⟩
  rcases xwl_or w hm with ho | ho
  · have h9 := hXU.1 w hm ho
    have e9 := Cond.onTables_vm (A := #[]) (A' := args) (U := U) (U' := U) U.vm w ho
    rw [State.setVm_self] at e9
    rw [← e9]; exact h9
  · exact hSt U (by rw [hv]; exact Vm.Alike.refl _) (fun a ha hA => by rw [hH]; exact hS.2.1 a ha hA) w ho args
theorem rd_Stof {args : Array Value} {s : State} (h : ∀ w ∈ xh_, w.before args s = true) (hini : (Cond.initialized Bundle.tN).before args s = true) : rd_St (fun q => s.heap.size ≤ q) s s.heap := by
  intro V hv hh w hw a9
  have hout : ∀ a : Nat, a < s.heap.size → ¬ s.heap.size ≤ a := fun a ha => Nat.not_le.mpr ha
  have key : ∀ n d : String, (Cond.laysStatic Bundle.tN n d).before args s = true → (Cond.isRef (.static Bundle.tN n d)).before args s = true → (Cond.laysStatic Bundle.tN n d).before a9 V = true ∧ (Cond.isRef (.static Bundle.tN n d)).before a9 V = true := by
    intro n d hl hr
    constructor
    · obtain ⟨c, k, i, f, a, cell, h1, h2, h3, h4, h5, h6, h7, h8, h9⟩ := Cond.laysStatic_spec hl
      obtain ⟨k', hi', he⟩ := State.fieldFound?_setVm hv h2
      have ha : a < s.heap.size := (Array.getElem?_eq_some_iff.mp h5).1
      show (Cond.laysStatic Bundle.tN n d).holds a9 V none V [] = true
      exact Cond.laysStatic_of (by rw [hv.findClass]; exact h1) hi' h3 (by rw [he]; exact h4) (by rw [hh a ha (hout a ha)]; exact h5) h6 h7 h8 (by rw [he]; exact h9)
    · have hz := va_Zqof (A := fun q => s.heap.size ≤ q) hl hini hr hout
      have hz2 := va_Zq.kept (va_Zq.moved hv hz) hh
      have one : ∀ v : Value, v.isRef = true → va_Z Bundle.tN n d v (fun q => s.heap.size ≤ q) V V.heap → (Cond.isRef (.static Bundle.tN n d)).before a9 V = true := by
        intro v hv9 hz9
        obtain ⟨cf, kf, fi, f, a, cell, h1, h2, h3, h4, h5, h6, h7, -⟩ := hz9
        have he : (Term.static Bundle.tN n d).eval a9 V none [] V = some v := by
          simp [Term.eval, State.fieldNamed?, h1, h2, h4, h5, h6, h7]
        simp only [Cond.before, Cond.holds, Cond.value, he]
        cases v <;> simp_all [Value.isRef]
      rcases hz2 with hz2 | ⟨t, hz2⟩
      · exact one _ rfl hz2
      · exact one _ rfl hz2
  have k1 := key "UNASSIGNED_STACK" Bundle.steD (h _ (by simp [xh_])) (h _ (by simp [xh_]))
  have k2 := key "SUPPRESSED_SENTINEL" Bundle.listD (h _ (by simp [xh_])) (h _ (by simp [xh_]))
  simp only [xh_, List.mem_cons, List.not_mem_nil, or_false] at hw
  rcases hw with rfl | rfl | rfl | rfl
  · exact k1.2
  · exact k2.2
  · exact k1.1
  · exact k2.1
