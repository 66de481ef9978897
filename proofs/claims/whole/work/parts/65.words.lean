/-! the words of a throw: what no reader of steady words carries goes along as E_th -/
abbrev xNS : String := "java/util/NoSuchElementException"
abbrev xIS : String := "java/lang/IllegalStateException"
def upE : List String := ["java/lang/RuntimeException", "java/lang/Exception"]
def isR1 : Cond := .isRef (.static Bundle.tN "UNASSIGNED_STACK" Bundle.steD)
def isR2 : Cond := .isRef (.static Bundle.tN "SUPPRESSED_SENTINEL" Bundle.listD)
def laS1 : Cond := .laysStatic Bundle.tN "UNASSIGNED_STACK" Bundle.steD
def laS2 : Cond := .laysStatic Bundle.tN "SUPPRESSED_SENTINEL" Bundle.listD
/-- words of the tables alone -/
def thT : List Cond := [.declares ⟨"java/lang/RuntimeException", "<init>", "(Ljava/lang/String;)V"⟩, .declares ⟨"java/lang/Exception", "<init>", "(Ljava/lang/String;)V"⟩, .declares ⟨"java/lang/Throwable", "<init>", "(Ljava/lang/String;)V"⟩, .castable xNS xNS, .castable xIS xIS]
def thR : List Cond := [.stringRef "DriveRing" 112 "no such block", .stringRef "DriveRing" 119 "power is off", .stringRef "DriveRing" 128 "the block is missing and not told"]
set_option maxRecDepth 100000 in
theorem thw_N : ((Bundle.ownAtomsX "DriveRing" 114 xNS 13 prog_13_method_4_code upE).all (fun w => decide (w ∈ TB) || decide (w ∈ isR1 :: isR2 :: laS1 :: laS2 :: thT))) = true := by decide +kernel
set_option maxRecDepth 100000 in
theorem thw_I : ((Bundle.ownAtomsX "DriveRing" 121 xIS 7 prog_8_method_2_code upE).all (fun w => decide (w ∈ TB) || decide (w ∈ isR1 :: isR2 :: laS1 :: laS2 :: thT))) = true := by decide +kernel
theorem thT_tabs : ∀ w ∈ thT, w.tabsOnly = true := by decide +kernel
/-- a static of Throwable that holds a reference, out of reach of A -/
def stZ (n d : String) (A : Nat → Prop) (U : State) : Prop := (Cond.laysStatic Bundle.tN n d).before #[] U = true ∧ ∃ v : Value, v.isRef = true ∧ va_Z Bundle.tN n d v A U U.heap
def E_th (A : Nat → Prop) (U : State) : Prop := stZ "UNASSIGNED_STACK" Bundle.steD A U ∧ stZ "SUPPRESSED_SENTINEL" Bundle.listD A U ∧ (∀ w ∈ thT, w.before #[] U = true) ∧ (∀ w ∈ thR, w.before #[] U = true) ∧ (Cond.not (.castable xIS xNS)).before #[] U = true
theorem stZ.call {n d : String} {A B : Nat → Prop} {s U : State} {H : Heap} (h : stZ n d A s) (hk : ∀ q : Nat, q < s.heap.size → ¬ A q → H[q]? = s.heap[q]?) (hB : ∀ q, B q → A q) (hU : U.heap = H) (hvm : s.vm.Alike U.vm) : stZ n d B U := by
  obtain ⟨hl, v, hv, hz⟩ := h
  refine ⟨?_, v, hv, ?_⟩
  · obtain ⟨c, k, i, f, a, cell, h1, h2, h3, h4, h5, h6, h7, h8, h9⟩ := Cond.laysStatic_spec hl
    have hnA : ¬ A a := by
      obtain ⟨cf, kf, fi, f', a9, cell9, q1, -, -, q4, -, -, -, q8⟩ := hz
      have hq := Option.some.inj (q1.symm.trans h2)
      have hkf : kf = k := congrArg (fun z => z.2.1) hq
      rw [hkf, h4] at q4
      cases q4
      exact q8
    obtain ⟨k', hi', he⟩ := State.fieldFound?_setVm hvm h2
    have hf' : U.vm.findClass Bundle.tN = some c := by rw [hvm.findClass]; exact h1
    have hs' : k'.statics = some a := by rw [he]; exact h4
    have hh : U.heap[a]? = some cell := by rw [hU, hk a (Array.getElem?_eq_some_iff.mp h5).1 hnA]; exact h5
    have ht' : k'.staticTypes[f.slot]? = some f.type := by rw [he]; exact h9
    have hi2 : U.fieldFound? Bundle.tN n d = some (c, k', i, f) := hi'
    simp [Cond.before, Cond.holds, Cond.value, hf', hi2, hs', hh, h3, h6, h7, h8, ht']
  · rw [hU]; exact (va_Z.kept (va_Z.moved hvm hz) hk).narrow hB
theorem stZ.isRef {n d : String} {A : Nat → Prop} {U : State} (h : stZ n d A U) (args : Array Value) : (Cond.isRef (.static Bundle.tN n d)).before args U = true := by
  obtain ⟨-, v, hv, cf, kf, fi, f, a, cell, h1, h2, h3, h4, h5, h6, h7, -⟩ := h
  have he : (Term.static Bundle.tN n d).eval args U none [] U = some v := by
    simp [Term.eval, State.fieldNamed?, h1, h2, h4, h5, h6, h7]
  cases v <;> first | (simp [Cond.before, Cond.holds, Cond.value, he]; done) | (simp [Value.isRef] at hv)
theorem thR_warm {s U : State} {cls text : String} {i : Nat} {args args' : Array Value} (hW : s.WarmedH U.vm) (h : (Cond.stringRef cls i text).before args s = true) : (Cond.stringRef cls i text).before args' U = true :=
  Cond.stringRef_warmed (args := args) hW h
theorem E_th.call {A B : Nat → Prop} {s U : State} {H : Heap} (h : E_th A s) (hk : ∀ q : Nat, q < s.heap.size → ¬ A q → H[q]? = s.heap[q]?) (hB : ∀ q, B q → A q) (hU : U.heap = H) (hW : s.WarmedH U.vm) : E_th B U := by
  obtain ⟨h1, h2, h3, h4, h5⟩ := h
  refine ⟨h1.call hk hB hU hW.alike, h2.call hk hB hU hW.alike, fun w hw => Cond.tabsOnly_warm (T := U) hW w (thT_tabs w hw) (h3 w hw), fun w hw => ?_, Cond.notCastable_moved (T := U) hW.alike h5⟩
  have hw2 := h4 w hw
  simp only [thR, List.mem_cons, List.not_mem_nil, or_false] at hw
  rcases hw with rfl | rfl | rfl <;> exact thR_warm hW hw2
theorem E_th.blind {A : Nat → Prop} {U : State} (h : E_th A U) (g : JFrame) (mk : MethodId) (a : Array Value) : E_th A (U.calling g mk a) :=
  h.call (H := U.heap) (fun _ _ _ => rfl) (fun _ z => z) rfl (State.WarmedH.refl _)
/-- all words of the throw at 'own' -/
theorem thw_all {L : List Cond} (hL : (L.all (fun w => decide (w ∈ TB) || decide (w ∈ isR1 :: isR2 :: laS1 :: laS2 :: thT))) = true) {args : Array Value} {s : State} {A : Nat → Prop} (hts : ∀ w ∈ TB, w.before args s = true) (hE : E_th A s) : ∀ w ∈ L, w.before args s = true := by
  intro w hw
  have h := List.all_eq_true.mp hL w hw
  rw [Bool.or_eq_true] at h
  rcases h with h | h
  · exact hts w (of_decide_eq_true h)
  · have h2 := of_decide_eq_true h
    rcases List.mem_cons.mp h2 with rfl | h2
    · exact hE.1.isRef args
    rcases List.mem_cons.mp h2 with rfl | h2
    · exact hE.2.1.isRef args
    rcases List.mem_cons.mp h2 with rfl | h2
    · exact hE.1.1
    rcases List.mem_cons.mp h2 with rfl | h2
    · exact hE.2.1.1
    · exact Cond.tabsOnly_warm (T := s) (State.WarmedH.refl s) w (thT_tabs w h2) (hE.2.2.1 w h2)
