/-! a contract of a method that throws an object of the class X, and leaves its world as it was -/
def QTq (D : va_G) (cl : List vw_C) (X : String) (ws : va_W) (A : Nat → Prop) : Array Value → State → Outcome → State → Prop := fun _ st o t =>
  ∃ (x : Addr) (ce : Cell), o = .threw x ∧ st.heap.size ≤ x ∧ t.heap[x]? = some ce ∧ st.vm.findClass X = some ce.cls ∧ ce.vm = .none ∧ va_P D cl ws t.heap ∧ va_F A st t
def QT (below : List Frame) (D : va_G) (cl : List vw_C) (X : String) (ws : va_W) (A : Nat → Prop) (args : Array Value) (s : State) (mc ms : Nat) : State → Prop := fun t =>
  ∃ o, t.status = .running ∧ Ended t below o ∧ QTq D cl X ws A args s o t ∧ ∃ L, FrameEndT s o t L mc ms ∧ ∀ q ∈ L, A q.base
def MT (l : Launch) (y : MethodName) (wc : List Cond) (rm : Room) (D : va_G) (cl : List vw_C) (tys : List (ClassId × FieldType)) (av : List Value) (ws : va_W) (X : String) (mc ms : Nat) : Prop :=
  ∀ sz : Nat, MetFree l y (headSpec wc rm) (va_Pc av (fun U => U.heap.size = sz ∧ va_P D cl ws U.heap ∧ va_K D cl tys U ∧ va_D (fun _ => True) ws ∧ E_th (va_A ws sz) U)) (fun _ _ _ _ _ => True)
    (fun a st o t => QTq D cl X ws (va_A ws sz) a st o t ∧ ∃ L, FrameEndT st o t L mc ms ∧ ∀ q ∈ L, va_A ws sz q.base)
section TROWS
variable {p : Program} {l : Launch} {e : Env} {R : Room} {s : State} {m : MethodId} {args : Array Value} {below : List Frame} {meth : Method} {c : Code} {H : Heap} {locs : List Loc} {cells slots : Nat} {Q : State → Prop}
variable {pc : Nat} {ls : Array Slot} {D : va_G} {cl : List vw_C} {A : Nat → Prop} {tys : List (ClassId × FieldType)} {rst : List Value} {ws : va_W} {cc : ByteArray} {av : List Value}
theorem MT.ofW {y : MethodName} {wc wc' : List Cond} {rm : Room} {X : String} {mc ms maxL : Nat} {rt : FieldType} (hy : plainName y.cls = true) (hw : wc = Cond.code y cc maxL (some rt) :: wc') (hav : (lg_sl av).length ≤ maxL)
    (body : ∀ (p : Program) (e : Env) (s : State) (m : MethodId) (args : Array Value) (below : List Frame) (meth : Method) (c : Code) (A : Nat → Prop) (ls : Array Slot) (Q : State → Prop) (H : Heap) (locs : List Loc), Q = QT below D cl X ws A args s mc ms → E_th A s → c.exceptionTable.isEmpty = true →
      p.tables.exec = Jvm.exec → c.code = cc → c.maxLocals = maxL → meth.sig.returnType = some rt → meth.locks = false → (∀ w ∈ wc, w.before args s = true) → s.vm.findClass y.cls = some m.cls → va_K D cl tys s → va_P D cl ws H → va_D A ws → va_S A s.heap H locs → (∀ q : Nat, s.heap.size ≤ q → A q) → lv_has ls maxL (lv_args 0 av) →
      W p l e rm s m args below meth c H locs 0 0 Q (F0 m 0 ls [])) : MT l y wc rm D cl tys av ws X mc ms := by
  intro sz
  refine MetFree.of_bodyS (code := cc) (maxLocals := maxL) (ret := some rt) hy ?_ ?_
  · intro args s m h hn
    obtain ⟨meth, c, h1, h2, h3, h4, h5, h6, -, -⟩ := Cond.code_spec hn (atoms_spec (ws := wc) h _ (by rw [hw]; exact List.mem_cons_self))
    exact ⟨meth, c, h1, h2, h3, h4, h5, h6⟩
  · intro p e s m args below meth c s₁ B hml hv _
    obtain ⟨rfl, hsz, hP, hK, hD0, hE⟩ := hv
    subst hsz
    have hh0 : s₁.heap = s.heap := by rw [B.state]; rfl
    have hl := lv_entry av (n := maxL) hav
    have hcode := atoms_spec (ws := wc) B.pre _ (by rw [hw]; exact List.mem_cons_self)
    have K : W p l e rm s m av.toArray below meth c s₁.heap [] 0 0 (QT below D cl X ws (va_A ws s.heap.size) av.toArray s mc ms) (entryFrame m av.toArray maxL) := by
      rw [hh0, lg_entry_eq]
      exact body p e s m _ below meth c (va_A ws s.heap.size) _ _ _ _ rfl hE (B.noHandlers hcode) B.exec B.bytes hml B.returns B.notSynchronized (atoms_spec (ws := wc) B.pre) (findClass_of_methodNamed B.named) hK hP (hD0.self (sz := s.heap.size)) va_S.rf (fun q h => Or.inr h) hl
    obtain ⟨t, a1, o, b1, b2, b3⟩ := K s₁ rfl (Stand.of_body B)
    exact ⟨t, o, a1, b1, b2, b3⟩
theorem x_ldcS (hx : p.tables.exec = Jvm.exec) (hb : c.code = cc) {own text : String} {index : Nat} {a : Addr} (hown : s.vm.findClass own = some m.cls) (hconst : (Cond.stringRef own index text).before args s = true) (hev : (Term.string own index).eval args s none [] s = some (.ref a)) (hdg : decode cc pc = .ok (.ldc index, 2))
    (kk : W p l e R s m args below meth c H locs cells slots Q (F0 m (pc + 2) ls (.ref a :: rst))) : W p l e R s m args below meth c H locs cells slots Q (F0 m pc ls rst) := by
  intro T hT X
  obtain ⟨t, a1, b1⟩ := kk T hT X
  exact ⟨t, X.ldcString hx hown hconst hev (g := F0 m pc ls rst) rfl (by rw [hb]; exact hdg) _ a1, b1⟩
/-- new, dup, ldc, <init>, athrow -/
theorem x_throw {X text : String} {ik ic ix is mc ms : Nat} {rx : ByteArray} (hQ : Q = QT below D cl X ws A args s mc ms) (hx : p.tables.exec = Jvm.exec) (hb : c.code = cc) (hml : ls.size = c.maxLocals) (hlk : meth.locks = false) (htl : l.stackTraces = false) (hno : c.exceptionTable.isEmpty = true)
    (x0 : decode rx 0 = .ok (.aload_n 0, 1)) (x1 : decode rx 1 = .ok (.aload_n 1, 1)) (x2 : decode rx 2 = .ok (.invokespecial ix, 3)) (x5 : decode rx 5 = .ok (.return_, 1)) (hfit : Bundle.fit X = true)
    (hown : s.vm.findClass "DriveRing" = some m.cls) (hE : E_th A s) (hwd : ∀ w ∈ Bundle.ownAtomsX "DriveRing" ic X ix rx upE, w.before args s = true) (hcl : (Cond.classLink "DriveRing" ik X).before args s = true) (hini : (Cond.initialized X).before args s = true) (hstr : (Cond.stringRef "DriveRing" is text).before args s = true)
    (hP : va_P D cl ws H) (hS : va_S A s.heap H locs) (hce : cells + 1 ≤ mc) (hsl : slots + 6 ≤ ms) (hRc : cells + 1 ≤ R.cells) (hRs : slots + 6 ≤ R.slots) (hRf : 6 ≤ R.frames) (hRl : 83 ≤ R.locals)
    (d0 : decode cc pc = .ok (.new ik, 3)) (d3 : decode cc (pc + 3) = .ok (.dup, 1)) (d4 : decode cc (pc + 4) = .ok (.ldc is, 2)) (d6 : decode cc (pc + 6) = .ok (.invokespecial ic, 3)) (d9 : decode cc (pc + 9) = .ok (.athrow, 1)) :
    W p l e R s m args below meth c H locs cells slots Q (F0 m pc ls []) := by
  subst hQ
  have hinst : (Cond.instantiable X 6).before args s = true := hwd _ (by simp [Bundle.ownAtomsX])
  obtain ⟨cX, kX, hfX, hkX, -⟩ := Cond.instantiable_spec hinst
  obtain ⟨-, -, -, sa, -, -, -, -, -, hev⟩ := Cond.stringRef_spec hown hstr
  refine W.newcK hx hb hown hcl hinst hini rfl d0 hRc hRs hfX rfl (fun H1 kC hkC hcell hsz hkeep => ?_)
  cases hkX.symm.trans hkC
  refine lv_dup hx hb d3 rfl ?_
  refine x_ldcS hx hb hown hstr hev d4 ?_
  intro V hV Y
  have htr : e.platform.stackTraces = false := by rw [Y.admits.platform]; exact htl
  obtain ⟨v0, -, hz⟩ := hE.1.2
  obtain ⟨U, hst, hrun, hend, hW, hsame, ⟨ce, hce1, hce2, hce3⟩, hoth⟩ := thr_ctor Y hx htr (own := "DriveRing") (cls := X) (names := upE) (ic := ic) (ix := ix) (rx := rx) x0 x1 x2 x5 hown hfit (by decide +kernel) hwd hz
    (fun q h1 h2 => by rw [hV, hkeep q (Nat.lt_of_lt_of_le h1 hS.1)]; exact hS.2.1 q h1 h2) hfX hkX (a := H.size) (by rw [hV]; exact hcell) hS.1 (msg := .ref sa) rfl
    (g := F0 m (pc + 6) ls [.ref sa, .ref H.size, .ref H.size]) rfl hml rfl rfl (rest := []) rfl (by rw [hb]; exact d6) (by rw [hb]; exact d9) (covers_of_empty hno _) (by show 2 + 3 < R.frames; omega) (by show 0 + 1 + (13 * 3 + 42) ≤ R.locals; omega) hlk
  refine ⟨U, hst, .threw H.size, hrun, hend, ⟨H.size, ce, rfl, hS.1, hce1, by rw [hce2]; exact hfX, hce3, ?_, ?_, ?_⟩, locs, ⟨⟨_, rfl⟩, hW, hsame.weaken (fun y hy _ => hy) hce hsl⟩, hS.2.2⟩
  · intro k q hk
    have hlt := (hP k q hk).lt
    exact (hP k q hk).kept (by rw [hoth q.1 (Nat.ne_of_lt hlt), hV, hkeep q.1 hlt])
  · refine Nat.le_trans hS.1 (Nat.le_of_lt (Array.getElem?_eq_some_iff.mp hce1).1)
  · intro q h1 h2
    have hlt := Nat.lt_of_lt_of_le h1 hS.1
    rw [hoth q (Nat.ne_of_lt hlt), hV, hkeep q hlt]
    exact hS.2.1 q h1 h2
end TROWS
theorem t_ini_NS : Cond.initialized xNS ∈ TB := tb 44 (by decide +kernel) (by decide +kernel)
theorem t_ini_IS : Cond.initialized xIS ∈ TB := tb 45 (by decide +kernel) (by decide +kernel)
theorem thR_0 : Cond.stringRef "DriveRing" 112 "no such block" ∈ thR := List.mem_of_getElem? (i := 0) rfl
theorem thR_1 : Cond.stringRef "DriveRing" 119 "power is off" ∈ thR := List.mem_of_getElem? (i := 1) rfl
theorem thR_2 : Cond.stringRef "DriveRing" 128 "the block is missing and not told" ∈ thR := List.mem_of_getElem? (i := 2) rfl
