/-! contracts of methods that make cells, or need more of the state (E) -/
def MVE {σ : Type} (l : Launch) (y : MethodName) (wc : List Cond) (rm : Room) (D : va_G) (cl : List vw_C) (tys : List (ClassId × FieldType)) (av : List Value) (ws : va_W) (E : (Nat → Prop) → State → Prop) (post : σ → Prop) (F : σ → va_W) (mc ms : Nat) : Prop :=
  ∀ sz : Nat, Met l y wc rm (va_Pc av (fun U => U.heap.size = sz ∧ va_P D cl ws U.heap ∧ va_K D cl tys U ∧ va_D (fun _ => True) ws ∧ E (va_A ws sz) U)) (va_Qv post (fun u t => va_P D cl (F u) t.heap ∧ va_D (va_A ws sz) (F u)) (va_A ws sz)) mc ms (va_A ws sz)
def MGE {σ : Type} (l : Launch) (y : MethodName) (wc : List Cond) (rm : Room) (D : va_G) (cl : List vw_C) (tys : List (ClassId × FieldType)) (av : List Value) (ws : va_W) (E : (Nat → Prop) → State → Prop) (post : Int32 → σ → Prop) (F : σ → va_W) (mc ms : Nat) : Prop :=
  ∀ sz : Nat, Met l y wc rm (va_Pc av (fun U => U.heap.size = sz ∧ va_P D cl ws U.heap ∧ va_K D cl tys U ∧ va_D (fun _ => True) ws ∧ E (va_A ws sz) U)) (va_Qi post (fun u t => va_P D cl (F u) t.heap ∧ va_D (va_A ws sz) (F u)) (va_A ws sz)) mc ms (va_A ws sz)
def E0 : (Nat → Prop) → State → Prop := fun _ _ => True
def QVE {σ : Type} (below : List Frame) (D : va_G) (cl : List vw_C) (post : σ → Prop) (F : σ → va_W) (A : Nat → Prop) (args : Array Value) (s : State) (mc ms : Nat) : State → Prop :=
  MQ below (va_Qv post (fun u t => va_P D cl (F u) t.heap ∧ va_D A (F u)) A) args s mc ms A
def QGE {σ : Type} (below : List Frame) (D : va_G) (cl : List vw_C) (post : Int32 → σ → Prop) (F : σ → va_W) (A : Nat → Prop) (args : Array Value) (s : State) (mc ms : Nat) : State → Prop :=
  MQ below (va_Qi post (fun u t => va_P D cl (F u) t.heap ∧ va_D A (F u)) A) args s mc ms A
section OFWE
variable {l : Launch} {σ : Type} {y : MethodName} {wc wc' : List Cond} {rm : Room} {D : va_G} {cl : List vw_C} {tys : List (ClassId × FieldType)} {av : List Value} {ws : va_W} {F : σ → va_W} {cc : ByteArray} {maxL mc ms : Nat} {rt : FieldType} {E : (Nat → Prop) → State → Prop}
theorem MVE.ofW {post : σ → Prop} (hy : plainName y.cls = true) (hw : wc = Cond.code y cc maxL none :: wc') (hav : (lg_sl av).length ≤ maxL)
    (body : ∀ (p : Program) (e : Env) (s : State) (m : MethodId) (args : Array Value) (below : List Frame) (meth : Method) (c : Code) (A : Nat → Prop) (ls : Array Slot) (Q : State → Prop) (H : Heap) (locs : List Loc), Q = QVE below D cl post F A args s mc ms → E A s → meth.name = y.name →
      p.tables.exec = Jvm.exec → c.code = cc → c.maxLocals = maxL → meth.sig.returnType = none → meth.locks = false → (∀ w ∈ wc, w.before args s = true) → s.vm.findClass y.cls = some m.cls → va_K D cl tys s → va_P D cl ws H → va_D A ws → va_S A s.heap H locs → (∀ q : Nat, s.heap.size ≤ q → A q) → lv_has ls maxL (lv_args 0 av) →
      W p l e rm s m args below meth c H locs 0 0 Q (F0 m 0 ls [])) : MVE l y wc rm D cl tys av ws E post F mc ms := by
  intro sz
  refine Met.ofW (cc := cc) (maxL := maxL) (ret := none) hy hw ?_
  intro p e s m args below meth c s₁ B hml hv
  obtain ⟨rfl, hsz, hP, hK, hD0, hE⟩ := hv
  subst hsz
  have hl := lv_entry av (n := maxL) hav
  rw [lg_entry_eq]
  exact body p e s m _ below meth c (va_A ws s.heap.size) _ _ _ _ rfl hE (name_of_methodNamed B.named B.method).1 B.exec B.bytes hml B.returns B.notSynchronized (atoms_spec (ws := wc) B.pre) (findClass_of_methodNamed B.named) hK hP (hD0.self (sz := s.heap.size)) va_S.rf (fun q h => Or.inr h) hl
theorem MGE.ofW {post : Int32 → σ → Prop} (hy : plainName y.cls = true) (hw : wc = Cond.code y cc maxL (some rt) :: wc') (hav : (lg_sl av).length ≤ maxL)
    (body : ∀ (p : Program) (e : Env) (s : State) (m : MethodId) (args : Array Value) (below : List Frame) (meth : Method) (c : Code) (A : Nat → Prop) (ls : Array Slot) (Q : State → Prop) (H : Heap) (locs : List Loc), Q = QGE below D cl post F A args s mc ms → E A s → meth.name = y.name →
      p.tables.exec = Jvm.exec → c.code = cc → c.maxLocals = maxL → meth.sig.returnType = some rt → meth.locks = false → (∀ w ∈ wc, w.before args s = true) → s.vm.findClass y.cls = some m.cls → va_K D cl tys s → va_P D cl ws H → va_D A ws → va_S A s.heap H locs → (∀ q : Nat, s.heap.size ≤ q → A q) → lv_has ls maxL (lv_args 0 av) →
      W p l e rm s m args below meth c H locs 0 0 Q (F0 m 0 ls [])) : MGE l y wc rm D cl tys av ws E post F mc ms := by
  intro sz
  refine Met.ofW (cc := cc) (maxL := maxL) (ret := some rt) hy hw ?_
  intro p e s m args below meth c s₁ B hml hv
  obtain ⟨rfl, hsz, hP, hK, hD0, hE⟩ := hv
  subst hsz
  have hl := lv_entry av (n := maxL) hav
  rw [lg_entry_eq]
  exact body p e s m _ below meth c (va_A ws s.heap.size) _ _ _ _ rfl hE (name_of_methodNamed B.named B.method).1 B.exec B.bytes hml B.returns B.notSynchronized (atoms_spec (ws := wc) B.pre) (findClass_of_methodNamed B.named) hK hP (hD0.self (sz := s.heap.size)) va_S.rf (fun q h => Or.inr h) hl
end OFWE
section NEWR
variable {p : Program} {l : Launch} {e : Env} {R : Room} {s : State} {m : MethodId} {args : Array Value} {below : List Frame} {meth : Method} {c : Code} {H : Heap} {locs : List Loc} {cells slots : Nat} {Q : State → Prop}
variable {pc : Nat} {ls : Array Slot} {D : va_G} {cl : List vw_C} {A : Nat → Prop} {H0 : Heap} {rst st0 : List Value} {ws wc wr w1 : va_W} {cI cB cQ cJ : ClassId} {cc : ByteArray} {av : Array Value} {σ : Type} {F G : σ → va_W}
theorem x_vretE {post : σ → Prop} {mc ms : Nat} (u : σ) (hQ : Q = QVE below D cl post F A args s mc ms) (hx : p.tables.exec = Jvm.exec) (hb : c.code = cc) (hr : meth.sig.returnType = none) (hlk : meth.locks = false) (hP : va_P D cl (F u) H) (hD : va_D A (F u)) (hS : va_S A s.heap H locs) (h1 : cells ≤ mc) (h2 : slots ≤ ms) (hd : decode cc pc = .ok (.return_, 1)) (hv : post u) :
    W p l e R s m args below meth c H locs cells slots Q (F0 m pc ls []) := by
  subst hQ
  refine W.widen h1 h2 ?_
  exact W.vret hx hb hr (fun t ht _ => ⟨⟨u, rfl, hv, by rw [ht]; exact hP, hD⟩, hS.F ht⟩) hS.2.2 hd hlk
theorem x_iretE {post : Int32 → σ → Prop} {mc ms : Nat} {v : Int32} (u : σ) (hQ : Q = QGE below D cl post F A args s mc ms) (hx : p.tables.exec = Jvm.exec) (hb : c.code = cc) (hr : meth.sig.returnType = some .int) (hlk : meth.locks = false) (hP : va_P D cl (F u) H) (hD : va_D A (F u)) (hS : va_S A s.heap H locs) (h1 : cells ≤ mc) (h2 : slots ≤ ms) (hd : decode cc pc = .ok (.ireturn, 1)) (hv : post v u) :
    W p l e R s m args below meth c H locs cells slots Q (F0 m pc ls [.int v]) := by
  subst hQ
  refine W.widen h1 h2 ?_
  exact W.iret hx hb hr (fun t ht _ => ⟨⟨v, u, rfl, hv, by rw [ht]; exact hP, hD⟩, hS.F ht⟩) hS.2.2 hd hlk
theorem x_newI {N cap : Nat} (hx : p.tables.exec = Jvm.exec) (hb : c.code = cc) (harr : (Cond.arrayClass .int).before args s = true) (hK : va_K D cl (TY cI cB cQ cJ) s) (hP : va_P D cl ws H) (hD : va_D A ws) (hS : va_S A H0 H locs) (hA : ∀ q, H0.size ≤ q → A q) (hN : N ≤ cap) (hcap : cap ≤ 1000) (hcells : cells + 1 ≤ R.cells) (hslots : slots + cap ≤ R.slots) (hdg : decode cc pc = .ok (.newarray .int, 2))
    (kk : ∀ (q : Nat) (H1 : Heap), va_P D cl (ws ++ [(q, .inl (cI, N, .inl (fun _ => 0)))]) H1 → va_D A (ws ++ [(q, .inl (cI, N, .inl (fun _ => 0)))]) → va_S A H0 H1 locs →
      W p l e R s m args below meth c H1 locs (cells + 1) (slots + cap) Q (F0 m (pc + 2) ls (.ref q :: rst))) : W p l e R s m args below meth c H locs cells slots Q (F0 m pc ls (.int (nI N) :: rst)) := by
  refine va_newa (atype := .int) (ty := .int) (N' := N) (a0 := (N, .inl (fun _ => 0))) hx hb harr rfl hK hP hD hS hA (fun _ => rfl) (nI_pos (by omega)) (nI_clamp (by omega)) (by show N * 4 ≤ _; omega) hcells (by omega) hdg (fun q cA H1 hK1 hP1 hD1 hS1 => ?_)
  have e1 : s.vm.findClass ("[" ++ FieldType.int.toString) = some cI := (hK.2 0 (cI, .int) rfl).2
  have e2 : s.vm.findClass ("[" ++ FieldType.int.toString) = some cA := (hK1.2 4 (cA, .int) rfl).2
  have e3 : cI = cA := Option.some.inj (e1.symm.trans e2)
  subst e3
  exact W.widen (Nat.le_refl _) (by omega) (kk q H1 hP1 hD1 hS1)
theorem x_newB {N cap : Nat} (hx : p.tables.exec = Jvm.exec) (hb : c.code = cc) (harr : (Cond.arrayClass .boolean).before args s = true) (hK : va_K D cl (TY cI cB cQ cJ) s) (hP : va_P D cl ws H) (hD : va_D A ws) (hS : va_S A H0 H locs) (hA : ∀ q, H0.size ≤ q → A q) (hN : N ≤ cap) (hcap : cap ≤ 1000) (hcells : cells + 1 ≤ R.cells) (hslots : slots + cap ≤ R.slots) (hdg : decode cc pc = .ok (.newarray .boolean, 2))
    (kk : ∀ (q : Nat) (H1 : Heap), va_P D cl (ws ++ [(q, .inl (cB, N, .inl (fun z9 => bI ((fun _ => false) z9))))]) H1 → va_D A (ws ++ [(q, .inl (cB, N, .inl (fun z9 => bI ((fun _ => false) z9))))]) → va_S A H0 H1 locs →
      W p l e R s m args below meth c H1 locs (cells + 1) (slots + cap) Q (F0 m (pc + 2) ls (.ref q :: rst))) : W p l e R s m args below meth c H locs cells slots Q (F0 m pc ls (.int (nI N) :: rst)) := by
  refine va_newa (atype := .boolean) (ty := .boolean) (N' := N) (a0 := (N, .inl (fun z9 => bI ((fun _ => false) z9)))) hx hb harr rfl hK hP hD hS hA (fun _ => rfl) (nI_pos (by omega)) (nI_clamp (by omega)) (by show N * 1 ≤ _; omega) hcells (by omega) hdg (fun q cA H1 hK1 hP1 hD1 hS1 => ?_)
  have e1 : s.vm.findClass ("[" ++ FieldType.boolean.toString) = some cB := (hK.2 1 (cB, .boolean) rfl).2
  have e2 : s.vm.findClass ("[" ++ FieldType.boolean.toString) = some cA := (hK1.2 4 (cA, .boolean) rfl).2
  have e3 : cB = cA := Option.some.inj (e1.symm.trans e2)
  subst e3
  exact W.widen (Nat.le_refl _) (by omega) (kk q H1 hP1 hD1 hS1)
theorem x_newQ {N cap : Nat} (hx : p.tables.exec = Jvm.exec) (hb : c.code = cc) {own : String} {index : Nat} (hown : s.vm.findClass own = some m.cls) (hcl : (Cond.classLink own index "DriveRing$Stripe").before args s = true) (hover : va_AO "DriveRing$Stripe" s) (hK : va_K D cl (TY cI cB cQ cJ) s) (hP : va_P D cl ws H) (hD : va_D A ws) (hS : va_S A H0 H locs) (hA : ∀ q, H0.size ≤ q → A q) (hN : N ≤ cap) (hcap : cap ≤ 1000) (hcells : cells + 1 ≤ R.cells) (hslots : slots + cap ≤ R.slots) (hdg : decode cc pc = .ok (.anewarray index, 3))
    (kk : ∀ (q : Nat) (H1 : Heap), va_P D cl (ws ++ [(q, .inl (cQ, N, .inr (.inr (.inr (.inr (fun _ => none))))))]) H1 → va_D A (ws ++ [(q, .inl (cQ, N, .inr (.inr (.inr (.inr (fun _ => none))))))]) → va_S A H0 H1 locs →
      W p l e R s m args below meth c H1 locs (cells + 1) (slots + cap) Q (F0 m (pc + 3) ls (.ref q :: rst))) : W p l e R s m args below meth c H locs cells slots Q (F0 m pc ls (.int (nI N) :: rst)) := by
  refine va_newq (N' := N) hx hb hown hcl hover hK hP hD hS hA (nI_pos (by omega)) (nI_clamp (by omega)) (by omega) hcells (by omega) hdg (fun q cA H1 hK1 hP1 hD1 hS1 => ?_)
  obtain ⟨k1, c1, -, -, -, e1⟩ := (hK.2 2 (cQ, .object "DriveRing$Stripe") rfl).2
  obtain ⟨k2, c2, -, -, -, e2⟩ := (hK1.2 4 (cA, .object "DriveRing$Stripe") rfl).2
  have e3 : cQ = cA := Option.some.inj (e1.symm.trans e2)
  subst e3
  exact W.widen (Nat.le_refl _) (by omega) (kk q H1 hP1 hD1 hS1)
/-- calls of methods that make cells: the callee's world ahead, the others behind it -/
theorem x_goVE {post : σ → Prop} {mc ms : Nat} (hr : va_Run p l e R s m args below meth c H locs cells slots mc ms (F0 m pc ls st0) rst (va_Qv post (fun u t => va_P D cl (F u) t.heap ∧ va_D (va_A wc H.size) (F u)) (va_A wc H.size) av) (va_A wc H.size))
    (hP : va_P D cl (wc ++ wr) H) (hD : va_D A (wc ++ wr)) (hS : va_S A H0 H locs) (hA : ∀ q : Nat, H0.size ≤ q → A q)
    (kk : ∀ (u : σ) (H1 : Heap) (locs1 : List Loc), post u → va_P D cl (F u ++ wr) H1 → va_D A (F u ++ wr) → va_S A H0 H1 locs1 → W p l e R s m args below meth c H1 locs1 (cells + mc) (slots + ms) Q (F0 m (pc + 3) ls rst)) : W p l e R s m args below meth c H locs cells slots Q (F0 m pc ls st0) := by
  have hF := x_free hD hS hA
  refine va_callv hr hS (fun q _ h => hF q h) hF (fun u t H1 locs1 ht hvm hp hB hz hk hS1 => ?_)
  obtain ⟨b1, b2⟩ := hB
  rw [ht] at b1
  obtain ⟨h1, h2⟩ := va_joinA hP hD hk hF b1 b2
  exact kk u H1 locs1 hp h1 h2 hS1
theorem x_goIE {post : Int32 → σ → Prop} {mc ms : Nat} (hr : va_Run p l e R s m args below meth c H locs cells slots mc ms (F0 m pc ls st0) rst (va_Qi post (fun u t => va_P D cl (F u) t.heap ∧ va_D (va_A wc H.size) (F u)) (va_A wc H.size) av) (va_A wc H.size))
    (hP : va_P D cl (wc ++ wr) H) (hD : va_D A (wc ++ wr)) (hS : va_S A H0 H locs) (hA : ∀ q : Nat, H0.size ≤ q → A q)
    (kk : ∀ (r : Int32) (u : σ) (H1 : Heap) (locs1 : List Loc), post r u → va_P D cl (F u ++ wr) H1 → va_D A (F u ++ wr) → va_S A H0 H1 locs1 → W p l e R s m args below meth c H1 locs1 (cells + mc) (slots + ms) Q (F0 m (pc + 3) ls (.int r :: rst))) : W p l e R s m args below meth c H locs cells slots Q (F0 m pc ls st0) := by
  have hF := x_free hD hS hA
  refine va_calli hr hS (fun q _ h => hF q h) hF (fun r u t H1 locs1 ht hvm hp hB hz hk hS1 => ?_)
  obtain ⟨b1, b2⟩ := hB
  rw [ht] at b1
  obtain ⟨h1, h2⟩ := va_joinA hP hD hk hF b1 b2
  exact kk r u H1 locs1 hp h1 h2 hS1
def E_ok (E : (Nat → Prop) → State → Prop) : Prop := ∀ (B : Nat → Prop) (u U : State), u.vm.Alike U.vm → U.heap = u.heap → E B u → E B U
theorem E0_ok : E_ok E0 := fun _ _ _ _ _ _ => trivial
theorem x_blindE {sz : Nat} {vs : List Value} {tys : List (ClassId × FieldType)} {B : Nat → Prop} {E : (Nat → Prop) → State → Prop} (hE : E_ok E) : FrameBlind (va_Pc vs (fun U => U.heap.size = sz ∧ va_P D cl wc U.heap ∧ va_K D cl tys U ∧ va_D (fun _ => True) wc ∧ E B U)) :=
  fun a U g mk q => by obtain ⟨q0, q1, qP, qK, qD, qE⟩ := q; exact ⟨q0, q1, qP, va_K.moved (u := U) (U := U.calling g mk a) (Vm.Alike.refl U.vm) qK, qD, hE _ U _ (Vm.Alike.refl U.vm) rfl qE⟩
variable {y : MethodName} {bytes : ByteArray} {maxL nL n index mc ms : Nat} {wsc Ts : List Cond} {rm : Room} {own : String} {b : Nat} {As : List Value} {tys : List (ClassId × FieldType)} {E : (Nat → Prop) → State → Prop} {is : List Nat}
/-- a constructor call -/
theorem gI {post : σ → Prop} (S : CallFix p m c cc nL s args Ts own) (hM : MVE l y wsc rm D cl tys (.ref b :: As) wc E post F mc ms) (cw : CallB R s args own index y bytes maxL none wsc rm mc ms n ∧ y.name = "<init>" ∧ (Cond.instanceMethod y).before args s = true) (hEo : E_ok E) (hE : ∀ U : State, U.heap = H → s.vm.Alike U.vm → E (va_A wc H.size) U) (hK : va_K D cl tys s) (hP : va_P D cl (wc ++ wr) H) (hD : va_D A (wc ++ wr)) (hS : va_S A H0 H locs) (hA : ∀ q : Nat, H0.size ≤ q → A q)
    (hlen : As.length = n) (hsize : ls.size = nL) (hst : st0 = As.reverse ++ .ref b :: rst) (hW : (rst.map fun v => v.category).sum ≤ 8) (hdg : decode cc pc = .ok (.invokespecial index, 3)) (hf : cells + mc ≤ R.cells ∧ slots + ms ≤ R.slots)
    (kk : ∀ (u : σ) (H1 : Heap) (locs1 : List Loc), post u → va_P D cl (F u ++ wr) H1 → va_D A (F u ++ wr) → va_S A H0 H1 locs1 → W p l e R s m args below meth c H1 locs1 (cells + mc) (slots + ms) Q (F0 m (pc + 3) ls rst)) : W p l e R s m args below meth c H locs cells slots Q (F0 m pc ls st0) := by
  have hPc : va_P D cl wc H := hP.mem (fun q h => List.mem_append_left _ h)
  have hDc : va_D (fun _ => True) wc := (hD.preL).weaken (fun _ _ _ _ => trivial)
  subst hst
  exact x_goVE (wc := wc) (wr := wr) (va_runI (As := As) (rest := rst) S (hM H.size) cw ⟨x_blindE hEo, fun U hU hW => ⟨rfl, by rw [hU], by rw [hU]; exact hPc, va_K.moved hW.alike hK, hDc, hE U hU hW.alike⟩⟩ rfl hlen hsize rfl (lv_room hW) hdg hf) hP hD hS hA kk
/-- a static call -/
theorem gSE {post : Int32 → σ → Prop} {rt : Option FieldType} (S : CallFix p m c cc nL s args Ts own) (hM : MGE l y wsc rm D cl tys As wc E post F mc ms) (cw : CallB R s args own index y bytes maxL rt wsc rm mc ms n ∧ (Cond.static y).before args s = true) (hEo : E_ok E) (hE : ∀ U : State, U.heap = H → s.vm.Alike U.vm → E (va_A wc H.size) U) (hK : va_K D cl tys s) (hP : va_P D cl (wc ++ wr) H) (hD : va_D A (wc ++ wr)) (hS : va_S A H0 H locs) (hA : ∀ q : Nat, H0.size ≤ q → A q)
    (hlen : As.length = n) (hsize : ls.size = nL) (hst : st0 = As.reverse ++ rst) (hW : (rst.map fun v => v.category).sum ≤ 8) (hdg : decode cc pc = .ok (.invokestatic index, 3)) (hf : cells + mc ≤ R.cells ∧ slots + ms ≤ R.slots)
    (kk : ∀ (r : Int32) (u : σ) (H1 : Heap) (locs1 : List Loc), post r u → va_P D cl (F u ++ wr) H1 → va_D A (F u ++ wr) → va_S A H0 H1 locs1 → W p l e R s m args below meth c H1 locs1 (cells + mc) (slots + ms) Q (F0 m (pc + 3) ls (.int r :: rst))) : W p l e R s m args below meth c H locs cells slots Q (F0 m pc ls st0) := by
  have hPc : va_P D cl wc H := hP.mem (fun q h => List.mem_append_left _ h)
  have hDc : va_D (fun _ => True) wc := (hD.preL).weaken (fun _ _ _ _ => trivial)
  subst hst
  exact x_goIE (wc := wc) (wr := wr) (va_runS (As := As) (rest := rst) S (hM H.size) cw ⟨x_blindE hEo, fun U hU hW => ⟨rfl, by rw [hU], by rw [hU]; exact hPc, va_K.moved hW.alike hK, hDc, hE U hU hW.alike⟩⟩ rfl hlen hsize rfl (lv_room hW) hdg hf) hP hD hS hA kk
end NEWR
/-! the sizes -/
def dr_sz (x : Int32) : Nat := if 5 < x then if 7 < x then if 11 < x then 13 else 11 else 7 else 5
def dr_ns (y : Int32) : Nat := if 1 ≤ y then if y ≤ 4 then y.toNatClampNeg else 4 else 1
theorem dr_sz_P (x : Int32) : dr_P (dr_sz x) := by
  unfold dr_sz dr_P
  split
  · split
    · split <;> decide
    · decide
  · decide
theorem dr_sz_5 {x : Int32} (h : ¬ 5 < x) : dr_sz x = 5 := by unfold dr_sz; rw [if_neg h]
theorem dr_sz_7 {x : Int32} (h : 5 < x) (h2 : ¬ 7 < x) : dr_sz x = 7 := by unfold dr_sz; rw [if_pos h, if_neg h2]
theorem dr_sz_11 {x : Int32} (h : 5 < x) (h2 : 7 < x) (h3 : ¬ 11 < x) : dr_sz x = 11 := by unfold dr_sz; rw [if_pos h, if_pos h2, if_neg h3]
theorem dr_sz_13 {x : Int32} (h : 5 < x) (h2 : 7 < x) (h3 : 11 < x) : dr_sz x = 13 := by unfold dr_sz; rw [if_pos h, if_pos h2, if_pos h3]
theorem dr_ns_1 {y : Int32} (h : ¬ 1 ≤ y) : dr_ns y = 1 := by unfold dr_ns; rw [if_neg h]
theorem dr_ns_4 {y : Int32} (h : 1 ≤ y) (h2 : ¬ y ≤ 4) : dr_ns y = 4 := by unfold dr_ns; rw [if_pos h, if_neg h2]
theorem dr_P13 {P : Nat} (h : dr_P P) : P ≤ 13 := by have := h.le; omega
theorem dr_PP169 {P : Nat} (h : dr_P P) : P * P ≤ 169 := by have h1 := dr_P13 h; exact Nat.mul_le_mul h1 h1
theorem dr_ns_in {y : Int32} (h1 : 1 ≤ y) (h2 : y ≤ 4) : y = nI (dr_ns y) := by
  obtain ⟨j, hj, rfl⟩ := nI_of (x := y) (fun h => absurd h (Int32.not_lt.mpr (Int32.le_trans (by decide) h1)))
  unfold dr_ns
  rw [if_pos h1, if_pos h2, nI_clamp hj]
theorem dr_ns_le (y : Int32) : 1 ≤ dr_ns y ∧ dr_ns y ≤ 4 := by
  unfold dr_ns
  split
  · split
    · rename_i h1 h2
      obtain ⟨j, hj, rfl⟩ := nI_of (x := y) (fun h => absurd h (Int32.not_lt.mpr (Int32.le_trans (by decide) h1)))
      rw [nI_clamp hj]
      rw [show (1 : Int32) = nI 1 from by decide, nI_leI (by decide) hj] at h1
      rw [show (4 : Int32) = nI 4 from by decide, nI_leI hj (by decide)] at h2
      omega
    · decide
  · decide
