/-! the law's read: 0 with the word, or 1 or 2 for what was thrown -/
abbrev hhL : List (Nat × Nat × Nat × Nat) := [(0, 9, 12, 13), (0, 9, 15, 15)]
abbrev wL_read : List Cond := Cond.codeWith yL_read cL_read 4 (some .int) hhL :: TB
theorem t_codeW_L_read : Cond.codeWith yL_read cL_read 4 (some .int) hhL ∈ TB := tb 352 (by decide +kernel) (by decide +kernel)
theorem MGE.ofWW {l : Launch} {σ : Type} {y : MethodName} {wc wc' : List Cond} {rm : Room} {D : va_G} {cl : List vw_C} {tys : List (ClassId × FieldType)} {av : List Value} {ws : va_W} {F : σ → va_W} {cc : ByteArray} {maxL mc ms : Nat} {rt : FieldType} {E : (Nat → Prop) → State → Prop} {post : Int32 → σ → Prop} {hh : List (Nat × Nat × Nat × Nat)}
    (hy : plainName y.cls = true) (hw : wc = Cond.codeWith y cc maxL (some rt) hh :: wc') (hav : (lg_sl av).length ≤ maxL)
    (body : ∀ (p : Program) (e : Env) (s : State) (m : MethodId) (args : Array Value) (below : List Frame) (meth : Method) (c : Code) (A : Nat → Prop) (ls : Array Slot) (Q : State → Prop) (H : Heap) (locs : List Loc), Q = QGE below D cl post F A args s mc ms → E A s → c.exceptionTable.toList.map (fun h => (h.startPc, h.endPc, h.handlerPc, h.catchType)) = hh →
      p.tables.exec = Jvm.exec → c.code = cc → c.maxLocals = maxL → meth.sig.returnType = some rt → meth.locks = false → (∀ w ∈ wc, w.before args s = true) → s.vm.findClass y.cls = some m.cls → va_K D cl tys s → va_P D cl ws H → va_D A ws → va_S A s.heap H locs → (∀ q : Nat, s.heap.size ≤ q → A q) → lv_has ls maxL (lv_args 0 av) →
      W p l e rm s m args below meth c H locs 0 0 Q (F0 m 0 ls [])) : MGE l y wc rm D cl tys av ws E post F mc ms := by
  intro sz
  refine va_MetW (cc := cc) (maxL := maxL) (ret := some rt) (hh := hh) hy hw ?_
  intro p e s m args below meth c s₁ B hml hv
  obtain ⟨rfl, hsz, hP, hK, hD0, hE⟩ := hv
  subst hsz
  have hl := lv_entry av (n := maxL) hav
  obtain ⟨m9, meth9, c9, n1, n2, n3, -, -, n6, -⟩ := Cond.codeWith_spec (atoms_spec (ws := wc) B.pre _ (by rw [hw]; exact List.mem_cons_self))
  cases B.named.symm.trans n1
  cases B.method.symm.trans n2
  cases (Stand.of_body B).code.symm.trans n3
  rw [lg_entry_eq]
  exact body p e s m _ below meth c (va_A ws s.heap.size) _ _ _ _ rfl hE n6 B.exec B.bytes hml B.returns B.notSynchronized (atoms_spec (ws := wc) B.pre) (findClass_of_methodNamed B.named) hK hP (hD0.self (sz := s.heap.size)) va_S.rf (fun q h => Or.inr h) hl
theorem hhL_two {c : Code} (h : c.exceptionTable.toList.map (fun h => (h.startPc, h.endPc, h.handlerPc, h.catchType)) = hhL) : ∃ x1 x2 : ExceptionTableEntry, c.exceptionTable.toList = [x1, x2] ∧ covers x1 4 = true ∧ x1.handlerPc = 12 ∧ x1.catchType = 13 ∧ covers x2 4 = true ∧ x2.handlerPc = 15 ∧ x2.catchType = 15 := by
  match hL : c.exceptionTable.toList with
  | [] => rw [hL] at h; cases h
  | [x1] => rw [hL] at h; simp at h
  | [x1, x2] =>
    rw [hL] at h
    simp only [List.map_cons, List.map_nil, List.cons.injEq, Prod.mk.injEq, and_true] at h
    obtain ⟨⟨a1, a2, a3, a4⟩, b1, b2, b3, b4⟩ := h
    exact ⟨x1, x2, rfl, by simp [covers, a1, a2], a3, a4, by simp [covers, b1, b2], b3, b4⟩
  | x1 :: x2 :: x3 :: r => rw [hL] at h; simp at h
abbrev rm_lr : Room := { frames := 8, cells := 1, slots := 6, locals := 170 }
section LREAD
variable {l : Launch} {dC : Nat → ClassId} {dI : Nat → Nat → Nat} {cI cB cQ cJ : ClassId} {aR aJ : Nat} {x : Int32} {g : Nat → Int64} {wc : va_W} {fs : List Value} {rmX : Room}
set_option maxHeartbeats 1000000 in
theorem c_lr0 {σ : Type} {post : Int32 → σ → Prop} {F : σ → va_W} (hM : MG l yX3_read (Cond.code yX3_read cX3_read 4 (some .int) :: TB) rmX (dC, dI) vwCl (TY cI cB cQ cJ) [.ref aR, .int x] wc post F) (hre : wc[0]? = some (aR, .inr (3, fs))) (h1 : rmX.cells = 0) (h2 : rmX.slots = 0) (h3 : rmX.frames + 1 ≤ 8) (h4 : 8 + (4 + 11) + rmX.locals ≤ 170) :
    MGE l yL_read wL_read rm_lr (dC, dI) vwCl (TY cI cB cQ cJ) [.ref aR, .int x, .ref aJ] ((aJ, .inl (cJ, 1, .inr (.inl g))) :: wc) E_th (fun (r : Int32) (u : Int32 × σ) => r = 0 ∧ post u.1 u.2) (fun (u : Int32 × σ) => (aJ, .inl (cJ, 1, .inr (.inl (vp_updL g 0 u.1.toInt64)))) :: F u.2) 1 6 := by
  refine MGE.ofWW (cc := cL_read) (maxL := 4) (rt := .int) (by decide +kernel) rfl (Nat.le_of_ble_eq_true rfl) ?_
  intro p e s m args below meth c A ls Q H locs hQ hE hhh hx hb hml hr hlk hts hown hK hP hD hS hA hl
  have hts : ∀ w ∈ TB, w.before args s = true := fun w h => hts w (List.mem_cons_of_mem _ h)
  have hown : s.vm.findClass RL = some m.cls := hown
  have hl : lv_has ls 4 [(0, .ref aR), (1, .int x), (2, .ref aJ)] := hl
  refine lv_aload_n hx hb dL_read_0 rfl (lv_at hl 2 rfl) ?_
  refine lv_iconst (v := nI 0) hx hb dL_read_1 (by decide) ?_
  refine lv_aload_n hx hb dL_read_2 rfl (lv_at hl 0 rfl) ?_
  refine lv_iload_n hx hb dL_read_3 rfl (lv_at hl 1 rfl) ?_
  have hP := hP.perm (ws' := wc ++ [(aJ, .inl (cJ, 1, .inr (.inl g)))]) List.perm_append_comm
  have hD := hD.perm (ws' := wc ++ [(aJ, .inl (cJ, 1, .inr (.inl g)))]) List.perm_append_comm
  have hPc : va_P (dC, dI) vwCl wc H := hP.mem (fun q h => List.mem_append_left _ h)
  have hDc : va_D (fun _ => True) wc := (hD.preL).weaken (fun _ _ _ _ => trivial)
  refine x_goI (wc := wc) (wr := [(aJ, .inl (cJ, 1, .inr (.inl g)))]) (va_runV (As := [.int x]) (rest := [.int (nI 0), .ref aJ]) ⟨hx, hb, hml, hown, hts⟩ (hM H.size) (cwV 1 hts (gdV t_mL_7 t_inst_X3_read t_sel_X3_read t_ini_X3 t_code_X3_read) rfl h1 h2 (by decide +kernel) ⟨h3, h4⟩) ⟨x_blind, va_recv (q := (RX3, TX3, 6)) hK hPc rfl hre, fun U hU hW => ⟨rfl, by rw [hU], by rw [hU]; exact hPc, va_K.moved hW.alike hK, hDc⟩⟩ rfl rfl hl.1 rfl (lv_room (Nat.le_of_ble_eq_true rfl)) dL_read_4 ⟨Nat.zero_le _, Nat.zero_le _⟩) hP hD hS hA (fun r u H locs hu hP hD hS => ?_)
  have hP := hP.perm (ws' := [(aJ, .inl (cJ, 1, .inr (.inl g)))] ++ F u) List.perm_append_comm
  have hD := hD.perm (ws' := [(aJ, .inl (cJ, 1, .inr (.inl g)))] ++ F u) List.perm_append_comm
  refine lv_i2l (v := r.toInt64) hx hb dL_read_7 rfl ?_
  refine va_last hx hb hK hP hD hS 0 3 rfl rfl (nI_in (by omega) (by omega)) dL_read_8 (fun H locs hP hD hS => ?_)
  refine lv_goto (tgt := 18) hx hb dL_read_9 (by decide) ?_
  refine lv_iconst (v := 0) hx hb dL_read_18 (by decide) ?_
  exact x_iretE (D := (dC, dI)) (cl := vwCl) (A := A) (r, u) hQ hx hb hr hlk hP hD hS (Nat.zero_le _) (Nat.zero_le _) dL_read_19 ⟨rfl, hu⟩
set_option maxHeartbeats 1000000 in
theorem c_lr1 (hM : MT l yX3_read (Cond.code yX3_read cX3_read 4 (some .int) :: TB) rmX (dC, dI) vwCl (TY cI cB cQ cJ) [.ref aR, .int x] wc xNS 1 6) (hre : wc[0]? = some (aR, .inr (3, fs))) (h1 : rmX.cells = 1) (h2 : rmX.slots = 6) (h3 : rmX.frames + 1 ≤ 8) (h4 : 8 + (4 + 11) + rmX.locals ≤ 170) :
    MGE l yL_read wL_read rm_lr (dC, dI) vwCl (TY cI cB cQ cJ) [.ref aR, .int x, .ref aJ] ((aJ, .inl (cJ, 1, .inr (.inl g))) :: wc) E_th (fun (r : Int32) (_ : Unit) => r = 1) (fun (_ : Unit) => (aJ, .inl (cJ, 1, .inr (.inl g))) :: wc) 1 6 := by
  refine MGE.ofWW (cc := cL_read) (maxL := 4) (rt := .int) (by decide +kernel) rfl (Nat.le_of_ble_eq_true rfl) ?_
  intro p e s m args below meth c A ls Q H locs hQ hE hhh hx hb hml hr hlk hts hown hK hP hD hS hA hl
  have hts : ∀ w ∈ TB, w.before args s = true := fun w h => hts w (List.mem_cons_of_mem _ h)
  have hown : s.vm.findClass RL = some m.cls := hown
  have hl : lv_has ls 4 [(0, .ref aR), (1, .int x), (2, .ref aJ)] := hl
  obtain ⟨x1, x2, htab, ha1, ha2, ha3, hb1, hb2, hb3⟩ := hhL_two hhh
  refine lv_aload_n hx hb dL_read_0 rfl (lv_at hl 2 rfl) ?_
  refine lv_iconst (v := nI 0) hx hb dL_read_1 (by decide) ?_
  refine lv_aload_n hx hb dL_read_2 rfl (lv_at hl 0 rfl) ?_
  refine lv_iload_n hx hb dL_read_3 rfl (lv_at hl 1 rfl) ?_
  have hP := hP.perm (ws' := wc ++ [(aJ, .inl (cJ, 1, .inr (.inl g)))]) List.perm_append_comm
  have hD := hD.perm (ws' := wc ++ [(aJ, .inl (cJ, 1, .inr (.inl g)))]) List.perm_append_comm
  refine gVT (X := xNS) (x := x1) (pre := []) (post := [x2]) (b := aR) (As := [.int x]) (rst := [.int (nI 0), .ref aJ]) (ci := 3) (qc := (RX3, TX3, 6)) ⟨hx, hb, hml, hown, hts⟩ hM (cwV 1 hts (gdV t_mL_7 t_inst_X3_read t_sel_X3_read t_ini_X3 t_code_X3_read) rfl h1 h2 (by decide +kernel) ⟨h3, h4⟩) hE hK hP hD hS hA hre rfl rfl rfl hl.1 rfl (Nat.le_of_ble_eq_true rfl) dL_read_4 ⟨Nat.le_of_ble_eq_true rfl, Nat.le_of_ble_eq_true rfl⟩ htab (fun _ _ _ h => absurd h List.not_mem_nil) ha1 (by rw [ha3]; decide) (by rw [ha3]; exact hts _ t_cL_13) (Cond.tabsOnly_warm (T := s) (State.WarmedH.refl s) _ (by decide +kernel) (hE.2.2.1 _ (List.mem_of_getElem? (i := 3) rfl))) (fun a H locs hP hD hS => ?_)
  rw [ha2]
  have hP := hP.perm (ws' := [(aJ, .inl (cJ, 1, .inr (.inl g)))] ++ wc) List.perm_append_comm
  have hD := hD.perm (ws' := [(aJ, .inl (cJ, 1, .inr (.inl g)))] ++ wc) List.perm_append_comm
  refine lv_astore_n hx hb dL_read_12 rfl hl (by decide) rfl (fun ls hl => ?_)
  refine lv_iconst (v := 1) hx hb dL_read_13 (by decide) ?_
  exact x_iretE (D := (dC, dI)) (cl := vwCl) (A := A) () hQ hx hb hr hlk hP hD hS (Nat.le_refl _) (Nat.le_refl _) dL_read_14 rfl
set_option maxHeartbeats 1000000 in
theorem c_lr2 (hM : MT l yX3_read (Cond.code yX3_read cX3_read 4 (some .int) :: TB) rmX (dC, dI) vwCl (TY cI cB cQ cJ) [.ref aR, .int x] wc xIS 1 6) (hre : wc[0]? = some (aR, .inr (3, fs))) (h1 : rmX.cells = 1) (h2 : rmX.slots = 6) (h3 : rmX.frames + 1 ≤ 8) (h4 : 8 + (4 + 11) + rmX.locals ≤ 170) :
    MGE l yL_read wL_read rm_lr (dC, dI) vwCl (TY cI cB cQ cJ) [.ref aR, .int x, .ref aJ] ((aJ, .inl (cJ, 1, .inr (.inl g))) :: wc) E_th (fun (r : Int32) (_ : Unit) => r = 2) (fun (_ : Unit) => (aJ, .inl (cJ, 1, .inr (.inl g))) :: wc) 1 6 := by
  refine MGE.ofWW (cc := cL_read) (maxL := 4) (rt := .int) (by decide +kernel) rfl (Nat.le_of_ble_eq_true rfl) ?_
  intro p e s m args below meth c A ls Q H locs hQ hE hhh hx hb hml hr hlk hts hown hK hP hD hS hA hl
  have hts : ∀ w ∈ TB, w.before args s = true := fun w h => hts w (List.mem_cons_of_mem _ h)
  have hown : s.vm.findClass RL = some m.cls := hown
  have hl : lv_has ls 4 [(0, .ref aR), (1, .int x), (2, .ref aJ)] := hl
  obtain ⟨x1, x2, htab, ha1, ha2, ha3, hb1, hb2, hb3⟩ := hhL_two hhh
  refine lv_aload_n hx hb dL_read_0 rfl (lv_at hl 2 rfl) ?_
  refine lv_iconst (v := nI 0) hx hb dL_read_1 (by decide) ?_
  refine lv_aload_n hx hb dL_read_2 rfl (lv_at hl 0 rfl) ?_
  refine lv_iload_n hx hb dL_read_3 rfl (lv_at hl 1 rfl) ?_
  have hP := hP.perm (ws' := wc ++ [(aJ, .inl (cJ, 1, .inr (.inl g)))]) List.perm_append_comm
  have hD := hD.perm (ws' := wc ++ [(aJ, .inl (cJ, 1, .inr (.inl g)))]) List.perm_append_comm
  intro T hT X0
  have hpl : e.platform.magicAccessors = ({} : Platform).magicAccessors := by rw [X0.admits.platform]
  revert T
  refine gVT (X := xIS) (x := x2) (pre := [x1]) (post := []) (b := aR) (As := [.int x]) (rst := [.int (nI 0), .ref aJ]) (ci := 3) (qc := (RX3, TX3, 6)) ⟨hx, hb, hml, hown, hts⟩ hM (cwV 1 hts (gdV t_mL_7 t_inst_X3_read t_sel_X3_read t_ini_X3 t_code_X3_read) rfl h1 h2 (by decide +kernel) ⟨h3, h4⟩) hE hK hP hD hS hA hre rfl rfl rfl hl.1 rfl (Nat.le_of_ble_eq_true rfl) dL_read_4 ⟨Nat.le_of_ble_eq_true rfl, Nat.le_of_ble_eq_true rfl⟩ htab (fun z hz y hy => by
    rcases List.mem_cons.mp hy with rfl | h9
    · exact RowPassed.of_words (args := args) hpl hown (by rw [ha3]; decide) (by rw [ha3]; exact hts _ t_cL_13) hz (Cond.notCastable_moved (T := s) (Vm.Alike.refl s.vm) hE.2.2.2.2)
    · exact absurd h9 List.not_mem_nil) hb1 (by rw [hb3]; decide) (by rw [hb3]; exact hts _ t_cL_15) (Cond.tabsOnly_warm (T := s) (State.WarmedH.refl s) _ (by decide +kernel) (hE.2.2.1 _ (List.mem_of_getElem? (i := 4) rfl))) (fun a H locs hP hD hS => ?_)
  rw [hb2]
  have hP := hP.perm (ws' := [(aJ, .inl (cJ, 1, .inr (.inl g)))] ++ wc) List.perm_append_comm
  have hD := hD.perm (ws' := [(aJ, .inl (cJ, 1, .inr (.inl g)))] ++ wc) List.perm_append_comm
  refine lv_astore_n hx hb dL_read_15 rfl hl (by decide) rfl (fun ls hl => ?_)
  refine lv_iconst (v := 2) hx hb dL_read_16 (by decide) ?_
  exact x_iretE (D := (dC, dI)) (cl := vwCl) (A := A) () hQ hx hb hr hlk hP hD hS (Nat.le_refl _) (Nat.le_refl _) dL_read_17 rfl
end LREAD
