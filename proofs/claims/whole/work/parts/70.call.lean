/-! calls: of a method that throws, the exception caught here; of a static method that has an exception table -/
section TCALL
variable {p : Program} {l : Launch} {e : Env} {R : Room} {s : State} {m : MethodId} {args : Array Value} {below : List Frame} {meth : Method} {c : Code} {H : Heap} {locs : List Loc} {cells slots : Nat} {Q : State → Prop}
variable {pc : Nat} {ls : Array Slot} {D : va_G} {cl : List vw_C} {A : Nat → Prop} {tys : List (ClassId × FieldType)} {rst st0 : List Value} {wc wr : va_W} {cc bytes : ByteArray} {y : MethodName} {maxL nL n index mc ms ci b : Nat} {wsc Ts : List Cond} {rm : Room} {own C : String} {As : List Value} {fs : List Value} {qc : vw_C} {ret : Option FieldType}
theorem x_blindT {sz : Nat} {vs : List Value} {B : Nat → Prop} : FrameBlind (va_Pc vs (fun U => U.heap.size = sz ∧ va_P D cl wc U.heap ∧ va_K D cl tys U ∧ va_D (fun _ => True) wc ∧ E_th B U)) :=
  fun a U g mk q => by obtain ⟨q0, q1, qP, qK, qD, qE⟩ := q; exact ⟨q0, q1, qP, va_K.moved (u := U) (U := U.calling g mk a) (Vm.Alike.refl U.vm) qK, qD, qE.blind g mk a⟩
set_option maxHeartbeats 1000000 in
theorem gVT {X : String} {x : ExceptionTableEntry} {pre post : List ExceptionTableEntry} (S : CallFix p m c cc nL s args Ts own) (hM : MT l y wsc rm D cl tys (.ref b :: As) wc X mc ms) (cw : CallW R s args own C index y bytes maxL ret wsc rm mc ms n)
    (hE : E_th A s) (hK : va_K D cl tys s) (hP : va_P D cl (wc ++ wr) H) (hD : va_D A (wc ++ wr)) (hS : va_S A s.heap H locs) (hA : ∀ q : Nat, s.heap.size ≤ q → A q)
    (hre : wc[0]? = some (b, .inr (ci, fs))) (hcl : cl[ci]? = some qc) (hq : qc.1 = C) (hlen : As.length = n) (hsize : ls.size = nL) (hst : st0 = As.reverse ++ .ref b :: rst) (hW : (rst.map fun v => v.category).sum ≤ 8) (hdg : decode cc pc = .ok (.invokevirtual index, 3)) (hf : cells + mc ≤ R.cells ∧ slots + ms ≤ R.slots)
    (hsplit : c.exceptionTable.toList = pre ++ x :: post) (hpass : ∀ z : ClassId, s.vm.findClass X = some z → ∀ y ∈ pre, RowPassed e.platform s m.cls pc z y) (hxc : covers x pc = true) (hx0 : x.catchType ≠ 0) (hlk : (Cond.classLink own x.catchType X).before args s = true) (hcast : (Cond.castable X X).before args s = true)
    (kk : ∀ (a : Nat) (H1 : Heap) (locs1 : List Loc), va_P D cl (wc ++ wr) H1 → va_D A (wc ++ wr) → va_S A s.heap H1 locs1 → W p l e R s m args below meth c H1 locs1 (cells + mc) (slots + ms) Q (F0 m x.handlerPc ls [.ref a])) : W p l e R s m args below meth c H locs cells slots Q (F0 m pc ls st0) := by
  intro T hT X0
  subst hst
  subst hq
  have hPc : va_P D cl wc H := hP.mem (fun q h => List.mem_append_left _ h)
  have hDc : va_D (fun _ => True) wc := (hD.preL).weaken (fun _ _ _ _ => trivial)
  have hF := x_free hD hS hA
  obtain ⟨⟨hrc, hrs, hfr, hlo, hws, hcw, hcode, hini, hy, hln, hl⟩, hin, hse⟩ := cw
  obtain ⟨hx, hb, hml, ho, -⟩ := S
  obtain ⟨cellB, hcB, hoB, hclB⟩ := va_recv hK hPc hcl hre
  have hB : BackT l R p e below s args y 3 8 (PreOf R mc ms (va_Pc (.ref b :: As) (fun U => U.heap.size = H.size ∧ va_P D cl wc U.heap ∧ va_K D cl tys U ∧ va_D (fun _ => True) wc ∧ E_th (va_A wc H.size) U)))
      (fun A1 a v B => ∃ (g : JFrame) (mk : MethodId) (t : State) (L : List Loc), B.U.heap = t.heap ∧ B.U.vm = t.vm ∧ QTq D cl X wc (va_A wc H.size) a (A1.U.calling g mk a) (.threw v) t ∧ B.locs = A1.locs ++ L ∧ (∀ q ∈ L, va_A wc H.size q.base) ∧ B.cells = A1.cells + mc ∧ B.slots = A1.slots + ms) := by
    refine BackT.of_free (S := headSpec wsc rm) (bytes := bytes) (maxL := maxL) (ret := ret) (E := fun a st o t L k n => k = mc ∧ n = ms ∧ ∀ q ∈ L, va_A wc H.size q.base) (hM H.size) hfr hlo ?_ ?_ (fun _ _ _ _ _ _ _ _ _ => trivial) ?_ ?_
    · intro m meth c A a X hp
      exact ⟨atoms_intro fun w hw => hws w hw _ _ X.warmed, hws _ hcw _ _ X.warmed, word_at X.warmed (Or.inl (by first | rfl | simp [Cond.onTables, Cond.keeps, Cond.steady])) hini, by rw [show (headSpec wsc rm).room.cells = mc from hrc]; exact hp.1, by rw [show (headSpec wsc rm).room.slots = ms from hrs]; exact hp.2.1⟩
    · intro m meth c A a g mk X hp
      exact x_blindT _ _ _ _ hp.2.2
    · intro a st o t ⟨hq, L, hF, hL⟩
      exact ⟨L, mc, ms, hF, rfl, rfl, hL⟩
    · intro m meth c A a g mk v t L k n X hp hq hF ⟨e1, e2, hL⟩
      subst e1; subst e2
      exact ⟨g, mk, t, L, rfl, rfl, hq.1, rfl, hL, rfl, rfl⟩
  obtain ⟨mk, methM, hnamed, hmethM, hstM, habM⟩ := Cond.instanceMethod_spec hin
  obtain ⟨methM', cM, hmethM', -, -, -, -, -, -, hsigM⟩ := Cond.code_spec hnamed hcode
  cases hmethM.symm.trans hmethM'
  obtain ⟨c2, r2, m2, q1, q2, q3, q4, kP, hkP, hkPi⟩ := Cond.selects_spec hse
  cases hclB.symm.trans q1
  cases (State.methodFound?_of_named hnamed hy).symm.trans q2
  cases hnamed.symm.trans q3
  have hselP : selectMethod e.platform s.vm cellB.cls mk = .method mk := by rw [Launch.admits_selectMethod X0.admits]; exact q4
  obtain ⟨vm₁, X₁, hstep₁⟩ := X0.invokevirtual hx ho hl hnamed hmethM hstM hkP hkPi hy (a := b) (cell := cellB) (by rw [hT]; exact hcB)
    (fun z h => by rw [h] at hoB; cases hoB) hselP hmethM habM hkP hkPi (g := F0 m pc ls (As.reverse ++ .ref b :: rst)) rfl (argsL := As) (rest := rst) (hlen.trans (hln _ hsigM)) rfl (by rw [hb]; exact hdg)
  obtain ⟨v, ⟨U, l2, c2, s2⟩, X', ⟨g', mk', t, L, e1, e2, ⟨x9, ce, hx9, hge, hce, hfc, hcv, hPt, hFt⟩, h1, hL, h2, h3⟩, hsteps⟩ := hB m meth c ⟨T.setVm vm₁, locs, cells, slots⟩ (F0 m pc ls rst) (.invokevirtual index) mk (.ref b :: As).toArray X₁ rfl (hsize.trans hml.symm) (by rw [hb]; exact hdg) (lv_room hW) (X₁.named hnamed)
    ⟨hf.1, hf.2, rfl, by show T.heap.size = _; rw [hT], by show va_P D cl wc T.heap; rw [hT]; exact hPc, va_K.moved X₁.warmed.alike hK, hDc, hE.call hS.2.1 hF hT X₁.warmed⟩
  dsimp only [Pt.U, Pt.locs, Pt.cells, Pt.slots] at X' e1 e2 h1 h2 h3 hsteps
  subst h1; subst h2; subst h3
  cases hx9
  have hfc' : s.vm.findClass X = some ce.cls := by
    have h9 : (T.setVm vm₁).vm.findClass X = some ce.cls := hfc
    rw [← X₁.warmed.alike.findClass]
    exact h9
  obtain ⟨c3, c4, hc3, hc4, hasg⟩ := Cond.castable_spec hcast
  cases hfc'.symm.trans hc3
  cases hfc'.symm.trans hc4
  obtain ⟨hend, hk0⟩ := X'.catches_of_link ho hx0 hlk hfc' hasg
  have hcome : Steps p.tables e below (T.setTop (F0 m pc ls (As.reverse ++ .ref b :: rst))) ((U.setTop (F0 m pc ls rst)).pushFrame (.throwing v)) := hstep₁ _ (fun acts => by rw [doInvoke_state]; exact hsteps)
  obtain ⟨vm₂, X₂, st2⟩ := X'.thenCaughtThrough v (g := F0 m pc ls rst) rfl hcome (cell := ce) (by rw [e1]; exact hce) (by rw [hcv]; rfl) hk0 pre x post hsplit (hpass _ hfc') hxc hend
  have hk : ∀ q : Nat, q < H.size → ¬ va_A wc H.size q → t.heap[q]? = H[q]? := by
    intro q h1 h2
    have := hFt.2 q (by show q < T.heap.size; rw [hT]; exact h1) h2
    rw [this]
    show T.heap[q]? = H[q]?
    rw [hT]
  have hz : H.size ≤ t.heap.size := by
    have := hFt.1
    have h9 : T.heap.size ≤ t.heap.size := this
    rw [hT] at h9
    exact h9
  obtain ⟨hPj, hDj⟩ := va_joinA hP hD hk hF hPt (hDc.self (sz := H.size))
  have hSj : va_S A s.heap t.heap (locs ++ L) := by
    refine ⟨Nat.le_trans hS.1 hz, fun q h1 h2 => ?_, fun q hq => ?_⟩
    · rw [hk q (Nat.lt_of_lt_of_le h1 hS.1) (fun z => h2 (hF q z))]
      exact hS.2.1 q h1 h2
    · rcases List.mem_append.mp hq with h9 | h9
      · exact hS.2.2 q h9
      · exact hF _ (hL q h9)
  obtain ⟨t2, a1, b1⟩ := kk v t.heap (locs ++ L) hPj hDj hSj (U.setVm vm₂) e1 X₂
  exact ⟨t2, st2.trans a1, b1⟩
end TCALL
