/-! the law's calls -/
section LCALL
variable {p : Program} {l : Launch} {e : Env} {s : State} {m : MethodId} {args : Array Value} {below : List Frame} {meth : Method} {c : Code} {H : Heap} {locs : List Loc} {cells slots : Nat} {Q : State → Prop}
variable {pc : Nat} {ls : Array Slot} {D : va_G} {A : Nat → Prop} {tys : List (ClassId × FieldType)} {rst st0 : List Value} {w1 w2 wc : va_W} {y : MethodName} {cc : ByteArray} {mL nn idx rb ci : Nat} {rt : FieldType} {rm : Room} {av fs : List Value} {qc : vw_C} {σ : Type} {F : σ → va_W} {post : Int32 → σ → Prop}
theorem perm_mid (w1 w w2 : va_W) : (w1 ++ (w ++ w2)).Perm (w ++ (w1 ++ w2)) := by
  rw [← List.append_assoc, ← List.append_assoc]
  exact List.Perm.append_right _ List.perm_append_comm
theorem lc_g (S : CallFix p m c code 7 s args TB "DriveRingLaw") (hM : MG l y (Cond.code y cc mL (some rt) :: TB) rm D vwCl tys (.ref rb :: av) wc post F) (h1 : rm.cells = 0) (h2 : rm.slots = 0) (h3 : rm.frames + 1 ≤ 10) (h4 : 8 + (mL + 11) + rm.locals ≤ 342)
    (hg : GoodIn TB (wsV "DriveRingLaw" idx qc.1 y (Cond.code y cc mL (some rt) :: TB))) (hd : y.cls = qc.1 ∧ y.cls ≠ "java/lang/invoke/MethodHandle" ∧ y.cls ≠ "java/lang/invoke/VarHandle" ∧ (parseMethodDescriptor y.desc).map (fun d => d.parameters.length) = some nn)
    (hK : va_K D vwCl tys s) (hP : va_P D vwCl (w1 ++ (wc ++ w2)) H) (hD : va_D A (w1 ++ (wc ++ w2))) (hS : va_S A s.heap H locs) (hA : ∀ q : Nat, s.heap.size ≤ q → A q) (hre : wc[0]? = some (rb, .inr (ci, fs))) (hcl : vwCl[ci]? = some qc)
    (hlen : av.length = nn) (hsize : ls.size = 7) (hst : st0 = av.reverse ++ .ref rb :: rst) (hW : (rst.map fun v => v.category).sum ≤ 8) (hdg : decode code pc = .ok (.invokevirtual idx, 3)) (hf : cells ≤ 601024 ∧ slots ≤ 7293000)
    (kk : ∀ (r : Int32) (u : σ) (H1 : Heap) (locs1 : List Loc), post r u → va_P D vwCl (w1 ++ (F u ++ w2)) H1 → va_D A (w1 ++ (F u ++ w2)) → va_S A s.heap H1 locs1 → W p l e room_1 s m args below meth c H1 locs1 cells slots Q (F0 m (pc + 3) ls (.int r :: rst))) : W p l e room_1 s m args below meth c H locs cells slots Q (F0 m pc ls st0) := by
  have hP := hP.perm (ws' := wc ++ (w1 ++ w2)) (perm_mid w1 wc w2).symm
  have hD := hD.perm (ws' := wc ++ (w1 ++ w2)) (perm_mid w1 wc w2).symm
  have hPc : va_P D vwCl wc H := hP.mem (fun q h => List.mem_append_left _ h)
  have hDc : va_D (fun _ => True) wc := (hD.preL).weaken (fun _ _ _ _ => trivial)
  subst hst
  refine x_goI (wc := wc) (wr := w1 ++ w2) (va_runV (As := av) (rest := rst) S (hM H.size) (cwV nn S.2.2.2.2 hg rfl h1 h2 hd ⟨h3, h4⟩) ⟨x_blind, va_recv hK hPc hcl hre, fun U hU hW => ⟨rfl, by rw [hU], by rw [hU]; exact hPc, va_K.moved hW.alike hK, hDc⟩⟩ rfl hlen hsize rfl (lv_room hW) hdg ⟨hf.1, hf.2⟩) hP hD hS hA (fun r u H1 locs1 hp h1 h2 h3 => ?_)
  exact kk r u H1 locs1 hp (h1.perm (perm_mid w1 (F u) w2)) (h2.perm (perm_mid w1 (F u) w2)) h3
/-- the script's j-th -/
theorem x_sld {b L j : Nat} {xs : Nat → Int32} (hx : p.tables.exec = Jvm.exec) (hb : c.code = code) (hX : va_X b L xs s s.heap) (hbl : b < s.heap.size) (hbA : ¬ A b) (hS : va_S A s.heap H locs) (hj : j < L) (hL : L ≤ 2050) (hdg : decode code pc = .ok (.iaload, 1))
    (kk : W p l e room_1 s m args below meth c H locs cells slots Q (F0 m (pc + 1) ls (.int (xs j) :: rst))) : W p l e room_1 s m args below meth c H locs cells slots Q (F0 m pc ls (.int (nI j) :: .ref b :: rst)) := by
  refine va_sld hx hb hX hbl hbA hS (nI_in hj (by omega)) hdg ?_
  rw [nI_clamp (by omega)]
  exact kk
/-- the call of read -/
theorem lc_r {mc ms : Nat} (S : CallFix p m c code 7 s args TB "DriveRingLaw") (hM : MGE l yL_read wL_read rm_lr D vwCl tys av wc E_th post F 1 6) (hE : E_th A s)
    (hK : va_K D vwCl tys s) (hP : va_P D vwCl (wc ++ w2) H) (hD : va_D A (wc ++ w2)) (hS : va_S A s.heap H locs) (hA : ∀ q : Nat, s.heap.size ≤ q → A q)
    (hlen : av.length = 3) (hsize : ls.size = 7) (hst : st0 = av.reverse ++ rst) (hW : (rst.map fun v => v.category).sum ≤ 8) (hdg : decode code pc = .ok (.invokestatic 38, 3)) (hf : cells + 1 ≤ 601024 ∧ slots + 6 ≤ 7293000)
    (kk : ∀ (r : Int32) (u : σ) (H1 : Heap) (locs1 : List Loc), post r u → va_P D vwCl (F u ++ w2) H1 → va_D A (F u ++ w2) → va_S A s.heap H1 locs1 → W p l e room_1 s m args below meth c H1 locs1 (cells + 1) (slots + 6) Q (F0 m (pc + 3) ls (.int r :: rst))) : W p l e room_1 s m args below meth c H locs cells slots Q (F0 m pc ls st0) := by
  have hPc : va_P D vwCl wc H := hP.mem (fun q h => List.mem_append_left _ h)
  have hDc : va_D (fun _ => True) wc := (hD.preL).weaken (fun _ _ _ _ => trivial)
  have hF := x_free hD hS hA
  subst hst
  obtain ⟨hx, hb, hml, ho, hts⟩ := S
  have hG : GoodIn TB wL_read := fun w hw => by rcases List.mem_cons.mp hw with rfl | h; exact ⟨t_codeW_L_read, TB_good t_codeW_L_read⟩; exact ⟨h, TB_good h⟩
  have hini : (Cond.initialized "DriveRingLaw").before args s = true := hts _ (tb 34 (by decide +kernel) (by decide +kernel))
  have hBk : Back l room_1 p e below s args yL_read 3 8 (PreOf room_1 1 6 (va_Pc av (fun U => U.heap.size = H.size ∧ va_P D vwCl wc U.heap ∧ va_K D vwCl tys U ∧ va_D (fun _ => True) wc ∧ E_th (va_A wc H.size) U))) (PostOf (va_Qi post (fun u t => va_P D vwCl (F u) t.heap ∧ va_D (va_A wc H.size) (F u)) (va_A wc H.size)) 1 6 (va_A wc H.size)) :=
    va_backW (hh := hhL) (bytes := cL_read) (maxL := 4) (ret := some .int) (hM H.size) x_blindT rfl rfl (by decide) (by decide) (pay_in hts hG) List.mem_cons_self (fun a' U hW => word_at hW (Or.inl (by first | rfl | simp [Cond.onTables, Cond.keeps, Cond.steady])) hini)
  have hrun : va_Run p l e room_1 s m args below meth c H locs cells slots 1 6 (F0 m pc ls (av.reverse ++ rst)) rst (va_Qi post (fun u t => va_P D vwCl (F u) t.heap ∧ va_D (va_A wc H.size) (F u)) (va_A wc H.size) av.toArray) (va_A wc H.size) := by
    intro T hT X
    obtain ⟨mk, methM, cM, hnamed, hmethM, hcM, hbM, hlM, hhM, hrM, hkM, hsigM⟩ := Cond.codeWith_spec (hts _ t_codeW_L_read)
    have hstatic : methM.isStatic = true := Cond.static_spec hnamed hmethM (hts _ t_stat_L_read)
    obtain ⟨kP, hkP, -⟩ := className_of_methodNamed hnamed
    have hinitP : kP.init = .initialized := Cond.initialized_spec (findClass_of_methodNamed hnamed) hkP hini
    have hlen2 : av.length = methM.sig.parameters.length := by
      have h9 : (parseMethodDescriptor yL_read.desc).map (fun d => d.parameters.length) = some 3 := by decide +kernel
      rw [hsigM] at h9
      rw [hlen]
      exact (Option.some.inj h9).symm
    obtain ⟨vm₁, X₁, hstep₁⟩ := X.invokestatic hx ho (hts _ t_mL_38) hnamed hmethM hstatic hkP hinitP (by decide +kernel) (g := F0 m pc ls (av.reverse ++ rst)) rfl (argsL := av) (rest := rst) hlen2 rfl (by rw [hb]; exact hdg)
    obtain ⟨v, ⟨U', l2, c2, s2⟩, X', ⟨g', mk', t, L, e1, e2, hq, q1, hL, q2, q3⟩, hsteps⟩ := hBk m meth c ⟨T.setVm vm₁, locs, cells, slots⟩ (F0 m pc ls rst) (.invokestatic 38) mk av.toArray X₁ rfl (hsize.trans hml.symm) (by rw [hb]; exact hdg) (lv_room hW) (X₁.named hnamed)
      ⟨hf.1, hf.2, rfl, by show T.heap.size = _; rw [hT], by show va_P D vwCl wc T.heap; rw [hT]; exact hPc, va_K.moved X₁.warmed.alike hK, hDc, hE.call hS.2.1 hF hT X₁.warmed⟩
    dsimp only [Pt.U, Pt.locs, Pt.cells, Pt.slots] at X' e1 e2 q1 q2 q3 hsteps
    subst q1; subst q2; subst q3
    exact ⟨v, (T.setVm vm₁).calling g' mk' av.toArray, t, U', L, hT, X', hL, e1, e2, hq, fun target h => hstep₁ _ fun acts => by rw [doInvoke_state]; exact hsteps.trans h⟩
  exact x_goIE (wc := wc) (wr := w2) hrun hP hD hS hA kk
end LCALL
