section CALLS
variable {p : Program} {l : Launch} {e : Env} {R : Room} {s : State} {m : MethodId} {args : Array Value} {below : List Frame} {meth : Method} {c : Code} {H : Heap} {locs : List Loc} {cells slots : Nat} {Q : State → Prop}
variable {pc : Nat} {ls : Array Slot} {D : va_G} {cl : List vw_C} {A : Nat → Prop} {tys : List (ClassId × FieldType)} {H0 : Heap} {st0 rst : List Value} {av : Array Value} {σ : Type} {F G : σ → va_W} {wc wr pre tl : va_W}
theorem x_free (hD : va_D A (wc ++ wr)) (hS : va_S A H0 H locs) (hA : ∀ q : Nat, H0.size ≤ q → A q) : ∀ q : Nat, va_A wc H.size q → A q := by
  intro q h
  rcases h with ⟨k, x, h⟩ | h
  · exact hD.2 k (q, x) (by rw [List.getElem?_append_left (List.getElem?_eq_some_iff.mp h).1]; exact h)
  · exact hA q (Nat.le_trans hS.1 h)
theorem x_goI {post : Int32 → σ → Prop} (hr : va_Run p l e R s m args below meth c H locs cells slots 0 0 (F0 m pc ls st0) rst (va_Qi post (fun u t => va_P D cl (F u) t.heap ∧ va_D (va_A wc H.size) (F u)) (va_A wc H.size) av) (va_A wc H.size))
    (hP : va_P D cl (wc ++ wr) H) (hD : va_D A (wc ++ wr)) (hS : va_S A H0 H locs) (hA : ∀ q : Nat, H0.size ≤ q → A q)
    (kk : ∀ (r : Int32) (u : σ) (H1 : Heap) (locs1 : List Loc), post r u → va_P D cl (F u ++ wr) H1 → va_D A (F u ++ wr) → va_S A H0 H1 locs1 → W p l e R s m args below meth c H1 locs1 cells slots Q (F0 m (pc + 3) ls (.int r :: rst))) : W p l e R s m args below meth c H locs cells slots Q (F0 m pc ls st0) := by
  have hF := x_free hD hS hA
  refine va_calli hr hS (fun q _ h => hF q h) hF (fun r u t H1 locs1 ht hvm hp hB hz hk hS1 => ?_)
  obtain ⟨b1, b2⟩ := hB
  rw [ht] at b1
  obtain ⟨h1, h2⟩ := va_joinA hP hD hk hF b1 b2
  exact kk r u H1 locs1 hp h1 h2 hS1
theorem x_goV {post : σ → Prop} (hr : va_Run p l e R s m args below meth c H locs cells slots 0 0 (F0 m pc ls st0) rst (va_Qv post (fun u t => va_P D cl (F u) t.heap ∧ va_D (va_A wc H.size) (F u)) (va_A wc H.size) av) (va_A wc H.size))
    (hP : va_P D cl (wc ++ wr) H) (hD : va_D A (wc ++ wr)) (hS : va_S A H0 H locs) (hA : ∀ q : Nat, H0.size ≤ q → A q)
    (kk : ∀ (u : σ) (H1 : Heap) (locs1 : List Loc), post u → va_P D cl (F u ++ wr) H1 → va_D A (F u ++ wr) → va_S A H0 H1 locs1 → W p l e R s m args below meth c H1 locs1 cells slots Q (F0 m (pc + 3) ls rst)) : W p l e R s m args below meth c H locs cells slots Q (F0 m pc ls st0) := by
  have hF := x_free hD hS hA
  refine va_callv hr hS (fun q _ h => hF q h) hF (fun u t H1 locs1 ht hvm hp hB hz hk hS1 => ?_)
  obtain ⟨b1, b2⟩ := hB
  rw [ht] at b1
  obtain ⟨h1, h2⟩ := va_joinA hP hD hk hF b1 b2
  exact kk u H1 locs1 hp h1 h2 hS1
theorem x_blind {sz : Nat} {vs : List Value} : FrameBlind (va_Pc vs (fun U => U.heap.size = sz ∧ va_P D cl wc U.heap ∧ va_K D cl tys U ∧ va_D (fun _ => True) wc)) :=
  fun a U g mk q => by obtain ⟨q0, q1, qP, qK, qD⟩ := q; exact ⟨q0, q1, qP, va_K.moved (u := U) (U := U.calling g mk a) (Vm.Alike.refl U.vm) qK, qD⟩
variable {y : MethodName} {bytes cc : ByteArray} {maxL nL n index ci : Nat} {ret : Option FieldType} {wsc Ts : List Cond} {rm : Room} {own C : String} {b : Nat} {As : List Value} {fs : List Value} {qc : vw_C}
/-- an instance call: the callee's cells are isC of the part ahead of the tail, the others isR; behind it the cells stand in the order isB -/
theorem gV {post : Int32 → σ → Prop} (S : CallFix p m c cc nL s args Ts own) (hM : MG l y wsc rm D cl tys (.ref b :: As) wc post F) (cw : CallW R s args own C index y bytes maxL ret wsc rm 0 0 n) (hK : va_K D cl tys s) (hP : va_P D cl (pre ++ tl) H) (hD : va_D A (pre ++ tl)) (hS : va_S A H0 H locs) (hA : ∀ q : Nat, H0.size ≤ q → A q)
    (isC isR isB : List Nat) (hC : (isC ++ isR).map (fun i => pre[i]?) = (wc ++ wr).map some) (hn : va_nd (isC ++ isR) = true) (hB : ∀ u, isB.map (fun i => (F u ++ wr)[i]?) = (G u).map some) (hnB : va_nd isB = true) (hre : wc[0]? = some (b, .inr (ci, fs))) (hcl : cl[ci]? = some qc) (hq : qc.1 = C) (hlen : As.length = n) (hsize : ls.size = nL) (hst : st0 = As.reverse ++ .ref b :: rst) (hW : (rst.map fun v => v.category).sum ≤ 8) (hdg : decode cc pc = .ok (.invokevirtual index, 3)) (hf : cells + 0 ≤ R.cells ∧ slots + 0 ≤ R.slots)
    (kk : ∀ (r : Int32) (u : σ) (H1 : Heap) (locs1 : List Loc), post r u → va_P D cl (G u ++ tl) H1 → va_D A (G u ++ tl) → va_S A H0 H1 locs1 → W p l e R s m args below meth c H1 locs1 cells slots Q (F0 m (pc + 3) ls (.int r :: rst))) : W p l e R s m args below meth c H locs cells slots Q (F0 m pc ls st0) := by
  have hP1 : va_P D cl (wc ++ (wr ++ tl)) H := by rw [← List.append_assoc]; exact hP.pre (isC ++ isR) hC
  have hD1 : va_D A (wc ++ (wr ++ tl)) := by rw [← List.append_assoc]; exact hD.pre (isC ++ isR) hn hC
  have hPc : va_P D cl wc H := hP1.mem (fun q h => List.mem_append_left _ h)
  have hDc : va_D (fun _ => True) wc := (hD1.preL).weaken (fun _ _ _ _ => trivial)
  subst hst
  subst hq
  refine x_goI (wc := wc) (wr := wr ++ tl) (va_runV (As := As) (rest := rst) S (hM H.size) cw ⟨x_blind, va_recv hK hPc hcl hre, fun U hU hW => ⟨rfl, by rw [hU], by rw [hU]; exact hPc, va_K.moved hW.alike hK, hDc⟩⟩ rfl hlen hsize rfl (lv_room hW) hdg hf) hP1 hD1 hS hA (fun r u H1 locs1 hp h1 h2 h3 => ?_)
  rw [← List.append_assoc] at h1 h2
  exact kk r u H1 locs1 hp (h1.pre isB (hB u)) (h2.pre isB hnB (hB u)) h3
theorem gVv {post : σ → Prop} (S : CallFix p m c cc nL s args Ts own) (hM : MV l y wsc rm D cl tys (.ref b :: As) wc post F) (cw : CallW R s args own C index y bytes maxL ret wsc rm 0 0 n) (hK : va_K D cl tys s) (hP : va_P D cl (pre ++ tl) H) (hD : va_D A (pre ++ tl)) (hS : va_S A H0 H locs) (hA : ∀ q : Nat, H0.size ≤ q → A q)
    (isC isR isB : List Nat) (hC : (isC ++ isR).map (fun i => pre[i]?) = (wc ++ wr).map some) (hn : va_nd (isC ++ isR) = true) (hB : ∀ u, isB.map (fun i => (F u ++ wr)[i]?) = (G u).map some) (hnB : va_nd isB = true) (hre : wc[0]? = some (b, .inr (ci, fs))) (hcl : cl[ci]? = some qc) (hq : qc.1 = C) (hlen : As.length = n) (hsize : ls.size = nL) (hst : st0 = As.reverse ++ .ref b :: rst) (hW : (rst.map fun v => v.category).sum ≤ 8) (hdg : decode cc pc = .ok (.invokevirtual index, 3)) (hf : cells + 0 ≤ R.cells ∧ slots + 0 ≤ R.slots)
    (kk : ∀ (u : σ) (H1 : Heap) (locs1 : List Loc), post u → va_P D cl (G u ++ tl) H1 → va_D A (G u ++ tl) → va_S A H0 H1 locs1 → W p l e R s m args below meth c H1 locs1 cells slots Q (F0 m (pc + 3) ls rst)) : W p l e R s m args below meth c H locs cells slots Q (F0 m pc ls st0) := by
  have hP1 : va_P D cl (wc ++ (wr ++ tl)) H := by rw [← List.append_assoc]; exact hP.pre (isC ++ isR) hC
  have hD1 : va_D A (wc ++ (wr ++ tl)) := by rw [← List.append_assoc]; exact hD.pre (isC ++ isR) hn hC
  have hPc : va_P D cl wc H := hP1.mem (fun q h => List.mem_append_left _ h)
  have hDc : va_D (fun _ => True) wc := (hD1.preL).weaken (fun _ _ _ _ => trivial)
  subst hst
  subst hq
  refine x_goV (wc := wc) (wr := wr ++ tl) (va_runV (As := As) (rest := rst) S (hM H.size) cw ⟨x_blind, va_recv hK hPc hcl hre, fun U hU hW => ⟨rfl, by rw [hU], by rw [hU]; exact hPc, va_K.moved hW.alike hK, hDc⟩⟩ rfl hlen hsize rfl (lv_room hW) hdg hf) hP1 hD1 hS hA (fun u H1 locs1 hp h1 h2 h3 => ?_)
  rw [← List.append_assoc] at h1 h2
  exact kk u H1 locs1 hp (h1.pre isB (hB u)) (h2.pre isB hnB (hB u)) h3
/-- a static call -/
theorem gS {post : Int32 → σ → Prop} (S : CallFix p m c cc nL s args Ts own) (hM : MG l y wsc rm D cl tys As wc post F) (cw : CallB R s args own index y bytes maxL ret wsc rm 0 0 n ∧ (Cond.static y).before args s = true) (hK : va_K D cl tys s) (hP : va_P D cl (pre ++ tl) H) (hD : va_D A (pre ++ tl)) (hS : va_S A H0 H locs) (hA : ∀ q : Nat, H0.size ≤ q → A q)
    (isC isR isB : List Nat) (hC : (isC ++ isR).map (fun i => pre[i]?) = (wc ++ wr).map some) (hn : va_nd (isC ++ isR) = true) (hB : ∀ u, isB.map (fun i => (F u ++ wr)[i]?) = (G u).map some) (hnB : va_nd isB = true) (hlen : As.length = n) (hsize : ls.size = nL) (hst : st0 = As.reverse ++ rst) (hW : (rst.map fun v => v.category).sum ≤ 8) (hdg : decode cc pc = .ok (.invokestatic index, 3)) (hf : cells + 0 ≤ R.cells ∧ slots + 0 ≤ R.slots)
    (kk : ∀ (r : Int32) (u : σ) (H1 : Heap) (locs1 : List Loc), post r u → va_P D cl (G u ++ tl) H1 → va_D A (G u ++ tl) → va_S A H0 H1 locs1 → W p l e R s m args below meth c H1 locs1 cells slots Q (F0 m (pc + 3) ls (.int r :: rst))) : W p l e R s m args below meth c H locs cells slots Q (F0 m pc ls st0) := by
  have hP1 : va_P D cl (wc ++ (wr ++ tl)) H := by rw [← List.append_assoc]; exact hP.pre (isC ++ isR) hC
  have hD1 : va_D A (wc ++ (wr ++ tl)) := by rw [← List.append_assoc]; exact hD.pre (isC ++ isR) hn hC
  have hPc : va_P D cl wc H := hP1.mem (fun q h => List.mem_append_left _ h)
  have hDc : va_D (fun _ => True) wc := (hD1.preL).weaken (fun _ _ _ _ => trivial)
  subst hst
  refine x_goI (wc := wc) (wr := wr ++ tl) (va_runS (As := As) (rest := rst) S (hM H.size) cw ⟨x_blind, fun U hU hW => ⟨rfl, by rw [hU], by rw [hU]; exact hPc, va_K.moved hW.alike hK, hDc⟩⟩ rfl hlen hsize rfl (lv_room hW) hdg hf) hP1 hD1 hS hA (fun r u H1 locs1 hp h1 h2 h3 => ?_)
  rw [← List.append_assoc] at h1 h2
  exact kk r u H1 locs1 hp (h1.pre isB (hB u)) (h2.pre isB hnB (hB u)) h3
end CALLS
/-! words for calls, out of TB -/
theorem gdV {own C : String} {idx n : Nat} {y : MethodName} {b : ByteArray} {r : Option FieldType} (h1 : Cond.methodLink own idx y ∈ TB) (h2 : Cond.instanceMethod y ∈ TB) (h3 : Cond.selects C y y ∈ TB) (h4 : Cond.initialized C ∈ TB) (h5 : Cond.code y b n r ∈ TB) : GoodIn TB (wsV own idx C y (Cond.code y b n r :: TB)) := by
  have hm : ∀ w ∈ wsV own idx C y (Cond.code y b n r :: TB), w ∈ TB := by
    intro w hw
    unfold wsV at hw
    rcases List.mem_append.mp hw with h | h
    · simp only [List.mem_cons, List.not_mem_nil, or_false] at h
      rcases h with rfl | rfl | rfl | rfl <;> assumption
    · rcases List.mem_cons.mp h with rfl | h
      · exact h5
      · exact h
  exact fun w hw => ⟨hm w hw, TB_good (hm w hw)⟩
theorem gdS {own : String} {idx n : Nat} {y : MethodName} {b : ByteArray} {r : Option FieldType} (h1 : Cond.methodLink own idx y ∈ TB) (h2 : Cond.static y ∈ TB) (h4 : Cond.initialized y.cls ∈ TB) (h5 : Cond.code y b n r ∈ TB) : GoodIn TB (va_wsS own idx y (Cond.code y b n r :: TB)) := by
  have hm : ∀ w ∈ va_wsS own idx y (Cond.code y b n r :: TB), w ∈ TB := by
    intro w hw
    unfold va_wsS at hw
    rcases List.mem_append.mp hw with h | h
    · simp only [List.mem_cons, List.not_mem_nil, or_false] at h
      rcases h with rfl | rfl | rfl <;> assumption
    · rcases List.mem_cons.mp h with rfl | h
      · exact h5
      · exact h
  exact fun w hw => ⟨hm w hw, TB_good (hm w hw)⟩
