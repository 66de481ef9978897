/-! what the law's entry gives -/
theorem arr_start {s : State} {args : Array Value} {ty : FieldType} (h : (Cond.arrayClass ty).before args s = true) : ∃ cA : ClassId, ArrOfT s cA ty ∧ s.vm.findClass ("[" ++ ty.toString) = some cA := by
  obtain ⟨c, k, comp, h1, h2, h3⟩ := Cond.arrayClass_spec h
  exact ⟨c, fun n z => ⟨fun k h => (by cases h), k, h2, comp, h3⟩, h1⟩
theorem K_start {s : State} {args : Array Value} (hts : ∀ w ∈ TB, w.before args s = true) (hAO : va_AO "DriveRing$Stripe" s) : ∃ (dC : Nat → ClassId) (dI : Nat → Nat → Nat) (cI cB cQ cJ : ClassId), va_K (dC, dI) vwCl (TY cI cB cQ cJ) s := by
  obtain ⟨c0, i0, k0⟩ := u_known hts inX0 (hts _ t_new_X0)
  obtain ⟨c1, i1, k1⟩ := u_known hts inX1 (hts _ t_new_X1)
  obtain ⟨c2, i2, k2⟩ := u_known hts inX2 (hts _ t_new_X2)
  obtain ⟨c3, i3, k3⟩ := u_known hts inX3 (hts _ t_new_X3)
  obtain ⟨c4, i4, k4⟩ := u_known hts inX4 (hts _ t_new_X4)
  obtain ⟨cI, a1, a2⟩ := arr_start (hts _ t_arr_int)
  obtain ⟨cB, b1, b2⟩ := arr_start (hts _ t_arr_boolean)
  obtain ⟨cJ, j1, j2⟩ := arr_start (hts _ t_arr_long)
  obtain ⟨comp, cQ, kQ, q1, q2, q3, q4, q5⟩ := Cond.arrayOver_spec hAO
  refine ⟨fun j => match j with | 0 => c0 | 1 => c1 | 2 => c2 | 3 => c3 | _ => c4, fun j => match j with | 0 => i0 | 1 => i1 | 2 => i2 | 3 => i3 | _ => i4, cI, cB, cQ, cJ, fun c q hq => ?_, fun k q hq => ?_⟩
  · match c, hq with
    | 0, hq => cases hq; exact k0
    | 1, hq => cases hq; exact k1
    | 2, hq => cases hq; exact k2
    | 3, hq => cases hq; exact k3
    | 4, hq => cases hq; exact k4
    | n + 5, hq => simp at hq
  · match k, hq with
    | 0, hq => cases hq; exact ⟨a1, a2⟩
    | 1, hq => cases hq; exact ⟨b1, b2⟩
    | 2, hq => cases hq; exact ⟨fun n z => ⟨fun k h => (by cases h), kQ, q3, comp, q4⟩, kQ, comp, q3, q4, q1, q5⟩
    | 3, hq => cases hq; exact ⟨j1, j2⟩
    | n + 4, hq => simp at hq
abbrev tSZ : Term := .static "DriveRing" "SIZES" "[I"
theorem E_sz_start {s : State} {args : Array Value} {A : Nat → Prop} (hts0 : ∀ w ∈ lw_tbl, w.before args s = true) (hgv : (Jvm.Cond.and given_1 narrow_1).before args s = true) (hA : ∀ a : Nat, a < s.heap.size → ¬ A a) : E_sz A s := by
  have hs := flat_of_before _ hgv
  have harr : (Cond.arrayOf tSZ .int).before args s = true := hs _ (by decide +kernel)
  have hlen : (Cond.eq (.length tSZ) (.int 4)).before args s = true := hs _ (by decide +kernel)
  have e0 : (Cond.eq (.elem tSZ (.int 0)) (.int 5)).before args s = true := hs _ (by decide +kernel)
  have e1 : (Cond.eq (.elem tSZ (.int 1)) (.int 7)).before args s = true := hs _ (by decide +kernel)
  have e2 : (Cond.eq (.elem tSZ (.int 2)) (.int 11)).before args s = true := hs _ (by decide +kernel)
  have e3 : (Cond.eq (.elem tSZ (.int 3)) (.int 13)).before args s = true := hs _ (by decide +kernel)
  obtain ⟨t, ht, hT⟩ := va_Tof (tm := tSZ) (ty := .int) (N := 4) (f := fun j => .int (nI (szN j))) (A := A) (by decide) harr (va_eqt hlen) (fun j hj => by
    have hc : j = 0 ∨ j = 1 ∨ j = 2 ∨ j = 3 := by omega
    rcases hc with rfl | rfl | rfl | rfl
    · exact va_eqt e0
    · exact va_eqt e1
    · exact va_eqt e2
    · exact va_eqt e3) hA
  exact ⟨t, va_Zref (hts0 _ (List.mem_of_getElem? (i := 60) (by decide +kernel))) (hts0 _ (List.mem_of_getElem? (i := 35) (by decide +kernel))) ht hA, hT⟩
theorem AO_start {s : State} {args : Array Value} (hts0 : ∀ w ∈ lw_tbl, w.before args s = true) : va_AO "DriveRing$Stripe" s := va_AO.of (hts0 _ (List.mem_of_getElem? (i := 95) (by decide +kernel)))
theorem stZ_start {s : State} {args : Array Value} {A : Nat → Prop} {n d : String} (hl : (Cond.laysStatic Bundle.tN n d).before args s = true) (hini : (Cond.initialized Bundle.tN).before args s = true) (hr : (Cond.isRef (.static Bundle.tN n d)).before args s = true) (hA : ∀ a : Nat, a < s.heap.size → ¬ A a) : stZ n d A s := by
  have hv : ∃ v, (Term.static Bundle.tN n d).eval args s none [] s = some v ∧ v.isRef = true := by
    simp only [Cond.before, Cond.holds, Cond.value] at hr
    cases hq : (Term.static Bundle.tN n d).eval args s none [] s with
    | none => rw [hq] at hr; simp at hr
    | some v => rw [hq] at hr; refine ⟨v, rfl, ?_⟩; cases v <;> simp_all [Value.isRef]
  obtain ⟨v, h1, h2⟩ := hv
  exact ⟨hl, v, h2, va_Zof hl hini h1 hA⟩
set_option maxRecDepth 100000 in
theorem thT_in : (thT.all (fun w => decide (w ∈ tables_1))) = true := by decide +kernel
set_option maxRecDepth 100000 in
theorem thR_in : (thR.all (fun w => decide (w ∈ tables_1))) = true := by decide +kernel
theorem E_th_start {s : State} {args : Array Value} {A : Nat → Prop} (hts0 : ∀ w ∈ lw_tbl, w.before args s = true) (hgv : (Jvm.Cond.and given_1 narrow_1).before args s = true) (hA : ∀ a : Nat, a < s.heap.size → ¬ A a) : E_th A s := by
  have hs := flat_of_before _ hgv
  have hti : ∀ w ∈ tables_1, w.before args s = true := fun w hw => hts0 w (List.mem_append_right _ hw)
  refine ⟨stZ_start (hti _ (List.mem_of_getElem? (i := 352) (by decide +kernel))) (hti _ (List.mem_of_getElem? (i := 7) (by decide +kernel))) (hs _ (by decide +kernel)) hA, stZ_start (hti _ (List.mem_of_getElem? (i := 354) (by decide +kernel))) (hti _ (List.mem_of_getElem? (i := 7) (by decide +kernel))) (hs _ (by decide +kernel)) hA, fun w hw => ?_, fun w hw => ?_, ?_⟩
  · exact Cond.tabsOnly_warm (T := s) (State.WarmedH.refl s) w (thT_tabs w hw) (hti w (of_decide_eq_true (List.all_eq_true.mp thT_in w hw)))
  · have h9 := hti w (of_decide_eq_true (List.all_eq_true.mp thR_in w hw))
    simp only [thR, List.mem_cons, List.not_mem_nil, or_false] at hw
    rcases hw with rfl | rfl | rfl <;> exact thR_warm (State.WarmedH.refl s) h9
  · exact Cond.notCastable_moved (T := s) (Vm.Alike.refl s.vm) (hs (Cond.not (.castable xIS xNS)) (by decide +kernel))
