/-! nearestSize: the static table -/
def szN (j : Nat) : Nat := match j with
  | 0 => 5
  | 1 => 7
  | 2 => 11
  | _ => 13
def E_sz : (Nat → Prop) → State → Prop := fun A U => ∃ t : Nat, va_Z "DriveRing" "SIZES" "[I" (.ref t) A U U.heap ∧ va_T .int t 4 (fun j => .int (nI (szN j))) A U U.heap
theorem E_sz_ok : E_ok E_sz := by
  intro B u U hvm hh h
  obtain ⟨t, h1, h2⟩ := h
  refine ⟨t, ?_, ?_⟩
  · rw [hh]; exact h1.moved hvm
  · rw [hh]; exact h2.moved hvm
theorem E_sz.call {A B : Nat → Prop} {s U : State} {H : Heap} {locs : List Loc} (h : E_sz A s) (hS : va_S A s.heap H locs) (hB : ∀ q, B q → A q) (hU : U.heap = H) (hvm : s.vm.Alike U.vm) : E_sz B U := by
  obtain ⟨t, h1, h2⟩ := h
  refine ⟨t, ?_, ?_⟩
  · rw [hU]; exact (va_Z.kept (va_Z.moved hvm h1) hS.2.1).narrow hB
  · rw [hU]; exact (va_T.kept (va_T.moved hvm h2) hS.2.1).narrow hB
theorem dr_sz_i {x : Int32} {i : Nat} (hi : i < 4) (h1 : ∀ j, j < i → nI (szN j) < x) (h2 : ¬ nI (szN i) < x) : dr_sz x = szN i := by
  have hc : i = 0 ∨ i = 1 ∨ i = 2 ∨ i = 3 := by omega
  rcases hc with rfl | rfl | rfl | rfl
  · exact dr_sz_5 h2
  · exact dr_sz_7 (h1 0 (by omega)) h2
  · exact dr_sz_11 (h1 0 (by omega)) (h1 1 (by omega)) h2
  · by_cases h3 : (11 : Int32) < x
    · exact dr_sz_13 (h1 0 (by omega)) (h1 1 (by omega)) h3
    · exact absurd (h1 2 (by omega)) h3
theorem dr_sz_4 {x : Int32} (h1 : ∀ j, j < 4 → nI (szN j) < x) : dr_sz x = 13 := dr_sz_13 (h1 0 (by omega)) (h1 1 (by omega)) (h1 2 (by omega))
abbrev rm_c_near : Room := { frames := 0, cells := 0, slots := 0, locals := 0 }
set_option maxHeartbeats 4000000 in
set_option maxRecDepth 100000 in
theorem c_near (l : Launch) (dC : Nat → ClassId) (dI : Nat → Nat → Nat) (cI cB cQ cJ : ClassId) (x : Int32) : MGE l yX3_nearestSize (Cond.code yX3_nearestSize cX3_nearestSize 2 (some .int) :: TB) rm_c_near (dC, dI) vwCl (TY cI cB cQ cJ) [.int x] [] E_sz (fun (r : Int32) (u : Unit) => r = nI (dr_sz x)) (fun (u : Unit) => []) 0 0 := by
  refine MGE.ofW (cc := cX3_nearestSize) (maxL := 2) (rt := .int) (by decide +kernel) rfl (Nat.le_of_ble_eq_true rfl) ?_
  intro p e s m args below meth c A ls Q H locs hQ hE hin hx hb hml hr hlk hts hown hK hP hD hS hA hl
  have hts : ∀ w ∈ TB, w.before args s = true := fun w h => hts w (List.mem_cons_of_mem _ h)
  have hown : s.vm.findClass RX3 = some m.cls := hown
  have hl : lv_has ls 2 [(0, .int x)] := hl
  obtain ⟨t, hZ, hT⟩ := hE
  refine lv_iconst (v := nI 0) hx hb dX3_nearestSize_0 (by decide) ?_
  refine lv_istore_n hx hb dX3_nearestSize_1 rfl hl (by decide) rfl (fun ls hl => ?_)
  have hl : lv_has ls 2 [(1, .int (nI 0)), (0, .int x)] := hl
  have lp2 : ∀ (n9 : Nat) (i : Nat) (ls : Array Slot), 4 - i < n9 → i ≤ 4 → (∀ j, j < i → nI (szN j) < x) → lv_has ls 2 [(1, .int (nI i)), (0, .int x)] → W p l e rm_c_near s m args below meth c H locs 0 0 Q (F0 m 2 ls []) := by
    intro n9
    induction n9 with
    | zero => intro i ls hn9; omega
    | succ n9 ih =>
      intro i ls hn9 hi hj hl
      refine lv_iload_n hx hb dX3_nearestSize_2 rfl (lv_at hl 0 rfl) ?_
      refine va_gets hx hb hZ hS hown (hts _ t_fX3_162) (fun _ h9 => h9) dX3_nearestSize_3 ?_
      refine va_tlen (v := nI 4) hx hb hT hS rfl dX3_nearestSize_6 ?_
      refine x_cge (tgt := 31) hx hb dX3_nearestSize_7 (by decide) (by omega) (by omega) (fun h7 => ?_) (fun h7 => ?_)
      · have hi4 : i = 4 := by omega
        subst hi4
        refine va_gets hx hb hZ hS hown (hts _ t_fX3_162) (fun _ h9 => h9) dX3_nearestSize_31 ?_
        refine va_gets hx hb hZ hS hown (hts _ t_fX3_162) (fun _ h9 => h9) dX3_nearestSize_34 ?_
        refine va_tlen (v := nI 4) hx hb hT hS rfl dX3_nearestSize_37 ?_
        refine lv_iconst (v := nI 1) hx hb dX3_nearestSize_38 (by decide) ?_
        refine x_sub hx hb dX3_nearestSize_39 (by omega) ?_
        refine va_ti (i := nI 3) (v := .int (nI 13)) hx hb hT hS (nI_in (by omega) (by omega)) (by rw [nI_clamp (by omega)]; rfl) dX3_nearestSize_40 ?_
        exact x_iretE (D := (dC, dI)) (cl := vwCl) (A := A) () hQ hx hb hr hlk hP hD hS (Nat.le_refl _) (Nat.le_refl _) dX3_nearestSize_41 (by rw [dr_sz_4 hj])
      · refine va_gets hx hb hZ hS hown (hts _ t_fX3_162) (fun _ h9 => h9) dX3_nearestSize_10 ?_
        refine lv_iload_n hx hb dX3_nearestSize_13 rfl (lv_at hl 0 rfl) ?_
        refine va_ti (i := nI i) (v := .int (nI (szN i))) hx hb hT hS (nI_in (by omega) (by omega)) (by rw [nI_clamp (by omega)]) dX3_nearestSize_14 ?_
        refine lv_iload_n hx hb dX3_nearestSize_15 rfl (lv_at hl 1 rfl) ?_
        refine lv_icmp_lt (tgt := 25) hx hb dX3_nearestSize_16 (by decide) (fun h16 => ?_) (fun h16 => ?_)
        · refine lv_iinc (v := nI (i + 1)) hx hb dX3_nearestSize_25 hl (k := 0) rfl (x_inc _) (by decide) rfl (fun ls hl => ?_)
          have hl : lv_has ls 2 [(1, .int (nI (i + 1))), (0, .int x)] := hl
          refine lv_goto (tgt := 2) hx hb dX3_nearestSize_28 (by decide) ?_
          exact ih (i + 1) ls (by omega) (by omega) (fun j hj1 => if hji : j = i then (by rw [hji]; exact h16) else hj j (by omega)) hl
        · refine va_gets hx hb hZ hS hown (hts _ t_fX3_162) (fun _ h9 => h9) dX3_nearestSize_19 ?_
          refine lv_iload_n hx hb dX3_nearestSize_22 rfl (lv_at hl 0 rfl) ?_
          refine va_ti (i := nI i) (v := .int (nI (szN i))) hx hb hT hS (nI_in (by omega) (by omega)) (by rw [nI_clamp (by omega)]) dX3_nearestSize_23 ?_
          exact x_iretE (D := (dC, dI)) (cl := vwCl) (A := A) () hQ hx hb hr hlk hP hD hS (Nat.le_refl _) (Nat.le_refl _) dX3_nearestSize_24 (by rw [dr_sz_i (by omega) hj h16])
  exact lp2 (4 + 1) 0 ls (by omega) (by omega) (fun j hj => absurd hj (by omega)) hl
