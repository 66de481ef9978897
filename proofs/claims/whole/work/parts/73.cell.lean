/-! the law's cell(script, j) -/
def E_X (b L : Nat) (xs : Nat → Int32) : (Nat → Prop) → State → Prop := fun A U => va_X b L xs U U.heap ∧ b < U.heap.size ∧ ¬ A b
theorem E_X_ok {b L : Nat} {xs : Nat → Int32} : E_ok (E_X b L xs) := by
  intro B u U hvm hh h
  obtain ⟨h1, h2, h3⟩ := h
  refine ⟨?_, by rw [hh]; exact h2, h3⟩
  rw [hh]
  exact h1.moved hvm
def xsAt (xs : Nat → Int32) (L j : Nat) : Int32 := if j < L then xs j else 0
abbrev rm_c_cell : Room := { frames := 0, cells := 0, slots := 0, locals := 0 }
set_option maxHeartbeats 1000000 in
theorem c_cell (l : Launch) (dC : Nat → ClassId) (dI : Nat → Nat → Nat) (cI cB cQ cJ : ClassId) {b L : Nat} {xs : Nat → Int32} (hL : L ≤ 2050) (j : Nat) (hj : j < 2050) : MGE l yL_cell (Cond.code yL_cell cL_cell 2 (some .int) :: TB) rm_c_cell (dC, dI) vwCl (TY cI cB cQ cJ) [.ref b, .int (nI j)] [] (E_X b L xs) (fun (r : Int32) (_ : Unit) => r = xsAt xs L j) (fun (_ : Unit) => []) 0 0 := by
  refine MGE.ofW (cc := cL_cell) (maxL := 2) (rt := .int) (by decide +kernel) rfl (Nat.le_of_ble_eq_true rfl) ?_
  intro p e s m args below meth c A ls Q H locs hQ hE hin hx hb hml hr hlk hts hown hK hP hD hS hA hl
  have hl : lv_has ls 2 [(0, .ref b), (1, .int (nI j))] := hl
  obtain ⟨hX, hbl, hbA⟩ := hE
  refine lv_iload_n hx hb dL_cell_0 rfl (lv_at hl 1 rfl) ?_
  refine lv_aload_n hx hb dL_cell_1 rfl (lv_at hl 0 rfl) ?_
  refine va_slen hx hb hX hbl hbA hS dL_cell_2 ?_
  refine x_cge (tgt := 12) hx hb dL_cell_3 (by decide) (by omega) (by omega) (fun h3 => ?_) (fun h3 => ?_)
  · refine lv_iconst (v := 0) hx hb dL_cell_12 (by decide) ?_
    exact x_iretE (D := (dC, dI)) (cl := vwCl) (A := A) () hQ hx hb hr hlk hP hD hS (Nat.le_refl _) (Nat.le_refl _) dL_cell_13 (by unfold xsAt; rw [if_neg (by omega)])
  · refine lv_aload_n hx hb dL_cell_6 rfl (lv_at hl 0 rfl) ?_
    refine lv_iload_n hx hb dL_cell_7 rfl (lv_at hl 1 rfl) ?_
    refine va_sld hx hb hX hbl hbA hS (nI_in (by omega) (by omega)) dL_cell_8 ?_
    rw [nI_clamp (by omega)]
    refine lv_goto (tgt := 13) hx hb dL_cell_9 (by decide) ?_
    exact x_iretE (D := (dC, dI)) (cl := vwCl) (A := A) () hQ hx hb hr hlk hP hD hS (Nat.le_refl _) (Nat.le_refl _) dL_cell_13 (by unfold xsAt; rw [if_pos (by omega)])
