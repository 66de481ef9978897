abbrev rm_c_fm : Room := { frames := 0, cells := 0, slots := 0, locals := 0 }
set_option maxHeartbeats 4000000 in
set_option maxRecDepth 100000 in
theorem c_fm (l : Launch) (dC : Nat → ClassId) (dI : Nat → Nat → Nat) (cI cB cQ cJ : ClassId) (x : Int32) (y : Int32) (hy : ¬ y = 0) : MG l yJ9_floorMod (Cond.code yJ9_floorMod cJ9_floorMod 3 (some .int) :: TB) rm_c_fm (dC, dI) vwCl (TY cI cB cQ cJ) [.int x, .int y] [] (fun (r : Int32) (u : Unit) => r = dr_fm x y) (fun (u : Unit) => []) := by
  refine MG.ofWF (cc := cJ9_floorMod) (maxL := 3) (rt := .int) (by decide +kernel) rfl (Nat.le_of_ble_eq_true rfl) ?_
  intro p e s m args below meth c A ls Q H locs hQ hx hb hml hr hlk hts hown hK hP hD hS hA hl
  have hts : ∀ w ∈ TB, w.before args s = true := fun w h => hts w (List.mem_cons_of_mem _ h)
  have hown : s.vm.findClass RJ9 = some m.cls := hown
  have hl : lv_has ls 3 [(0, .int x), (1, .int y)] := hl
  have hP : va_P (dC, dI) vwCl [] H := hP
  have hD : va_D A [] := hD
  refine lv_iload_n hx hb dJ9_floorMod_0 rfl (lv_at hl 0 rfl) ?_
  refine lv_iload_n hx hb dJ9_floorMod_1 rfl (lv_at hl 1 rfl) ?_
  refine lv_irem hx hb dJ9_floorMod_2 hy ?_
  refine lv_istore_n hx hb dJ9_floorMod_3 rfl hl (by decide) rfl (fun ls hl => ?_)
  have hl : lv_has ls 3 [(2, .int (x - x / y * y)), (0, .int x), (1, .int y)] := hl
  refine lv_iload_n hx hb dJ9_floorMod_4 rfl (lv_at hl 1 rfl) ?_
  refine lv_iload_n hx hb dJ9_floorMod_5 rfl (lv_at hl 2 rfl) ?_
  refine lv_ixor hx hb dJ9_floorMod_6 ?_
  refine lv_if_ge (tgt := 18) hx hb dJ9_floorMod_7 (by decide) (fun h7 => ?_) (fun h7 => ?_)
  · -- 7t
    refine lv_iload_n hx hb dJ9_floorMod_18 rfl (lv_at hl 0 rfl) ?_
    exact x_iret (D := (dC, dI)) (cl := vwCl) (A := A) () hQ hx hb hr hlk hP hD hS dJ9_floorMod_19 (by unfold dr_fm; split <;> first | rfl | (rename_i z; first | exact absurd h7 (Int32.not_le.mpr z.1) | exact absurd h11 z.2 | exact absurd ⟨Int32.not_le.mp h7, h11⟩ z))
  · -- 7f
    refine lv_iload_n hx hb dJ9_floorMod_10 rfl (lv_at hl 0 rfl) ?_
    refine lv_if_eq (tgt := 18) hx hb dJ9_floorMod_11 (by decide) (fun h11 => ?_) (fun h11 => ?_)
    · -- 11t
      refine lv_iload_n hx hb dJ9_floorMod_18 rfl (lv_at hl 0 rfl) ?_
      exact x_iret (D := (dC, dI)) (cl := vwCl) (A := A) () hQ hx hb hr hlk hP hD hS dJ9_floorMod_19 (by unfold dr_fm; split <;> first | rfl | (rename_i z; first | exact absurd h7 (Int32.not_le.mpr z.1) | exact absurd h11 z.2 | exact absurd ⟨Int32.not_le.mp h7, h11⟩ z))
    · -- 11f
      refine lv_iload_n hx hb dJ9_floorMod_14 rfl (lv_at hl 0 rfl) ?_
      refine lv_iload_n hx hb dJ9_floorMod_15 rfl (lv_at hl 2 rfl) ?_
      refine lv_iadd hx hb dJ9_floorMod_16 ?_
      exact x_iret (D := (dC, dI)) (cl := vwCl) (A := A) () hQ hx hb hr hlk hP hD hS dJ9_floorMod_17 (by unfold dr_fm; split <;> first | rfl | (rename_i z; first | exact absurd h7 (Int32.not_le.mpr z.1) | exact absurd h11 z.2 | exact absurd ⟨Int32.not_le.mp h7, h11⟩ z))

abbrev rm_c_place : Room := { frames := 0, cells := 0, slots := 0, locals := 0 }
set_option maxHeartbeats 4000000 in
set_option maxRecDepth 100000 in
theorem c_place (l : Launch) (dC : Nat → ClassId) (dI : Nat → Nat → Nat) (cI cB cQ cJ : ClassId) (aS : Nat) (P : Nat) (d : Nat) (k : Nat)  : MG l yX0_place (Cond.code yX0_place cX0_place 3 (some .int) :: TB) rm_c_place (dC, dI) vwCl (TY cI cB cQ cJ) [.ref aS, .int (nI d), .int (nI k)] [(aS, .inr (0, [.int (nI P), .int (nI (P - 2)), .int (nI (P - 1)), .int (nI (P * (P - 2)))]))] (fun (r : Int32) (u : Unit) => r = nI (d * P + k)) (fun (u : Unit) => [(aS, .inr (0, [.int (nI P), .int (nI (P - 2)), .int (nI (P - 1)), .int (nI (P * (P - 2)))]))]) := by
  refine MG.ofW (cc := cX0_place) (maxL := 3) (rt := .int) (by decide +kernel) rfl (Nat.le_of_ble_eq_true rfl) ?_
  intro p e s m args below meth c A ls Q H locs hQ hx hb hml hr hlk hts hown hK hP hD hS hA hl
  have hts : ∀ w ∈ TB, w.before args s = true := fun w h => hts w (List.mem_cons_of_mem _ h)
  have hown : s.vm.findClass RX0 = some m.cls := hown
  have hl : lv_has ls 3 [(0, .ref aS), (1, .int (nI d)), (2, .int (nI k))] := hl
  have hP : va_P (dC, dI) vwCl [(aS, .inr (0, [.int (nI P), .int (nI (P - 2)), .int (nI (P - 1)), .int (nI (P * (P - 2)))]))] H := hP
  have hD : va_D A [(aS, .inr (0, [.int (nI P), .int (nI (P - 2)), .int (nI (P - 1)), .int (nI (P * (P - 2)))]))] := hD
  refine lv_iload_n hx hb dX0_place_0 rfl (lv_at hl 1 rfl) ?_
  refine lv_aload_n hx hb dX0_place_1 rfl (lv_at hl 0 rfl) ?_
  refine va_get (D := (dC, dI)) (ci := 0) (v := .int (nI P)) (C := RX0) (T := TX0) (N := 4) hx hb hts inX0 hown hK hP 0 rfl rfl 0 (by decide) (hts _ t_fX0_7) (fun _ h9 => h9) rfl dX0_place_2 ?_
  refine x_mul hx hb dX0_place_5 ?_
  refine lv_iload_n hx hb dX0_place_6 rfl (lv_at hl 2 rfl) ?_
  refine x_add hx hb dX0_place_7 ?_
  exact x_iret (D := (dC, dI)) (cl := vwCl) (A := A) () hQ hx hb hr hlk hP hD hS dX0_place_8 (by first | rfl | (simp []; done) | (simp []; omega))

abbrev rm_c_dob : Room := { frames := 0, cells := 0, slots := 0, locals := 0 }
set_option maxHeartbeats 4000000 in
set_option maxRecDepth 100000 in
theorem c_dob (l : Launch) (dC : Nat → ClassId) (dI : Nat → Nat → Nat) (cI cB cQ cJ : ClassId) (aS : Nat) (P : Nat) (b : Nat) (hp5 : dr_P P) (hbb : b < 2 ^ 31) : MG l yX0_driveOfBlock (Cond.code yX0_driveOfBlock cX0_driveOfBlock 2 (some .int) :: TB) rm_c_dob (dC, dI) vwCl (TY cI cB cQ cJ) [.ref aS, .int (nI b)] [(aS, .inr (0, [.int (nI P), .int (nI (P - 2)), .int (nI (P - 1)), .int (nI (P * (P - 2)))]))] (fun (r : Int32) (u : Unit) => r = nI (b % (P * (P - 2)) % P)) (fun (u : Unit) => [(aS, .inr (0, [.int (nI P), .int (nI (P - 2)), .int (nI (P - 1)), .int (nI (P * (P - 2)))]))]) := by
  refine MG.ofW (cc := cX0_driveOfBlock) (maxL := 2) (rt := .int) (by decide +kernel) rfl (Nat.le_of_ble_eq_true rfl) ?_
  intro p e s m args below meth c A ls Q H locs hQ hx hb hml hr hlk hts hown hK hP hD hS hA hl
  have hts : ∀ w ∈ TB, w.before args s = true := fun w h => hts w (List.mem_cons_of_mem _ h)
  have hown : s.vm.findClass RX0 = some m.cls := hown
  have hl : lv_has ls 2 [(0, .ref aS), (1, .int (nI b))] := hl
  have hP : va_P (dC, dI) vwCl [(aS, .inr (0, [.int (nI P), .int (nI (P - 2)), .int (nI (P - 1)), .int (nI (P * (P - 2)))]))] H := hP
  have hD : va_D A [(aS, .inr (0, [.int (nI P), .int (nI (P - 2)), .int (nI (P - 1)), .int (nI (P * (P - 2)))]))] := hD
  have hp := hp5.le
  have hpp := dr_PP hp5
  have hpq := dr_PP2 hp5
  have hbm := Nat.mod_le b (P * (P - 2))
  refine lv_iload_n hx hb dX0_driveOfBlock_0 rfl (lv_at hl 1 rfl) ?_
  refine lv_aload_n hx hb dX0_driveOfBlock_1 rfl (lv_at hl 0 rfl) ?_
  refine va_get (D := (dC, dI)) (ci := 0) (v := .int (nI (P * (P - 2)))) (C := RX0) (T := TX0) (N := 4) hx hb hts inX0 hown hK hP 0 rfl rfl 3 (by decide) (hts _ t_fX0_19) (fun _ h9 => h9) rfl dX0_driveOfBlock_2 ?_
  refine x_rem hx hb dX0_driveOfBlock_5 (by omega) (by omega) (by omega) ?_
  refine lv_aload_n hx hb dX0_driveOfBlock_6 rfl (lv_at hl 0 rfl) ?_
  refine va_get (D := (dC, dI)) (ci := 0) (v := .int (nI P)) (C := RX0) (T := TX0) (N := 4) hx hb hts inX0 hown hK hP 0 rfl rfl 0 (by decide) (hts _ t_fX0_7) (fun _ h9 => h9) rfl dX0_driveOfBlock_7 ?_
  refine x_rem hx hb dX0_driveOfBlock_10 (by omega) (by omega) (by omega) ?_
  exact x_iret (D := (dC, dI)) (cl := vwCl) (A := A) () hQ hx hb hr hlk hP hD hS dX0_driveOfBlock_11 (by first | rfl | (simp []; done) | (simp []; omega))

abbrev rm_c_wob : Room := { frames := 0, cells := 0, slots := 0, locals := 0 }
set_option maxHeartbeats 4000000 in
set_option maxRecDepth 100000 in
theorem c_wob (l : Launch) (dC : Nat → ClassId) (dI : Nat → Nat → Nat) (cI cB cQ cJ : ClassId) (aS : Nat) (P : Nat) (b : Nat) (hp5 : dr_P P) (hbb : b < 2 ^ 31) : MG l yX0_wordOfBlock (Cond.code yX0_wordOfBlock cX0_wordOfBlock 2 (some .int) :: TB) rm_c_wob (dC, dI) vwCl (TY cI cB cQ cJ) [.ref aS, .int (nI b)] [(aS, .inr (0, [.int (nI P), .int (nI (P - 2)), .int (nI (P - 1)), .int (nI (P * (P - 2)))]))] (fun (r : Int32) (u : Unit) => r = nI (b % (P * (P - 2)) / P)) (fun (u : Unit) => [(aS, .inr (0, [.int (nI P), .int (nI (P - 2)), .int (nI (P - 1)), .int (nI (P * (P - 2)))]))]) := by
  refine MG.ofW (cc := cX0_wordOfBlock) (maxL := 2) (rt := .int) (by decide +kernel) rfl (Nat.le_of_ble_eq_true rfl) ?_
  intro p e s m args below meth c A ls Q H locs hQ hx hb hml hr hlk hts hown hK hP hD hS hA hl
  have hts : ∀ w ∈ TB, w.before args s = true := fun w h => hts w (List.mem_cons_of_mem _ h)
  have hown : s.vm.findClass RX0 = some m.cls := hown
  have hl : lv_has ls 2 [(0, .ref aS), (1, .int (nI b))] := hl
  have hP : va_P (dC, dI) vwCl [(aS, .inr (0, [.int (nI P), .int (nI (P - 2)), .int (nI (P - 1)), .int (nI (P * (P - 2)))]))] H := hP
  have hD : va_D A [(aS, .inr (0, [.int (nI P), .int (nI (P - 2)), .int (nI (P - 1)), .int (nI (P * (P - 2)))]))] := hD
  have hp := hp5.le
  have hpp := dr_PP hp5
  have hpq := dr_PP2 hp5
  have hbm := Nat.mod_le b (P * (P - 2))
  refine lv_iload_n hx hb dX0_wordOfBlock_0 rfl (lv_at hl 1 rfl) ?_
  refine lv_aload_n hx hb dX0_wordOfBlock_1 rfl (lv_at hl 0 rfl) ?_
  refine va_get (D := (dC, dI)) (ci := 0) (v := .int (nI (P * (P - 2)))) (C := RX0) (T := TX0) (N := 4) hx hb hts inX0 hown hK hP 0 rfl rfl 3 (by decide) (hts _ t_fX0_19) (fun _ h9 => h9) rfl dX0_wordOfBlock_2 ?_
  refine x_rem hx hb dX0_wordOfBlock_5 (by omega) (by omega) (by omega) ?_
  refine lv_aload_n hx hb dX0_wordOfBlock_6 rfl (lv_at hl 0 rfl) ?_
  refine va_get (D := (dC, dI)) (ci := 0) (v := .int (nI P)) (C := RX0) (T := TX0) (N := 4) hx hb hts inX0 hown hK hP 0 rfl rfl 0 (by decide) (hts _ t_fX0_7) (fun _ h9 => h9) rfl dX0_wordOfBlock_7 ?_
  refine x_div hx hb dX0_wordOfBlock_10 (by omega) (by omega) (by omega) ?_
  exact x_iret (D := (dC, dI)) (cl := vwCl) (A := A) () hQ hx hb hr hlk hP hD hS dX0_wordOfBlock_11 (by first | rfl | (simp []; done) | (simp []; omega))

abbrev rm_c_step : Room := { frames := 0, cells := 0, slots := 0, locals := 0 }
set_option maxHeartbeats 4000000 in
set_option maxRecDepth 100000 in
theorem c_step (l : Launch) (dC : Nat → ClassId) (dI : Nat → Nat → Nat) (cI cB cQ cJ : ClassId) (aS : Nat) (P : Nat) (k : Nat) (row : Nat) (hp5 : dr_P P) (hrw : row < P) : MG l yX0_step (Cond.code yX0_step cX0_step 3 (some .int) :: TB) rm_c_step (dC, dI) vwCl (TY cI cB cQ cJ) [.ref aS, .int (nI k), .int (nI row)] [(aS, .inr (0, [.int (nI P), .int (nI (P - 2)), .int (nI (P - 1)), .int (nI (P * (P - 2)))]))] (fun (r : Int32) (u : Unit) => r = dr_step P k row) (fun (u : Unit) => [(aS, .inr (0, [.int (nI P), .int (nI (P - 2)), .int (nI (P - 1)), .int (nI (P * (P - 2)))]))]) := by
  refine MG.ofW (cc := cX0_step) (maxL := 3) (rt := .int) (by decide +kernel) rfl (Nat.le_of_ble_eq_true rfl) ?_
  intro p e s m args below meth c A ls Q H locs hQ hx hb hml hr hlk hts hown hK hP hD hS hA hl
  have hts : ∀ w ∈ TB, w.before args s = true := fun w h => hts w (List.mem_cons_of_mem _ h)
  have hown : s.vm.findClass RX0 = some m.cls := hown
  have hl : lv_has ls 3 [(0, .ref aS), (1, .int (nI k)), (2, .int (nI row))] := hl
  have hP : va_P (dC, dI) vwCl [(aS, .inr (0, [.int (nI P), .int (nI (P - 2)), .int (nI (P - 1)), .int (nI (P * (P - 2)))]))] H := hP
  have hD : va_D A [(aS, .inr (0, [.int (nI P), .int (nI (P - 2)), .int (nI (P - 1)), .int (nI (P * (P - 2)))]))] := hD
  have hp := hp5.le
  have hpp := dr_PP hp5
  have hpq := dr_PP2 hp5
  refine lv_iload_n hx hb dX0_step_0 rfl (lv_at hl 2 rfl) ?_
  refine lv_aload_n hx hb dX0_step_1 rfl (lv_at hl 0 rfl) ?_
  refine va_get (D := (dC, dI)) (ci := 0) (v := .int (nI (P - 2))) (C := RX0) (T := TX0) (N := 4) hx hb hts inX0 hown hK hP 0 rfl rfl 1 (by decide) (hts _ t_fX0_13) (fun _ h9 => h9) rfl dX0_step_2 ?_
  refine x_cne (tgt := 14) hx hb dX0_step_5 (by decide) (by omega) (by omega) (fun h5 => ?_) (fun h5 => ?_)
  · -- 5t
    refine lv_iload_n hx hb dX0_step_14 rfl (lv_at hl 1 rfl) ?_
    refine lv_ineg hx hb dX0_step_15 ?_
    refine lv_iconst (v := 2) hx hb dX0_step_16 (by decide) ?_
    refine lv_isub hx hb dX0_step_17 ?_
    exact x_iret (D := (dC, dI)) (cl := vwCl) (A := A) () hQ hx hb hr hlk hP hD hS dX0_step_18 (by first | rfl | (simp [dr_step, h5]; done) | (simp [dr_step, h5]; omega))
  · -- 5f
    refine lv_iload_n hx hb dX0_step_8 rfl (lv_at hl 1 rfl) ?_
    refine lv_iconst (v := nI 2) hx hb dX0_step_9 (by decide) ?_
    refine x_add hx hb dX0_step_10 ?_
    refine lv_goto (tgt := 18) hx hb dX0_step_11 (by decide) ?_
    exact x_iret (D := (dC, dI)) (cl := vwCl) (A := A) () hQ hx hb hr hlk hP hD hS dX0_step_18 (by first | rfl | (simp [dr_step, h5]; done) | (simp [dr_step, h5]; omega))

abbrev rm_c_dd : Room := { frames := 1, cells := 0, slots := 0, locals := 22 }
set_option maxHeartbeats 4000000 in
set_option maxRecDepth 100000 in
theorem c_dd (l : Launch) (dC : Nat → ClassId) (dI : Nat → Nat → Nat) (cI cB cQ cJ : ClassId) (aS : Nat) (P : Nat) (o : Nat) (k : Nat) (row : Nat) (hp5 : dr_P P) (ho : o < P) (hk : k < P - 2) (hrw : dr_row P row) : MG l yX0_dataDrive (Cond.code yX0_dataDrive cX0_dataDrive 4 (some .int) :: TB) rm_c_dd (dC, dI) vwCl (TY cI cB cQ cJ) [.ref aS, .int (nI o), .int (nI k), .int (nI row)] [(aS, .inr (0, [.int (nI P), .int (nI (P - 2)), .int (nI (P - 1)), .int (nI (P * (P - 2)))]))] (fun (r : Int32) (u : Unit) => r = nI (dr_dd P o k row)) (fun (u : Unit) => [(aS, .inr (0, [.int (nI P), .int (nI (P - 2)), .int (nI (P - 1)), .int (nI (P * (P - 2)))]))]) := by
  refine MG.ofW (cc := cX0_dataDrive) (maxL := 4) (rt := .int) (by decide +kernel) rfl (Nat.le_of_ble_eq_true rfl) ?_
  intro p e s m args below meth c A ls Q H locs hQ hx hb hml hr hlk hts hown hK hP hD hS hA hl
  have hts : ∀ w ∈ TB, w.before args s = true := fun w h => hts w (List.mem_cons_of_mem _ h)
  have hown : s.vm.findClass RX0 = some m.cls := hown
  have hl : lv_has ls 4 [(0, .ref aS), (1, .int (nI o)), (2, .int (nI k)), (3, .int (nI row))] := hl
  have hP : va_P (dC, dI) vwCl [(aS, .inr (0, [.int (nI P), .int (nI (P - 2)), .int (nI (P - 1)), .int (nI (P * (P - 2)))]))] H := hP
  have hD : va_D A [(aS, .inr (0, [.int (nI P), .int (nI (P - 2)), .int (nI (P - 1)), .int (nI (P * (P - 2)))]))] := hD
  have hp := hp5.le
  have hpp := dr_PP hp5
  have hpq := dr_PP2 hp5
  have hrl : row < P := by rcases hrw with rfl | rfl <;> omega
  refine lv_iload_n hx hb dX0_dataDrive_0 rfl (lv_at hl 1 rfl) ?_
  refine lv_aload_n hx hb dX0_dataDrive_1 rfl (lv_at hl 0 rfl) ?_
  refine lv_iload_n hx hb dX0_dataDrive_2 rfl (lv_at hl 2 rfl) ?_
  refine lv_iload_n hx hb dX0_dataDrive_3 rfl (lv_at hl 3 rfl) ?_
  refine gV (wr := []) (pre := [(aS, .inr (0, [.int (nI P), .int (nI (P - 2)), .int (nI (P - 1)), .int (nI (P * (P - 2)))]))]) (tl := []) (G := fun (u : Unit) => [(aS, .inr (0, [.int (nI P), .int (nI (P - 2)), .int (nI (P - 1)), .int (nI (P * (P - 2)))]))]) (b := aS) (As := [.int (nI k), .int (nI row)]) (rst := [.int (nI o)]) ⟨hx, hb, hml, hown, hts⟩ (c_step l dC dI cI cB cQ cJ aS P k row hp5 hrl) (cwV 2 hts (gdV t_mX0_22 t_inst_X0_step t_sel_X0_step t_ini_X0 t_code_X0_step) rfl rfl rfl (by decide +kernel) ⟨Nat.le_of_ble_eq_true rfl, Nat.le_of_ble_eq_true rfl⟩) hK hP hD hS hA [0] [] [0] rfl (by decide) (fun _ => rfl) (by decide) (ci := 0) rfl rfl rfl rfl hl.1 rfl (Nat.le_of_ble_eq_true rfl) dX0_dataDrive_4 ⟨Nat.zero_le _, Nat.zero_le _⟩ (fun r u H locs hu1 hP hD hS => ?_)
  have hr4 := hu1
  have hr4 : r = dr_step P k row := hr4
  subst hr4
  have hP : va_P (dC, dI) vwCl [(aS, .inr (0, [.int (nI P), .int (nI (P - 2)), .int (nI (P - 1)), .int (nI (P * (P - 2)))]))] H := hP
  have hD : va_D A [(aS, .inr (0, [.int (nI P), .int (nI (P - 2)), .int (nI (P - 1)), .int (nI (P * (P - 2)))]))] := hD
  refine lv_iadd hx hb dX0_dataDrive_7 ?_
  refine lv_aload_n hx hb dX0_dataDrive_8 rfl (lv_at hl 0 rfl) ?_
  refine va_get (D := (dC, dI)) (ci := 0) (v := .int (nI P)) (C := RX0) (T := TX0) (N := 4) hx hb hts inX0 hown hK hP 0 rfl rfl 0 (by decide) (hts _ t_fX0_7) (fun _ h9 => h9) rfl dX0_dataDrive_9 ?_
  refine gS (wr := [(aS, .inr (0, [.int (nI P), .int (nI (P - 2)), .int (nI (P - 1)), .int (nI (P * (P - 2)))]))]) (pre := [(aS, .inr (0, [.int (nI P), .int (nI (P - 2)), .int (nI (P - 1)), .int (nI (P * (P - 2)))]))]) (tl := []) (G := fun (u : Unit) => [(aS, .inr (0, [.int (nI P), .int (nI (P - 2)), .int (nI (P - 1)), .int (nI (P * (P - 2)))]))]) (As := [.int ((nI o) + (dr_step P k row)), .int (nI P)]) (rst := []) ⟨hx, hb, hml, hown, hts⟩ (c_fm l dC dI cI cB cQ cJ ((nI o) + (dr_step P k row)) (nI P) (nI_ne0 (by omega) (by omega))) (va_cwS 2 hts (gdS t_mX0_26 t_stat_J9_floorMod t_ini_J9 t_code_J9_floorMod) rfl rfl rfl (by decide +kernel) ⟨Nat.le_of_ble_eq_true rfl, Nat.le_of_ble_eq_true rfl⟩) hK hP hD hS hA [] [0] [0] rfl (by decide) (fun _ => rfl) (by decide) rfl hl.1 rfl (Nat.le_of_ble_eq_true rfl) dX0_dataDrive_12 ⟨Nat.zero_le _, Nat.zero_le _⟩ (fun r u H locs hu2 hP hD hS => ?_)
  have hr12 := hu2
  have hr12 : r = dr_fm ((nI o) + (dr_step P k row)) (nI P) := hr12
  subst hr12
  have hP : va_P (dC, dI) vwCl [(aS, .inr (0, [.int (nI P), .int (nI (P - 2)), .int (nI (P - 1)), .int (nI (P * (P - 2)))]))] H := hP
  have hD : va_D A [(aS, .inr (0, [.int (nI P), .int (nI (P - 2)), .int (nI (P - 1)), .int (nI (P * (P - 2)))]))] := hD
  refine x_top (show dr_fm ((nI o) + (dr_step P k row)) (nI P) = nI (dr_dd P o k row) from (dr_fm_at hp5 ho (by omega) hrw).1) ?_
  exact x_iret (D := (dC, dI)) (cl := vwCl) (A := A) () hQ hx hb hr hlk hP hD hS dX0_dataDrive_15 (by first | rfl | (simp []; done) | (simp []; omega))

abbrev rm_c_pd : Room := { frames := 1, cells := 0, slots := 0, locals := 22 }
set_option maxHeartbeats 4000000 in
set_option maxRecDepth 100000 in
theorem c_pd (l : Launch) (dC : Nat → ClassId) (dI : Nat → Nat → Nat) (cI cB cQ cJ : ClassId) (aS : Nat) (P : Nat) (o : Nat) (k : Nat) (row : Nat) (hp5 : dr_P P) (ho : o < P) (hk : k < P - 2) (hrw : dr_row P row) : MG l yX0_parityDrive (Cond.code yX0_parityDrive cX0_parityDrive 4 (some .int) :: TB) rm_c_pd (dC, dI) vwCl (TY cI cB cQ cJ) [.ref aS, .int (nI o), .int (nI k), .int (nI row)] [(aS, .inr (0, [.int (nI P), .int (nI (P - 2)), .int (nI (P - 1)), .int (nI (P * (P - 2)))]))] (fun (r : Int32) (u : Unit) => r = nI (dr_pd P o k row)) (fun (u : Unit) => [(aS, .inr (0, [.int (nI P), .int (nI (P - 2)), .int (nI (P - 1)), .int (nI (P * (P - 2)))]))]) := by
  refine MG.ofW (cc := cX0_parityDrive) (maxL := 4) (rt := .int) (by decide +kernel) rfl (Nat.le_of_ble_eq_true rfl) ?_
  intro p e s m args below meth c A ls Q H locs hQ hx hb hml hr hlk hts hown hK hP hD hS hA hl
  have hts : ∀ w ∈ TB, w.before args s = true := fun w h => hts w (List.mem_cons_of_mem _ h)
  have hown : s.vm.findClass RX0 = some m.cls := hown
  have hl : lv_has ls 4 [(0, .ref aS), (1, .int (nI o)), (2, .int (nI k)), (3, .int (nI row))] := hl
  have hP : va_P (dC, dI) vwCl [(aS, .inr (0, [.int (nI P), .int (nI (P - 2)), .int (nI (P - 1)), .int (nI (P * (P - 2)))]))] H := hP
  have hD : va_D A [(aS, .inr (0, [.int (nI P), .int (nI (P - 2)), .int (nI (P - 1)), .int (nI (P * (P - 2)))]))] := hD
  have hp := hp5.le
  have hpp := dr_PP hp5
  have hpq := dr_PP2 hp5
  have hrl : row < P := by rcases hrw with rfl | rfl <;> omega
  refine lv_iload_n hx hb dX0_parityDrive_0 rfl (lv_at hl 1 rfl) ?_
  refine lv_aload_n hx hb dX0_parityDrive_1 rfl (lv_at hl 0 rfl) ?_
  refine lv_iload_n hx hb dX0_parityDrive_2 rfl (lv_at hl 2 rfl) ?_
  refine lv_iload_n hx hb dX0_parityDrive_3 rfl (lv_at hl 3 rfl) ?_
  refine gV (wr := []) (pre := [(aS, .inr (0, [.int (nI P), .int (nI (P - 2)), .int (nI (P - 1)), .int (nI (P * (P - 2)))]))]) (tl := []) (G := fun (u : Unit) => [(aS, .inr (0, [.int (nI P), .int (nI (P - 2)), .int (nI (P - 1)), .int (nI (P * (P - 2)))]))]) (b := aS) (As := [.int (nI k), .int (nI row)]) (rst := [.int (nI o)]) ⟨hx, hb, hml, hown, hts⟩ (c_step l dC dI cI cB cQ cJ aS P k row hp5 hrl) (cwV 2 hts (gdV t_mX0_22 t_inst_X0_step t_sel_X0_step t_ini_X0 t_code_X0_step) rfl rfl rfl (by decide +kernel) ⟨Nat.le_of_ble_eq_true rfl, Nat.le_of_ble_eq_true rfl⟩) hK hP hD hS hA [0] [] [0] rfl (by decide) (fun _ => rfl) (by decide) (ci := 0) rfl rfl rfl rfl hl.1 rfl (Nat.le_of_ble_eq_true rfl) dX0_parityDrive_4 ⟨Nat.zero_le _, Nat.zero_le _⟩ (fun r u H locs hu1 hP hD hS => ?_)
  have hr4 := hu1
  have hr4 : r = dr_step P k row := hr4
  subst hr4
  have hP : va_P (dC, dI) vwCl [(aS, .inr (0, [.int (nI P), .int (nI (P - 2)), .int (nI (P - 1)), .int (nI (P * (P - 2)))]))] H := hP
  have hD : va_D A [(aS, .inr (0, [.int (nI P), .int (nI (P - 2)), .int (nI (P - 1)), .int (nI (P * (P - 2)))]))] := hD
  refine lv_isub hx hb dX0_parityDrive_7 ?_
  refine lv_aload_n hx hb dX0_parityDrive_8 rfl (lv_at hl 0 rfl) ?_
  refine va_get (D := (dC, dI)) (ci := 0) (v := .int (nI P)) (C := RX0) (T := TX0) (N := 4) hx hb hts inX0 hown hK hP 0 rfl rfl 0 (by decide) (hts _ t_fX0_7) (fun _ h9 => h9) rfl dX0_parityDrive_9 ?_
  refine gS (wr := [(aS, .inr (0, [.int (nI P), .int (nI (P - 2)), .int (nI (P - 1)), .int (nI (P * (P - 2)))]))]) (pre := [(aS, .inr (0, [.int (nI P), .int (nI (P - 2)), .int (nI (P - 1)), .int (nI (P * (P - 2)))]))]) (tl := []) (G := fun (u : Unit) => [(aS, .inr (0, [.int (nI P), .int (nI (P - 2)), .int (nI (P - 1)), .int (nI (P * (P - 2)))]))]) (As := [.int ((nI o) - (dr_step P k row)), .int (nI P)]) (rst := []) ⟨hx, hb, hml, hown, hts⟩ (c_fm l dC dI cI cB cQ cJ ((nI o) - (dr_step P k row)) (nI P) (nI_ne0 (by omega) (by omega))) (va_cwS 2 hts (gdS t_mX0_26 t_stat_J9_floorMod t_ini_J9 t_code_J9_floorMod) rfl rfl rfl (by decide +kernel) ⟨Nat.le_of_ble_eq_true rfl, Nat.le_of_ble_eq_true rfl⟩) hK hP hD hS hA [] [0] [0] rfl (by decide) (fun _ => rfl) (by decide) rfl hl.1 rfl (Nat.le_of_ble_eq_true rfl) dX0_parityDrive_12 ⟨Nat.zero_le _, Nat.zero_le _⟩ (fun r u H locs hu2 hP hD hS => ?_)
  have hr12 := hu2
  have hr12 : r = dr_fm ((nI o) - (dr_step P k row)) (nI P) := hr12
  subst hr12
  have hP : va_P (dC, dI) vwCl [(aS, .inr (0, [.int (nI P), .int (nI (P - 2)), .int (nI (P - 1)), .int (nI (P * (P - 2)))]))] H := hP
  have hD : va_D A [(aS, .inr (0, [.int (nI P), .int (nI (P - 2)), .int (nI (P - 1)), .int (nI (P * (P - 2)))]))] := hD
  refine x_top (show dr_fm ((nI o) - (dr_step P k row)) (nI P) = nI (dr_pd P o k row) from (dr_fm_at hp5 ho (by omega) hrw).2) ?_
  exact x_iret (D := (dC, dI)) (cl := vwCl) (A := A) () hQ hx hb hr hlk hP hD hS dX0_parityDrive_15 (by first | rfl | (simp []; done) | (simp []; omega))
