abbrev rm_c_md : Room := { frames := 0, cells := 0, slots := 0, locals := 0 }
set_option maxHeartbeats 4000000 in
set_option maxRecDepth 100000 in
theorem c_md (l : Launch) (dC : Nat → ClassId) (dI : Nat → Nat → Nat) (cI cB cQ cJ : ClassId) (aT : Nat) (aS : Nat) (aW : Nat) (aM : Nat) (P : Nat) (w : Nat → Int32) (ms : Nat → Bool) (mk : Bool) (hp5 : dr_P P) : MG l yX1_missingDrives (Cond.code yX1_missingDrives cX1_missingDrives 3 (some .int) :: TB) rm_c_md (dC, dI) vwCl (TY cI cB cQ cJ) [.ref aT] [(aT, .inr (1, [.ref aS, .ref aW, .ref aM, .int (bI mk)])), (aW, .inl (cI, P * P, .inl w)), (aM, .inl (cB, P, .inl (fun z9 => bI (ms z9)))), (aS, .inr (0, [.int (nI P), .int (nI (P - 2)), .int (nI (P - 1)), .int (nI (P * (P - 2)))]))] (fun (r : Int32) (u : Unit) => r = nI (dr_cnt ms P)) (fun (u : Unit) => [(aT, .inr (1, [.ref aS, .ref aW, .ref aM, .int (bI mk)])), (aW, .inl (cI, P * P, .inl w)), (aM, .inl (cB, P, .inl (fun z9 => bI (ms z9)))), (aS, .inr (0, [.int (nI P), .int (nI (P - 2)), .int (nI (P - 1)), .int (nI (P * (P - 2)))]))]) := by
  refine MG.ofW (cc := cX1_missingDrives) (maxL := 3) (rt := .int) (by decide +kernel) rfl (Nat.le_of_ble_eq_true rfl) ?_
  intro p e s m args below meth c A ls Q H locs hQ hx hb hml hr hlk hts hown hK hP hD hS hA hl
  have hts : ∀ w ∈ TB, w.before args s = true := fun w h => hts w (List.mem_cons_of_mem _ h)
  have hown : s.vm.findClass RX1 = some m.cls := hown
  have hl : lv_has ls 3 [(0, .ref aT)] := hl
  have hP : va_P (dC, dI) vwCl [(aT, .inr (1, [.ref aS, .ref aW, .ref aM, .int (bI mk)])), (aW, .inl (cI, P * P, .inl w)), (aM, .inl (cB, P, .inl (fun z9 => bI (ms z9)))), (aS, .inr (0, [.int (nI P), .int (nI (P - 2)), .int (nI (P - 1)), .int (nI (P * (P - 2)))]))] H := hP
  have hD : va_D A [(aT, .inr (1, [.ref aS, .ref aW, .ref aM, .int (bI mk)])), (aW, .inl (cI, P * P, .inl w)), (aM, .inl (cB, P, .inl (fun z9 => bI (ms z9)))), (aS, .inr (0, [.int (nI P), .int (nI (P - 2)), .int (nI (P - 1)), .int (nI (P * (P - 2)))]))] := hD
  have hp := hp5.le
  have hpp := dr_PP hp5
  have hpq := dr_PP2 hp5
  refine lv_iconst (v := nI 0) hx hb dX1_missingDrives_0 (by decide) ?_
  refine lv_istore_n hx hb dX1_missingDrives_1 rfl hl (by decide) rfl (fun ls hl => ?_)
  have hl : lv_has ls 3 [(1, .int (nI 0)), (0, .ref aT)] := hl
  refine lv_iconst (v := nI 0) hx hb dX1_missingDrives_2 (by decide) ?_
  refine lv_istore_n hx hb dX1_missingDrives_3 rfl hl (by decide) rfl (fun ls hl => ?_)
  have hl : lv_has ls 3 [(2, .int (nI 0)), (1, .int (nI 0)), (0, .ref aT)] := hl
  have lp4 : ∀ (n9 : Nat) (i : Nat) (ls : Array Slot) (H : Heap) (locs : List Loc), P - i < n9 → (i ≤ P) → lv_has ls 3 [(2, .int (nI i)), (1, .int (nI (dr_cnt ms i))), (0, .ref aT)] → va_P (dC, dI) vwCl [(aT, .inr (1, [.ref aS, .ref aW, .ref aM, .int (bI mk)])), (aW, .inl (cI, P * P, .inl w)), (aM, .inl (cB, P, .inl (fun z9 => bI (ms z9)))), (aS, .inr (0, [.int (nI P), .int (nI (P - 2)), .int (nI (P - 1)), .int (nI (P * (P - 2)))]))] H → va_D A [(aT, .inr (1, [.ref aS, .ref aW, .ref aM, .int (bI mk)])), (aW, .inl (cI, P * P, .inl w)), (aM, .inl (cB, P, .inl (fun z9 => bI (ms z9)))), (aS, .inr (0, [.int (nI P), .int (nI (P - 2)), .int (nI (P - 1)), .int (nI (P * (P - 2)))]))] → va_S A s.heap H locs → W p l e rm_c_md s m args below meth c H locs 0 0 Q (F0 m 4 ls []) := by
    intro n9
    induction n9 with
    | zero => intro i ls H locs hn9; omega
    | succ n9 ih4 =>
      intro i ls H locs hn9 hi hl hP hD hS
      refine lv_iload_n hx hb dX1_missingDrives_4 rfl (lv_at hl 0 rfl) ?_
      refine lv_aload_n hx hb dX1_missingDrives_5 rfl (lv_at hl 2 rfl) ?_
      refine va_get (D := (dC, dI)) (ci := 1) (v := .ref aS) (C := RX1) (T := TX1) (N := 4) hx hb hts inX1 hown hK hP 0 rfl rfl 0 (by decide) (hts _ t_fX1_9) (fun _ h9 => h9) rfl dX1_missingDrives_6 ?_
      refine va_get (D := (dC, dI)) (ci := 0) (v := .int (nI P)) (C := RX0) (T := TX0) (N := 4) hx hb hts inX0 hown hK hP 3 rfl rfl 0 (by decide) (hts _ t_fX1_15) (fun _ h9 => h9) rfl dX1_missingDrives_9 ?_
      refine x_cge (tgt := 33) hx hb dX1_missingDrives_12 (by decide) (by omega) (by omega) (fun h12 => ?_) (fun h12 => ?_)
      · -- 12t
        have hie12 : i = P := by omega
        try rw [hie12] at hl
        try rw [hie12] at hP
        try rw [hie12] at hD
        have hl : lv_has ls 3 [(2, .int (nI P)), (1, .int (nI (dr_cnt ms P))), (0, .ref aT)] := hl
        have hP : va_P (dC, dI) vwCl [(aT, .inr (1, [.ref aS, .ref aW, .ref aM, .int (bI mk)])), (aW, .inl (cI, P * P, .inl w)), (aM, .inl (cB, P, .inl (fun z9 => bI (ms z9)))), (aS, .inr (0, [.int (nI P), .int (nI (P - 2)), .int (nI (P - 1)), .int (nI (P * (P - 2)))]))] H := hP
        have hD : va_D A [(aT, .inr (1, [.ref aS, .ref aW, .ref aM, .int (bI mk)])), (aW, .inl (cI, P * P, .inl w)), (aM, .inl (cB, P, .inl (fun z9 => bI (ms z9)))), (aS, .inr (0, [.int (nI P), .int (nI (P - 2)), .int (nI (P - 1)), .int (nI (P * (P - 2)))]))] := hD
        refine lv_iload_n hx hb dX1_missingDrives_33 rfl (lv_at hl 1 rfl) ?_
        exact x_iret (D := (dC, dI)) (cl := vwCl) (A := A) () hQ hx hb hr hlk hP hD hS dX1_missingDrives_34 (by first | rfl | (simp [h12]; done) | (simp [h12]; omega))
      · -- 12f
        refine lv_aload_n hx hb dX1_missingDrives_15 rfl (lv_at hl 2 rfl) ?_
        refine va_get (D := (dC, dI)) (ci := 1) (v := .ref aM) (C := RX1) (T := TX1) (N := 4) hx hb hts inX1 hown hK hP 0 rfl rfl 2 (by decide) (hts _ t_fX1_25) (fun _ h9 => h9) rfl dX1_missingDrives_16 ?_
        refine lv_iload_n hx hb dX1_missingDrives_19 rfl (lv_at hl 0 rfl) ?_
        refine x_zald (g := ms) hx hb hK hP 2 1 rfl rfl dX1_missingDrives_20 (by omega) (by omega) ?_
        refine x_ifF (tgt := 27) hx hb dX1_missingDrives_21 (by decide) (fun h21 => ?_) (fun h21 => ?_)
        · -- 21t
          refine lv_iinc (v := nI (i + 1)) hx hb dX1_missingDrives_27 hl (k := 0) rfl (x_inc _) (by decide) rfl (fun ls hl => ?_)
          have hl : lv_has ls 3 [(2, .int (nI (i + 1))), (1, .int (nI (dr_cnt ms i))), (0, .ref aT)] := hl
          refine lv_goto (tgt := 4) hx hb dX1_missingDrives_30 (by decide) ?_
          have e1 : (dr_cnt ms (i + 1)) = (dr_cnt ms i) := by first | rfl | (simp [dr_cnt, h12, h21]; done) | (simp [dr_cnt, h12, h21]; omega)
          exact ih4 (i + 1) ls H locs (by omega) (by omega) (by rw [e1]; exact lv_sub hl [0, 1, 2] rfl) hP hD hS
        · -- 21f
          refine lv_iinc (v := nI (dr_cnt ms i + 1)) hx hb dX1_missingDrives_24 hl (k := 1) rfl (x_inc _) (by decide) rfl (fun ls hl => ?_)
          have hl : lv_has ls 3 [(1, .int (nI (dr_cnt ms i + 1))), (2, .int (nI i)), (0, .ref aT)] := hl
          refine lv_iinc (v := nI (i + 1)) hx hb dX1_missingDrives_27 hl (k := 1) rfl (x_inc _) (by decide) rfl (fun ls hl => ?_)
          have hl : lv_has ls 3 [(2, .int (nI (i + 1))), (1, .int (nI (dr_cnt ms i + 1))), (0, .ref aT)] := hl
          refine lv_goto (tgt := 4) hx hb dX1_missingDrives_30 (by decide) ?_
          have e2 : (dr_cnt ms (i + 1)) = (dr_cnt ms i + 1) := by first | rfl | (simp [dr_cnt, h12, h21]; done) | (simp [dr_cnt, h12, h21]; omega)
          exact ih4 (i + 1) ls H locs (by omega) (by omega) (by rw [e2]; exact lv_sub hl [0, 1, 2] rfl) hP hD hS
  have e3 : (dr_cnt ms 0) = 0 := by first | rfl | (simp [dr_cnt]; done) | (simp [dr_cnt]; omega)
  exact lp4 (P - 0 + 1) 0 ls H locs (by omega) (by omega) (by rw [e3]; exact lv_sub hl [0, 1, 2] rfl) hP hD hS

abbrev rm_c_unsure : Room := { frames := 1, cells := 0, slots := 0, locals := 22 }
set_option maxHeartbeats 4000000 in
set_option maxRecDepth 100000 in
theorem c_unsure (l : Launch) (dC : Nat → ClassId) (dI : Nat → Nat → Nat) (cI cB cQ cJ : ClassId) (aT : Nat) (aS : Nat) (aW : Nat) (aM : Nat) (P : Nat) (w : Nat → Int32) (ms : Nat → Bool) (mk : Bool) (hp5 : dr_P P) : MG l yX1_isUnsure (Cond.code yX1_isUnsure cX1_isUnsure 1 (some .boolean) :: TB) rm_c_unsure (dC, dI) vwCl (TY cI cB cQ cJ) [.ref aT] [(aT, .inr (1, [.ref aS, .ref aW, .ref aM, .int (bI mk)])), (aW, .inl (cI, P * P, .inl w)), (aM, .inl (cB, P, .inl (fun z9 => bI (ms z9)))), (aS, .inr (0, [.int (nI P), .int (nI (P - 2)), .int (nI (P - 1)), .int (nI (P * (P - 2)))]))] (fun (r : Int32) (u : Unit) => r = bI (mk && decide (0 < dr_cnt ms P))) (fun (u : Unit) => [(aT, .inr (1, [.ref aS, .ref aW, .ref aM, .int (bI mk)])), (aW, .inl (cI, P * P, .inl w)), (aM, .inl (cB, P, .inl (fun z9 => bI (ms z9)))), (aS, .inr (0, [.int (nI P), .int (nI (P - 2)), .int (nI (P - 1)), .int (nI (P * (P - 2)))]))]) := by
  refine MG.ofW (cc := cX1_isUnsure) (maxL := 1) (rt := .boolean) (by decide +kernel) rfl (Nat.le_of_ble_eq_true rfl) ?_
  intro p e s m args below meth c A ls Q H locs hQ hx hb hml hr hlk hts hown hK hP hD hS hA hl
  have hts : ∀ w ∈ TB, w.before args s = true := fun w h => hts w (List.mem_cons_of_mem _ h)
  have hown : s.vm.findClass RX1 = some m.cls := hown
  have hl : lv_has ls 1 [(0, .ref aT)] := hl
  have hP : va_P (dC, dI) vwCl [(aT, .inr (1, [.ref aS, .ref aW, .ref aM, .int (bI mk)])), (aW, .inl (cI, P * P, .inl w)), (aM, .inl (cB, P, .inl (fun z9 => bI (ms z9)))), (aS, .inr (0, [.int (nI P), .int (nI (P - 2)), .int (nI (P - 1)), .int (nI (P * (P - 2)))]))] H := hP
  have hD : va_D A [(aT, .inr (1, [.ref aS, .ref aW, .ref aM, .int (bI mk)])), (aW, .inl (cI, P * P, .inl w)), (aM, .inl (cB, P, .inl (fun z9 => bI (ms z9)))), (aS, .inr (0, [.int (nI P), .int (nI (P - 2)), .int (nI (P - 1)), .int (nI (P * (P - 2)))]))] := hD
  have hp := hp5.le
  have hpp := dr_PP hp5
  have hpq := dr_PP2 hp5
  have hc := dr_cnt_le (g := ms) P
  refine lv_aload_n hx hb dX1_isUnsure_0 rfl (lv_at hl 0 rfl) ?_
  refine va_get (D := (dC, dI)) (ci := 1) (v := .int (bI mk)) (C := RX1) (T := TX1) (N := 4) hx hb hts inX1 hown hK hP 0 rfl rfl 3 (by decide) (hts _ t_fX1_29) (fun _ h9 => h9) rfl dX1_isUnsure_1 ?_
  refine x_ifF (tgt := 18) hx hb dX1_isUnsure_4 (by decide) (fun h4 => ?_) (fun h4 => ?_)
  · -- 4t
    refine lv_iconst (v := bI false) hx hb dX1_isUnsure_18 (by decide) ?_
    exact x_zret (D := (dC, dI)) (cl := vwCl) (A := A) () hQ hx hb hr hlk hP hD hS dX1_isUnsure_19 (by first | rfl | (simp [h4]; done) | (simp [h4]; omega))
  · -- 4f
    refine lv_aload_n hx hb dX1_isUnsure_7 rfl (lv_at hl 0 rfl) ?_
    refine gV (wr := []) (pre := [(aT, .inr (1, [.ref aS, .ref aW, .ref aM, .int (bI mk)])), (aW, .inl (cI, P * P, .inl w)), (aM, .inl (cB, P, .inl (fun z9 => bI (ms z9)))), (aS, .inr (0, [.int (nI P), .int (nI (P - 2)), .int (nI (P - 1)), .int (nI (P * (P - 2)))]))]) (tl := []) (G := fun (u : Unit) => [(aT, .inr (1, [.ref aS, .ref aW, .ref aM, .int (bI mk)])), (aW, .inl (cI, P * P, .inl w)), (aM, .inl (cB, P, .inl (fun z9 => bI (ms z9)))), (aS, .inr (0, [.int (nI P), .int (nI (P - 2)), .int (nI (P - 1)), .int (nI (P * (P - 2)))]))]) (b := aT) (As := []) (rst := []) ⟨hx, hb, hml, hown, hts⟩ (c_md l dC dI cI cB cQ cJ aT aS aW aM P w ms mk hp5) (cwV 0 hts (gdV t_mX1_33 t_inst_X1_missingDrives t_sel_X1_missingDrives t_ini_X1 t_code_X1_missingDrives) rfl rfl rfl (by decide +kernel) ⟨Nat.le_of_ble_eq_true rfl, Nat.le_of_ble_eq_true rfl⟩) hK hP hD hS hA [0, 1, 2, 3] [] [0, 1, 2, 3] rfl (by decide) (fun _ => rfl) (by decide) (ci := 1) rfl rfl rfl rfl hl.1 rfl (Nat.le_of_ble_eq_true rfl) dX1_isUnsure_8 ⟨Nat.zero_le _, Nat.zero_le _⟩ (fun r u H locs hu1 hP hD hS => ?_)
    have hr8 := hu1
    have hr8 : r = nI (dr_cnt ms P) := hr8
    subst hr8
    have hP : va_P (dC, dI) vwCl [(aT, .inr (1, [.ref aS, .ref aW, .ref aM, .int (bI mk)])), (aW, .inl (cI, P * P, .inl w)), (aM, .inl (cB, P, .inl (fun z9 => bI (ms z9)))), (aS, .inr (0, [.int (nI P), .int (nI (P - 2)), .int (nI (P - 1)), .int (nI (P * (P - 2)))]))] H := hP
    have hD : va_D A [(aT, .inr (1, [.ref aS, .ref aW, .ref aM, .int (bI mk)])), (aW, .inl (cI, P * P, .inl w)), (aM, .inl (cB, P, .inl (fun z9 => bI (ms z9)))), (aS, .inr (0, [.int (nI P), .int (nI (P - 2)), .int (nI (P - 1)), .int (nI (P * (P - 2)))]))] := hD
    refine x_lez (tgt := 18) hx hb dX1_isUnsure_11 (by decide) (by omega) (fun h11 => ?_) (fun h11 => ?_)
    · -- 11t
      refine lv_iconst (v := bI false) hx hb dX1_isUnsure_18 (by decide) ?_
      exact x_zret (D := (dC, dI)) (cl := vwCl) (A := A) () hQ hx hb hr hlk hP hD hS dX1_isUnsure_19 (by first | rfl | (simp [h4, h11]; done) | (simp [h4, h11]; omega))
    · -- 11f
      refine lv_iconst (v := bI true) hx hb dX1_isUnsure_14 (by decide) ?_
      refine lv_goto (tgt := 19) hx hb dX1_isUnsure_15 (by decide) ?_
      exact x_zret (D := (dC, dI)) (cl := vwCl) (A := A) () hQ hx hb hr hlk hP hD hS dX1_isUnsure_19 (by first | rfl | (simp [h4, h11]; done) | (simp [h4, h11]; omega))

abbrev rm_c_told : Room := { frames := 1, cells := 0, slots := 0, locals := 22 }
set_option maxHeartbeats 4000000 in
set_option maxRecDepth 100000 in
theorem c_told (l : Launch) (dC : Nat → ClassId) (dI : Nat → Nat → Nat) (cI cB cQ cJ : ClassId) (aT : Nat) (aS : Nat) (aW : Nat) (aM : Nat) (P : Nat) (w : Nat → Int32) (ms : Nat → Bool) (mk : Bool) (hp5 : dr_P P) : MG l yX1_isTold (Cond.code yX1_isTold cX1_isTold 1 (some .boolean) :: TB) rm_c_told (dC, dI) vwCl (TY cI cB cQ cJ) [.ref aT] [(aT, .inr (1, [.ref aS, .ref aW, .ref aM, .int (bI mk)])), (aW, .inl (cI, P * P, .inl w)), (aM, .inl (cB, P, .inl (fun z9 => bI (ms z9)))), (aS, .inr (0, [.int (nI P), .int (nI (P - 2)), .int (nI (P - 1)), .int (nI (P * (P - 2)))]))] (fun (r : Int32) (u : Unit) => r = bI (!mk && decide (dr_cnt ms P ≤ 2))) (fun (u : Unit) => [(aT, .inr (1, [.ref aS, .ref aW, .ref aM, .int (bI mk)])), (aW, .inl (cI, P * P, .inl w)), (aM, .inl (cB, P, .inl (fun z9 => bI (ms z9)))), (aS, .inr (0, [.int (nI P), .int (nI (P - 2)), .int (nI (P - 1)), .int (nI (P * (P - 2)))]))]) := by
  refine MG.ofW (cc := cX1_isTold) (maxL := 1) (rt := .boolean) (by decide +kernel) rfl (Nat.le_of_ble_eq_true rfl) ?_
  intro p e s m args below meth c A ls Q H locs hQ hx hb hml hr hlk hts hown hK hP hD hS hA hl
  have hts : ∀ w ∈ TB, w.before args s = true := fun w h => hts w (List.mem_cons_of_mem _ h)
  have hown : s.vm.findClass RX1 = some m.cls := hown
  have hl : lv_has ls 1 [(0, .ref aT)] := hl
  have hP : va_P (dC, dI) vwCl [(aT, .inr (1, [.ref aS, .ref aW, .ref aM, .int (bI mk)])), (aW, .inl (cI, P * P, .inl w)), (aM, .inl (cB, P, .inl (fun z9 => bI (ms z9)))), (aS, .inr (0, [.int (nI P), .int (nI (P - 2)), .int (nI (P - 1)), .int (nI (P * (P - 2)))]))] H := hP
  have hD : va_D A [(aT, .inr (1, [.ref aS, .ref aW, .ref aM, .int (bI mk)])), (aW, .inl (cI, P * P, .inl w)), (aM, .inl (cB, P, .inl (fun z9 => bI (ms z9)))), (aS, .inr (0, [.int (nI P), .int (nI (P - 2)), .int (nI (P - 1)), .int (nI (P * (P - 2)))]))] := hD
  have hp := hp5.le
  have hpp := dr_PP hp5
  have hpq := dr_PP2 hp5
  have hc := dr_cnt_le (g := ms) P
  refine lv_aload_n hx hb dX1_isTold_0 rfl (lv_at hl 0 rfl) ?_
  refine va_get (D := (dC, dI)) (ci := 1) (v := .int (bI mk)) (C := RX1) (T := TX1) (N := 4) hx hb hts inX1 hown hK hP 0 rfl rfl 3 (by decide) (hts _ t_fX1_29) (fun _ h9 => h9) rfl dX1_isTold_1 ?_
  refine x_ifT (tgt := 19) hx hb dX1_isTold_4 (by decide) (fun h4 => ?_) (fun h4 => ?_)
  · -- 4t
    refine lv_iconst (v := bI false) hx hb dX1_isTold_19 (by decide) ?_
    exact x_zret (D := (dC, dI)) (cl := vwCl) (A := A) () hQ hx hb hr hlk hP hD hS dX1_isTold_20 (by first | rfl | (simp [h4]; done) | (simp [h4, h12]; done) | (rw [h4, decide_eq_false (by omega)]; rfl))
  · -- 4f
    refine lv_aload_n hx hb dX1_isTold_7 rfl (lv_at hl 0 rfl) ?_
    refine gV (wr := []) (pre := [(aT, .inr (1, [.ref aS, .ref aW, .ref aM, .int (bI mk)])), (aW, .inl (cI, P * P, .inl w)), (aM, .inl (cB, P, .inl (fun z9 => bI (ms z9)))), (aS, .inr (0, [.int (nI P), .int (nI (P - 2)), .int (nI (P - 1)), .int (nI (P * (P - 2)))]))]) (tl := []) (G := fun (u : Unit) => [(aT, .inr (1, [.ref aS, .ref aW, .ref aM, .int (bI mk)])), (aW, .inl (cI, P * P, .inl w)), (aM, .inl (cB, P, .inl (fun z9 => bI (ms z9)))), (aS, .inr (0, [.int (nI P), .int (nI (P - 2)), .int (nI (P - 1)), .int (nI (P * (P - 2)))]))]) (b := aT) (As := []) (rst := []) ⟨hx, hb, hml, hown, hts⟩ (c_md l dC dI cI cB cQ cJ aT aS aW aM P w ms mk hp5) (cwV 0 hts (gdV t_mX1_33 t_inst_X1_missingDrives t_sel_X1_missingDrives t_ini_X1 t_code_X1_missingDrives) rfl rfl rfl (by decide +kernel) ⟨Nat.le_of_ble_eq_true rfl, Nat.le_of_ble_eq_true rfl⟩) hK hP hD hS hA [0, 1, 2, 3] [] [0, 1, 2, 3] rfl (by decide) (fun _ => rfl) (by decide) (ci := 1) rfl rfl rfl rfl hl.1 rfl (Nat.le_of_ble_eq_true rfl) dX1_isTold_8 ⟨Nat.zero_le _, Nat.zero_le _⟩ (fun r u H locs hu1 hP hD hS => ?_)
    have hr8 := hu1
    have hr8 : r = nI (dr_cnt ms P) := hr8
    subst hr8
    have hP : va_P (dC, dI) vwCl [(aT, .inr (1, [.ref aS, .ref aW, .ref aM, .int (bI mk)])), (aW, .inl (cI, P * P, .inl w)), (aM, .inl (cB, P, .inl (fun z9 => bI (ms z9)))), (aS, .inr (0, [.int (nI P), .int (nI (P - 2)), .int (nI (P - 1)), .int (nI (P * (P - 2)))]))] H := hP
    have hD : va_D A [(aT, .inr (1, [.ref aS, .ref aW, .ref aM, .int (bI mk)])), (aW, .inl (cI, P * P, .inl w)), (aM, .inl (cB, P, .inl (fun z9 => bI (ms z9)))), (aS, .inr (0, [.int (nI P), .int (nI (P - 2)), .int (nI (P - 1)), .int (nI (P * (P - 2)))]))] := hD
    refine lv_iconst (v := nI 2) hx hb dX1_isTold_11 (by decide) ?_
    refine x_cgt (tgt := 19) hx hb dX1_isTold_12 (by decide) (by omega) (by omega) (fun h12 => ?_) (fun h12 => ?_)
    · -- 12t
      refine lv_iconst (v := bI false) hx hb dX1_isTold_19 (by decide) ?_
      exact x_zret (D := (dC, dI)) (cl := vwCl) (A := A) () hQ hx hb hr hlk hP hD hS dX1_isTold_20 (by first | rfl | (simp [h4]; done) | (simp [h4, h12]; done) | (rw [h4, decide_eq_false (by omega)]; rfl))
    · -- 12f
      refine lv_iconst (v := bI true) hx hb dX1_isTold_15 (by decide) ?_
      refine lv_goto (tgt := 20) hx hb dX1_isTold_16 (by decide) ?_
      exact x_zret (D := (dC, dI)) (cl := vwCl) (A := A) () hQ hx hb hr hlk hP hD hS dX1_isTold_20 (by first | rfl | (simp [h4]; done) | (simp [h4, h12]; done) | (rw [h4, decide_eq_false (by omega)]; rfl))

abbrev rm_c_drop : Room := { frames := 1, cells := 0, slots := 0, locals := 22 }
set_option maxHeartbeats 4000000 in
set_option maxRecDepth 100000 in
theorem c_drop (l : Launch) (dC : Nat → ClassId) (dI : Nat → Nat → Nat) (cI cB cQ cJ : ClassId) (aT : Nat) (aS : Nat) (aW : Nat) (aM : Nat) (P : Nat) (w : Nat → Int32) (ms : Nat → Bool) (mk : Bool) (d : Nat) (hp5 : dr_P P) (hd : d < P) : MV l yX1_drop (Cond.code yX1_drop cX1_drop 3 none :: TB) rm_c_drop (dC, dI) vwCl (TY cI cB cQ cJ) [.ref aT, .int (nI d)] [(aT, .inr (1, [.ref aS, .ref aW, .ref aM, .int (bI mk)])), (aW, .inl (cI, P * P, .inl w)), (aM, .inl (cB, P, .inl (fun z9 => bI (ms z9)))), (aS, .inr (0, [.int (nI P), .int (nI (P - 2)), .int (nI (P - 1)), .int (nI (P * (P - 2)))]))] (fun (u : Unit) => True) (fun (u : Unit) => [(aT, .inr (1, [.ref aS, .ref aW, .ref aM, .int (bI mk)])), (aW, .inl (cI, P * P, .inl (dr_zr P w d P))), (aM, .inl (cB, P, .inl (fun z9 => bI ((va_up ms d true) z9)))), (aS, .inr (0, [.int (nI P), .int (nI (P - 2)), .int (nI (P - 1)), .int (nI (P * (P - 2)))]))]) := by
  refine MV.ofW (cc := cX1_drop) (maxL := 3) (by decide +kernel) rfl (Nat.le_of_ble_eq_true rfl) ?_
  intro p e s m args below meth c A ls Q H locs hQ hx hb hml hr hlk hts hown hK hP hD hS hA hl
  have hts : ∀ w ∈ TB, w.before args s = true := fun w h => hts w (List.mem_cons_of_mem _ h)
  have hown : s.vm.findClass RX1 = some m.cls := hown
  have hl : lv_has ls 3 [(0, .ref aT), (1, .int (nI d))] := hl
  have hP : va_P (dC, dI) vwCl [(aT, .inr (1, [.ref aS, .ref aW, .ref aM, .int (bI mk)])), (aW, .inl (cI, P * P, .inl w)), (aM, .inl (cB, P, .inl (fun z9 => bI (ms z9)))), (aS, .inr (0, [.int (nI P), .int (nI (P - 2)), .int (nI (P - 1)), .int (nI (P * (P - 2)))]))] H := hP
  have hD : va_D A [(aT, .inr (1, [.ref aS, .ref aW, .ref aM, .int (bI mk)])), (aW, .inl (cI, P * P, .inl w)), (aM, .inl (cB, P, .inl (fun z9 => bI (ms z9)))), (aS, .inr (0, [.int (nI P), .int (nI (P - 2)), .int (nI (P - 1)), .int (nI (P * (P - 2)))]))] := hD
  have hp := hp5.le
  have hpp := dr_PP hp5
  have hpq := dr_PP2 hp5
  refine lv_aload_n hx hb dX1_drop_0 rfl (lv_at hl 0 rfl) ?_
  refine va_get (D := (dC, dI)) (ci := 1) (v := .ref aM) (C := RX1) (T := TX1) (N := 4) hx hb hts inX1 hown hK hP 0 rfl rfl 2 (by decide) (hts _ t_fX1_25) (fun _ h9 => h9) rfl dX1_drop_1 ?_
  refine lv_iload_n hx hb dX1_drop_4 rfl (lv_at hl 1 rfl) ?_
  refine lv_iconst (v := bI true) hx hb dX1_drop_5 (by decide) ?_
  refine x_zast (g := ms) hx hb hK hP hD hS 2 1 rfl rfl dX1_drop_6 (by omega) (by omega) (fun H locs hP hD hS => ?_)
  have hP : va_P (dC, dI) vwCl [(aT, .inr (1, [.ref aS, .ref aW, .ref aM, .int (bI mk)])), (aW, .inl (cI, P * P, .inl w)), (aM, .inl (cB, P, .inl (fun z9 => bI ((va_up ms d true) z9)))), (aS, .inr (0, [.int (nI P), .int (nI (P - 2)), .int (nI (P - 1)), .int (nI (P * (P - 2)))]))] H := hP
  have hD : va_D A [(aT, .inr (1, [.ref aS, .ref aW, .ref aM, .int (bI mk)])), (aW, .inl (cI, P * P, .inl w)), (aM, .inl (cB, P, .inl (fun z9 => bI ((va_up ms d true) z9)))), (aS, .inr (0, [.int (nI P), .int (nI (P - 2)), .int (nI (P - 1)), .int (nI (P * (P - 2)))]))] := hD
  refine lv_iconst (v := nI 0) hx hb dX1_drop_7 (by decide) ?_
  refine lv_istore_n hx hb dX1_drop_8 rfl hl (by decide) rfl (fun ls hl => ?_)
  have hl : lv_has ls 3 [(2, .int (nI 0)), (0, .ref aT), (1, .int (nI d))] := hl
  have lp9 : ∀ (n9 : Nat) (i : Nat) (ls : Array Slot) (H : Heap) (locs : List Loc), P - i < n9 → (i ≤ P) → lv_has ls 3 [(2, .int (nI i)), (1, .int (nI d)), (0, .ref aT)] → va_P (dC, dI) vwCl [(aT, .inr (1, [.ref aS, .ref aW, .ref aM, .int (bI mk)])), (aW, .inl (cI, P * P, .inl (dr_zr P w d i))), (aM, .inl (cB, P, .inl (fun z9 => bI ((va_up ms d true) z9)))), (aS, .inr (0, [.int (nI P), .int (nI (P - 2)), .int (nI (P - 1)), .int (nI (P * (P - 2)))]))] H → va_D A [(aT, .inr (1, [.ref aS, .ref aW, .ref aM, .int (bI mk)])), (aW, .inl (cI, P * P, .inl (dr_zr P w d i))), (aM, .inl (cB, P, .inl (fun z9 => bI ((va_up ms d true) z9)))), (aS, .inr (0, [.int (nI P), .int (nI (P - 2)), .int (nI (P - 1)), .int (nI (P * (P - 2)))]))] → va_S A s.heap H locs → W p l e rm_c_drop s m args below meth c H locs 0 0 Q (F0 m 9 ls []) := by
    intro n9
    induction n9 with
    | zero => intro i ls H locs hn9; omega
    | succ n9 ih9 =>
      intro i ls H locs hn9 hi hl hP hD hS
      refine lv_iload_n hx hb dX1_drop_9 rfl (lv_at hl 0 rfl) ?_
      refine lv_aload_n hx hb dX1_drop_10 rfl (lv_at hl 2 rfl) ?_
      refine va_get (D := (dC, dI)) (ci := 1) (v := .ref aS) (C := RX1) (T := TX1) (N := 4) hx hb hts inX1 hown hK hP 0 rfl rfl 0 (by decide) (hts _ t_fX1_9) (fun _ h9 => h9) rfl dX1_drop_11 ?_
      refine va_get (D := (dC, dI)) (ci := 0) (v := .int (nI P)) (C := RX0) (T := TX0) (N := 4) hx hb hts inX0 hown hK hP 3 rfl rfl 0 (by decide) (hts _ t_fX1_15) (fun _ h9 => h9) rfl dX1_drop_14 ?_
      refine x_cge (tgt := 41) hx hb dX1_drop_17 (by decide) (by omega) (by omega) (fun h17 => ?_) (fun h17 => ?_)
      · -- 17t
        have hie17 : i = P := by omega
        try rw [hie17] at hl
        try rw [hie17] at hP
        try rw [hie17] at hD
        have hl : lv_has ls 3 [(2, .int (nI P)), (1, .int (nI d)), (0, .ref aT)] := hl
        have hP : va_P (dC, dI) vwCl [(aT, .inr (1, [.ref aS, .ref aW, .ref aM, .int (bI mk)])), (aW, .inl (cI, P * P, .inl (dr_zr P w d P))), (aM, .inl (cB, P, .inl (fun z9 => bI ((va_up ms d true) z9)))), (aS, .inr (0, [.int (nI P), .int (nI (P - 2)), .int (nI (P - 1)), .int (nI (P * (P - 2)))]))] H := hP
        have hD : va_D A [(aT, .inr (1, [.ref aS, .ref aW, .ref aM, .int (bI mk)])), (aW, .inl (cI, P * P, .inl (dr_zr P w d P))), (aM, .inl (cB, P, .inl (fun z9 => bI ((va_up ms d true) z9)))), (aS, .inr (0, [.int (nI P), .int (nI (P - 2)), .int (nI (P - 1)), .int (nI (P * (P - 2)))]))] := hD
        exact x_vret (D := (dC, dI)) (cl := vwCl) (A := A) () hQ hx hb hr hlk hP hD hS dX1_drop_41 trivial
      · -- 17f
        refine lv_aload_n hx hb dX1_drop_20 rfl (lv_at hl 2 rfl) ?_
        refine va_get (D := (dC, dI)) (ci := 1) (v := .ref aW) (C := RX1) (T := TX1) (N := 4) hx hb hts inX1 hown hK hP 0 rfl rfl 1 (by decide) (hts _ t_fX1_21) (fun _ h9 => h9) rfl dX1_drop_21 ?_
        refine lv_aload_n hx hb dX1_drop_24 rfl (lv_at hl 2 rfl) ?_
        refine va_get (D := (dC, dI)) (ci := 1) (v := .ref aS) (C := RX1) (T := TX1) (N := 4) hx hb hts inX1 hown hK hP 0 rfl rfl 0 (by decide) (hts _ t_fX1_9) (fun _ h9 => h9) rfl dX1_drop_25 ?_
        refine lv_iload_n hx hb dX1_drop_28 rfl (lv_at hl 1 rfl) ?_
        refine lv_iload_n hx hb dX1_drop_29 rfl (lv_at hl 0 rfl) ?_
        refine gV (wr := [(aT, .inr (1, [.ref aS, .ref aW, .ref aM, .int (bI mk)])), (aW, .inl (cI, P * P, .inl (dr_zr P w d i))), (aM, .inl (cB, P, .inl (fun z9 => bI ((va_up ms d true) z9))))]) (pre := [(aT, .inr (1, [.ref aS, .ref aW, .ref aM, .int (bI mk)])), (aW, .inl (cI, P * P, .inl (dr_zr P w d i))), (aM, .inl (cB, P, .inl (fun z9 => bI ((va_up ms d true) z9)))), (aS, .inr (0, [.int (nI P), .int (nI (P - 2)), .int (nI (P - 1)), .int (nI (P * (P - 2)))]))]) (tl := []) (G := fun (u : Unit) => [(aT, .inr (1, [.ref aS, .ref aW, .ref aM, .int (bI mk)])), (aW, .inl (cI, P * P, .inl (dr_zr P w d i))), (aM, .inl (cB, P, .inl (fun z9 => bI ((va_up ms d true) z9)))), (aS, .inr (0, [.int (nI P), .int (nI (P - 2)), .int (nI (P - 1)), .int (nI (P * (P - 2)))]))]) (b := aS) (As := [.int (nI d), .int (nI i)]) (rst := [.ref aW]) ⟨hx, hb, hml, hown, hts⟩ (c_place l dC dI cI cB cQ cJ aS P d i ) (cwV 2 hts (gdV t_mX1_37 t_inst_X0_place t_sel_X0_place t_ini_X0 t_code_X0_place) rfl rfl rfl (by decide +kernel) ⟨Nat.le_of_ble_eq_true rfl, Nat.le_of_ble_eq_true rfl⟩) hK hP hD hS hA [3] [0, 1, 2] [1, 2, 3, 0] rfl (by decide) (fun _ => rfl) (by decide) (ci := 0) rfl rfl rfl rfl hl.1 rfl (Nat.le_of_ble_eq_true rfl) dX1_drop_30 ⟨Nat.zero_le _, Nat.zero_le _⟩ (fun r u H locs hu1 hP hD hS => ?_)
        have hr30 := hu1
        have hr30 : r = nI (d * P + i) := hr30
        subst hr30
        have hP : va_P (dC, dI) vwCl [(aT, .inr (1, [.ref aS, .ref aW, .ref aM, .int (bI mk)])), (aW, .inl (cI, P * P, .inl (dr_zr P w d i))), (aM, .inl (cB, P, .inl (fun z9 => bI ((va_up ms d true) z9)))), (aS, .inr (0, [.int (nI P), .int (nI (P - 2)), .int (nI (P - 1)), .int (nI (P * (P - 2)))]))] H := hP
        have hD : va_D A [(aT, .inr (1, [.ref aS, .ref aW, .ref aM, .int (bI mk)])), (aW, .inl (cI, P * P, .inl (dr_zr P w d i))), (aM, .inl (cB, P, .inl (fun z9 => bI ((va_up ms d true) z9)))), (aS, .inr (0, [.int (nI P), .int (nI (P - 2)), .int (nI (P - 1)), .int (nI (P * (P - 2)))]))] := hD
        refine lv_iconst (v := 0) hx hb dX1_drop_33 (by decide) ?_
        refine x_iast (f := dr_zr P w d i) hx hb hK hP hD hS 1 0 rfl rfl dX1_drop_34 (dr_pl hd (by omega)) (by omega) (fun H locs hP hD hS => ?_)
        have hP : va_P (dC, dI) vwCl [(aT, .inr (1, [.ref aS, .ref aW, .ref aM, .int (bI mk)])), (aW, .inl (cI, P * P, .inl (va_up (dr_zr P w d i) (d * P + i) 0))), (aM, .inl (cB, P, .inl (fun z9 => bI ((va_up ms d true) z9)))), (aS, .inr (0, [.int (nI P), .int (nI (P - 2)), .int (nI (P - 1)), .int (nI (P * (P - 2)))]))] H := hP
        have hD : va_D A [(aT, .inr (1, [.ref aS, .ref aW, .ref aM, .int (bI mk)])), (aW, .inl (cI, P * P, .inl (va_up (dr_zr P w d i) (d * P + i) 0))), (aM, .inl (cB, P, .inl (fun z9 => bI ((va_up ms d true) z9)))), (aS, .inr (0, [.int (nI P), .int (nI (P - 2)), .int (nI (P - 1)), .int (nI (P * (P - 2)))]))] := hD
        refine lv_iinc (v := nI (i + 1)) hx hb dX1_drop_35 hl (k := 0) rfl (x_inc _) (by decide) rfl (fun ls hl => ?_)
        have hl : lv_has ls 3 [(2, .int (nI (i + 1))), (1, .int (nI d)), (0, .ref aT)] := hl
        refine lv_goto (tgt := 9) hx hb dX1_drop_38 (by decide) ?_
        have e2 : (dr_zr P w d (i + 1)) = (va_up (dr_zr P w d i) (d * P + i) 0) := by first | rfl | (simp [h17]; done) | (simp [h17]; omega)
        exact ih9 (i + 1) ls H locs (by omega) (by omega) (lv_sub hl [0, 1, 2] rfl) (by rw [e2]; exact hP) (by rw [e2]; exact hD) hS
  have e3 : (dr_zr P w d 0) = w := by first | rfl | (simp []; done) | (simp []; omega)
  exact lp9 (P - 0 + 1) 0 ls H locs (by omega) (by omega) (lv_sub hl [0, 2, 1] rfl) (by rw [e3]; exact hP) (by rw [e3]; exact hD) hS

abbrev rm_c_sum : Room := { frames := 2, cells := 0, slots := 0, locals := 45 }
set_option maxHeartbeats 4000000 in
set_option maxRecDepth 100000 in
theorem c_sum (l : Launch) (dC : Nat → ClassId) (dI : Nat → Nat → Nat) (cI cB cQ cJ : ClassId) (aT : Nat) (aS : Nat) (aW : Nat) (aM : Nat) (P : Nat) (w : Nat → Int32) (ms : Nat → Bool) (mk : Bool) (o : Nat) (row : Nat) (hp5 : dr_P P) (ho : o < P) (hrw : dr_row P row) : MG l yX1_dataSum (Cond.code yX1_dataSum cX1_dataSum 5 (some .int) :: TB) rm_c_sum (dC, dI) vwCl (TY cI cB cQ cJ) [.ref aT, .int (nI o), .int (nI row)] [(aT, .inr (1, [.ref aS, .ref aW, .ref aM, .int (bI mk)])), (aW, .inl (cI, P * P, .inl w)), (aM, .inl (cB, P, .inl (fun z9 => bI (ms z9)))), (aS, .inr (0, [.int (nI P), .int (nI (P - 2)), .int (nI (P - 1)), .int (nI (P * (P - 2)))]))] (fun (r : Int32) (u : Unit) => r = dr_sum P w o row (P - 2)) (fun (u : Unit) => [(aT, .inr (1, [.ref aS, .ref aW, .ref aM, .int (bI mk)])), (aW, .inl (cI, P * P, .inl w)), (aM, .inl (cB, P, .inl (fun z9 => bI (ms z9)))), (aS, .inr (0, [.int (nI P), .int (nI (P - 2)), .int (nI (P - 1)), .int (nI (P * (P - 2)))]))]) := by
  refine MG.ofW (cc := cX1_dataSum) (maxL := 5) (rt := .int) (by decide +kernel) rfl (Nat.le_of_ble_eq_true rfl) ?_
  intro p e s m args below meth c A ls Q H locs hQ hx hb hml hr hlk hts hown hK hP hD hS hA hl
  have hts : ∀ w ∈ TB, w.before args s = true := fun w h => hts w (List.mem_cons_of_mem _ h)
  have hown : s.vm.findClass RX1 = some m.cls := hown
  have hl : lv_has ls 5 [(0, .ref aT), (1, .int (nI o)), (2, .int (nI row))] := hl
  have hP : va_P (dC, dI) vwCl [(aT, .inr (1, [.ref aS, .ref aW, .ref aM, .int (bI mk)])), (aW, .inl (cI, P * P, .inl w)), (aM, .inl (cB, P, .inl (fun z9 => bI (ms z9)))), (aS, .inr (0, [.int (nI P), .int (nI (P - 2)), .int (nI (P - 1)), .int (nI (P * (P - 2)))]))] H := hP
  have hD : va_D A [(aT, .inr (1, [.ref aS, .ref aW, .ref aM, .int (bI mk)])), (aW, .inl (cI, P * P, .inl w)), (aM, .inl (cB, P, .inl (fun z9 => bI (ms z9)))), (aS, .inr (0, [.int (nI P), .int (nI (P - 2)), .int (nI (P - 1)), .int (nI (P * (P - 2)))]))] := hD
  have hp := hp5.le
  have hpp := dr_PP hp5
  have hpq := dr_PP2 hp5
  have hrl : row < P := by rcases hrw with rfl | rfl <;> omega
  refine lv_iconst (v := 0) hx hb dX1_dataSum_0 (by decide) ?_
  refine lv_istore_n hx hb dX1_dataSum_1 rfl hl (by decide) rfl (fun ls hl => ?_)
  have hl : lv_has ls 5 [(3, .int 0), (0, .ref aT), (1, .int (nI o)), (2, .int (nI row))] := hl
  refine lv_iconst (v := nI 0) hx hb dX1_dataSum_2 (by decide) ?_
  refine lv_istore hx hb dX1_dataSum_3 hl (by decide) rfl (fun ls hl => ?_)
  have hl : lv_has ls 5 [(4, .int (nI 0)), (3, .int 0), (0, .ref aT), (1, .int (nI o)), (2, .int (nI row))] := hl
  have lp5 : ∀ (n9 : Nat) (i : Nat) (ls : Array Slot) (H : Heap) (locs : List Loc), P - 2 - i < n9 → (i ≤ P - 2) → lv_has ls 5 [(4, .int (nI i)), (3, .int (dr_sum P w o row i)), (2, .int (nI row)), (1, .int (nI o)), (0, .ref aT)] → va_P (dC, dI) vwCl [(aT, .inr (1, [.ref aS, .ref aW, .ref aM, .int (bI mk)])), (aW, .inl (cI, P * P, .inl w)), (aM, .inl (cB, P, .inl (fun z9 => bI (ms z9)))), (aS, .inr (0, [.int (nI P), .int (nI (P - 2)), .int (nI (P - 1)), .int (nI (P * (P - 2)))]))] H → va_D A [(aT, .inr (1, [.ref aS, .ref aW, .ref aM, .int (bI mk)])), (aW, .inl (cI, P * P, .inl w)), (aM, .inl (cB, P, .inl (fun z9 => bI (ms z9)))), (aS, .inr (0, [.int (nI P), .int (nI (P - 2)), .int (nI (P - 1)), .int (nI (P * (P - 2)))]))] → va_S A s.heap H locs → W p l e rm_c_sum s m args below meth c H locs 0 0 Q (F0 m 5 ls []) := by
    intro n9
    induction n9 with
    | zero => intro i ls H locs hn9; omega
    | succ n9 ih5 =>
      intro i ls H locs hn9 hi hl hP hD hS
      refine lv_iload hx hb dX1_dataSum_5 (lv_at hl 0 rfl) ?_
      refine lv_aload_n hx hb dX1_dataSum_7 rfl (lv_at hl 4 rfl) ?_
      refine va_get (D := (dC, dI)) (ci := 1) (v := .ref aS) (C := RX1) (T := TX1) (N := 4) hx hb hts inX1 hown hK hP 0 rfl rfl 0 (by decide) (hts _ t_fX1_9) (fun _ h9 => h9) rfl dX1_dataSum_8 ?_
      refine va_get (D := (dC, dI)) (ci := 0) (v := .int (nI (P - 2))) (C := RX0) (T := TX0) (N := 4) hx hb hts inX0 hown hK hP 3 rfl rfl 1 (by decide) (hts _ t_fX1_41) (fun _ h9 => h9) rfl dX1_dataSum_11 ?_
      refine x_cge (tgt := 51) hx hb dX1_dataSum_14 (by decide) (by omega) (by omega) (fun h14 => ?_) (fun h14 => ?_)
      · -- 14t
        have hie14 : i = P - 2 := by omega
        try rw [hie14] at hl
        try rw [hie14] at hP
        try rw [hie14] at hD
        have hl : lv_has ls 5 [(4, .int (nI (P - 2))), (3, .int (dr_sum P w o row (P - 2))), (2, .int (nI row)), (1, .int (nI o)), (0, .ref aT)] := hl
        have hP : va_P (dC, dI) vwCl [(aT, .inr (1, [.ref aS, .ref aW, .ref aM, .int (bI mk)])), (aW, .inl (cI, P * P, .inl w)), (aM, .inl (cB, P, .inl (fun z9 => bI (ms z9)))), (aS, .inr (0, [.int (nI P), .int (nI (P - 2)), .int (nI (P - 1)), .int (nI (P * (P - 2)))]))] H := hP
        have hD : va_D A [(aT, .inr (1, [.ref aS, .ref aW, .ref aM, .int (bI mk)])), (aW, .inl (cI, P * P, .inl w)), (aM, .inl (cB, P, .inl (fun z9 => bI (ms z9)))), (aS, .inr (0, [.int (nI P), .int (nI (P - 2)), .int (nI (P - 1)), .int (nI (P * (P - 2)))]))] := hD
        refine lv_iload_n hx hb dX1_dataSum_51 rfl (lv_at hl 1 rfl) ?_
        exact x_iret (D := (dC, dI)) (cl := vwCl) (A := A) () hQ hx hb hr hlk hP hD hS dX1_dataSum_52 (by first | rfl | (simp [h14]; done) | (simp [h14]; omega))
      · -- 14f
        refine lv_iload_n hx hb dX1_dataSum_17 rfl (lv_at hl 1 rfl) ?_
        refine lv_aload_n hx hb dX1_dataSum_18 rfl (lv_at hl 4 rfl) ?_
        refine va_get (D := (dC, dI)) (ci := 1) (v := .ref aW) (C := RX1) (T := TX1) (N := 4) hx hb hts inX1 hown hK hP 0 rfl rfl 1 (by decide) (hts _ t_fX1_21) (fun _ h9 => h9) rfl dX1_dataSum_19 ?_
        refine lv_aload_n hx hb dX1_dataSum_22 rfl (lv_at hl 4 rfl) ?_
        refine va_get (D := (dC, dI)) (ci := 1) (v := .ref aS) (C := RX1) (T := TX1) (N := 4) hx hb hts inX1 hown hK hP 0 rfl rfl 0 (by decide) (hts _ t_fX1_9) (fun _ h9 => h9) rfl dX1_dataSum_23 ?_
        refine lv_aload_n hx hb dX1_dataSum_26 rfl (lv_at hl 4 rfl) ?_
        refine va_get (D := (dC, dI)) (ci := 1) (v := .ref aS) (C := RX1) (T := TX1) (N := 4) hx hb hts inX1 hown hK hP 0 rfl rfl 0 (by decide) (hts _ t_fX1_9) (fun _ h9 => h9) rfl dX1_dataSum_27 ?_
        refine lv_iload_n hx hb dX1_dataSum_30 rfl (lv_at hl 3 rfl) ?_
        refine lv_iload hx hb dX1_dataSum_31 (lv_at hl 0 rfl) ?_
        refine lv_iload_n hx hb dX1_dataSum_33 rfl (lv_at hl 2 rfl) ?_
        refine gV (wr := [(aT, .inr (1, [.ref aS, .ref aW, .ref aM, .int (bI mk)])), (aW, .inl (cI, P * P, .inl w)), (aM, .inl (cB, P, .inl (fun z9 => bI (ms z9))))]) (pre := [(aT, .inr (1, [.ref aS, .ref aW, .ref aM, .int (bI mk)])), (aW, .inl (cI, P * P, .inl w)), (aM, .inl (cB, P, .inl (fun z9 => bI (ms z9)))), (aS, .inr (0, [.int (nI P), .int (nI (P - 2)), .int (nI (P - 1)), .int (nI (P * (P - 2)))]))]) (tl := []) (G := fun (u : Unit) => [(aT, .inr (1, [.ref aS, .ref aW, .ref aM, .int (bI mk)])), (aW, .inl (cI, P * P, .inl w)), (aM, .inl (cB, P, .inl (fun z9 => bI (ms z9)))), (aS, .inr (0, [.int (nI P), .int (nI (P - 2)), .int (nI (P - 1)), .int (nI (P * (P - 2)))]))]) (b := aS) (As := [.int (nI o), .int (nI i), .int (nI row)]) (rst := [.ref aS, .ref aW, .int (dr_sum P w o row i)]) ⟨hx, hb, hml, hown, hts⟩ (c_dd l dC dI cI cB cQ cJ aS P o i row hp5 ho (by omega) hrw) (cwV 3 hts (gdV t_mX1_57 t_inst_X0_dataDrive t_sel_X0_dataDrive t_ini_X0 t_code_X0_dataDrive) rfl rfl rfl (by decide +kernel) ⟨Nat.le_of_ble_eq_true rfl, Nat.le_of_ble_eq_true rfl⟩) hK hP hD hS hA [3] [0, 1, 2] [1, 2, 3, 0] rfl (by decide) (fun _ => rfl) (by decide) (ci := 0) rfl rfl rfl rfl hl.1 rfl (Nat.le_of_ble_eq_true rfl) dX1_dataSum_34 ⟨Nat.zero_le _, Nat.zero_le _⟩ (fun r u H locs hu1 hP hD hS => ?_)
        have hr34 := hu1
        have hr34 : r = nI (dr_dd P o i row) := hr34
        subst hr34
        have hP : va_P (dC, dI) vwCl [(aT, .inr (1, [.ref aS, .ref aW, .ref aM, .int (bI mk)])), (aW, .inl (cI, P * P, .inl w)), (aM, .inl (cB, P, .inl (fun z9 => bI (ms z9)))), (aS, .inr (0, [.int (nI P), .int (nI (P - 2)), .int (nI (P - 1)), .int (nI (P * (P - 2)))]))] H := hP
        have hD : va_D A [(aT, .inr (1, [.ref aS, .ref aW, .ref aM, .int (bI mk)])), (aW, .inl (cI, P * P, .inl w)), (aM, .inl (cB, P, .inl (fun z9 => bI (ms z9)))), (aS, .inr (0, [.int (nI P), .int (nI (P - 2)), .int (nI (P - 1)), .int (nI (P * (P - 2)))]))] := hD
        refine lv_iload hx hb dX1_dataSum_37 (lv_at hl 0 rfl) ?_
        refine gV (wr := [(aT, .inr (1, [.ref aS, .ref aW, .ref aM, .int (bI mk)])), (aW, .inl (cI, P * P, .inl w)), (aM, .inl (cB, P, .inl (fun z9 => bI (ms z9))))]) (pre := [(aT, .inr (1, [.ref aS, .ref aW, .ref aM, .int (bI mk)])), (aW, .inl (cI, P * P, .inl w)), (aM, .inl (cB, P, .inl (fun z9 => bI (ms z9)))), (aS, .inr (0, [.int (nI P), .int (nI (P - 2)), .int (nI (P - 1)), .int (nI (P * (P - 2)))]))]) (tl := []) (G := fun (u : Unit) => [(aT, .inr (1, [.ref aS, .ref aW, .ref aM, .int (bI mk)])), (aW, .inl (cI, P * P, .inl w)), (aM, .inl (cB, P, .inl (fun z9 => bI (ms z9)))), (aS, .inr (0, [.int (nI P), .int (nI (P - 2)), .int (nI (P - 1)), .int (nI (P * (P - 2)))]))]) (b := aS) (As := [.int (nI (dr_dd P o i row)), .int (nI i)]) (rst := [.ref aW, .int (dr_sum P w o row i)]) ⟨hx, hb, hml, hown, hts⟩ (c_place l dC dI cI cB cQ cJ aS P (dr_dd P o i row) i ) (cwV 2 hts (gdV t_mX1_37 t_inst_X0_place t_sel_X0_place t_ini_X0 t_code_X0_place) rfl rfl rfl (by decide +kernel) ⟨Nat.le_of_ble_eq_true rfl, Nat.le_of_ble_eq_true rfl⟩) hK hP hD hS hA [3] [0, 1, 2] [1, 2, 3, 0] rfl (by decide) (fun _ => rfl) (by decide) (ci := 0) rfl rfl rfl rfl hl.1 rfl (Nat.le_of_ble_eq_true rfl) dX1_dataSum_39 ⟨Nat.zero_le _, Nat.zero_le _⟩ (fun r u H locs hu2 hP hD hS => ?_)
        have hr39 := hu2
        have hr39 : r = nI ((dr_dd P o i row) * P + i) := hr39
        subst hr39
        have hP : va_P (dC, dI) vwCl [(aT, .inr (1, [.ref aS, .ref aW, .ref aM, .int (bI mk)])), (aW, .inl (cI, P * P, .inl w)), (aM, .inl (cB, P, .inl (fun z9 => bI (ms z9)))), (aS, .inr (0, [.int (nI P), .int (nI (P - 2)), .int (nI (P - 1)), .int (nI (P * (P - 2)))]))] H := hP
        have hD : va_D A [(aT, .inr (1, [.ref aS, .ref aW, .ref aM, .int (bI mk)])), (aW, .inl (cI, P * P, .inl w)), (aM, .inl (cB, P, .inl (fun z9 => bI (ms z9)))), (aS, .inr (0, [.int (nI P), .int (nI (P - 2)), .int (nI (P - 1)), .int (nI (P * (P - 2)))]))] := hD
        refine x_iald (f := w) hx hb hK hP 1 0 rfl rfl dX1_dataSum_42 (dr_pl (dr_dd_lt hp5) (by omega)) (by omega) ?_
        refine lv_ixor hx hb dX1_dataSum_43 ?_
        refine lv_istore_n hx hb dX1_dataSum_44 rfl hl (by decide) rfl (fun ls hl => ?_)
        have hl : lv_has ls 5 [(3, .int ((dr_sum P w o row i) ^^^ (w ((dr_dd P o i row) * P + i)))), (4, .int (nI i)), (2, .int (nI row)), (1, .int (nI o)), (0, .ref aT)] := hl
        refine lv_iinc (v := nI (i + 1)) hx hb dX1_dataSum_45 hl (k := 1) rfl (x_inc _) (by decide) rfl (fun ls hl => ?_)
        have hl : lv_has ls 5 [(4, .int (nI (i + 1))), (3, .int ((dr_sum P w o row i) ^^^ (w ((dr_dd P o i row) * P + i)))), (2, .int (nI row)), (1, .int (nI o)), (0, .ref aT)] := hl
        refine lv_goto (tgt := 5) hx hb dX1_dataSum_48 (by decide) ?_
        have e3 : (dr_sum P w o row (i + 1)) = ((dr_sum P w o row i) ^^^ (w ((dr_dd P o i row) * P + i))) := by first | rfl | (simp [h14]; done) | (simp [h14]; omega)
        exact ih5 (i + 1) ls H locs (by omega) (by omega) (by rw [e3]; exact lv_sub hl [0, 1, 2, 3, 4] rfl) hP hD hS
  have e4 : (dr_sum P w o row 0) = 0 := by first | rfl | (simp []; done) | (simp []; omega)
  exact lp5 (P - 2 - 0 + 1) 0 ls H locs (by omega) (by omega) (by rw [e4]; exact lv_sub hl [0, 1, 4, 3, 2] rfl) hP hD hS

abbrev rm_c_whole : Room := { frames := 2, cells := 0, slots := 0, locals := 45 }
set_option maxHeartbeats 4000000 in
set_option maxRecDepth 100000 in
theorem c_whole (l : Launch) (dC : Nat → ClassId) (dI : Nat → Nat → Nat) (cI cB cQ cJ : ClassId) (aT : Nat) (aS : Nat) (aW : Nat) (aM : Nat) (P : Nat) (w : Nat → Int32) (ms : Nat → Bool) (mk : Bool) (o : Nat) (row : Nat) (hp5 : dr_P P) (ho : o < P) (hrw : dr_row P row) : MG l yX1_isWhole (Cond.code yX1_isWhole cX1_isWhole 4 (some .boolean) :: TB) rm_c_whole (dC, dI) vwCl (TY cI cB cQ cJ) [.ref aT, .int (nI o), .int (nI row)] [(aT, .inr (1, [.ref aS, .ref aW, .ref aM, .int (bI mk)])), (aW, .inl (cI, P * P, .inl w)), (aM, .inl (cB, P, .inl (fun z9 => bI (ms z9)))), (aS, .inr (0, [.int (nI P), .int (nI (P - 2)), .int (nI (P - 1)), .int (nI (P * (P - 2)))]))] (fun (r : Int32) (u : Unit) => r = bI (dr_whole P ms o row)) (fun (u : Unit) => [(aT, .inr (1, [.ref aS, .ref aW, .ref aM, .int (bI mk)])), (aW, .inl (cI, P * P, .inl w)), (aM, .inl (cB, P, .inl (fun z9 => bI (ms z9)))), (aS, .inr (0, [.int (nI P), .int (nI (P - 2)), .int (nI (P - 1)), .int (nI (P * (P - 2)))]))]) := by
  refine MG.ofW (cc := cX1_isWhole) (maxL := 4) (rt := .boolean) (by decide +kernel) rfl (Nat.le_of_ble_eq_true rfl) ?_
  intro p e s m args below meth c A ls Q H locs hQ hx hb hml hr hlk hts hown hK hP hD hS hA hl
  have hts : ∀ w ∈ TB, w.before args s = true := fun w h => hts w (List.mem_cons_of_mem _ h)
  have hown : s.vm.findClass RX1 = some m.cls := hown
  have hl : lv_has ls 4 [(0, .ref aT), (1, .int (nI o)), (2, .int (nI row))] := hl
  have hP : va_P (dC, dI) vwCl [(aT, .inr (1, [.ref aS, .ref aW, .ref aM, .int (bI mk)])), (aW, .inl (cI, P * P, .inl w)), (aM, .inl (cB, P, .inl (fun z9 => bI (ms z9)))), (aS, .inr (0, [.int (nI P), .int (nI (P - 2)), .int (nI (P - 1)), .int (nI (P * (P - 2)))]))] H := hP
  have hD : va_D A [(aT, .inr (1, [.ref aS, .ref aW, .ref aM, .int (bI mk)])), (aW, .inl (cI, P * P, .inl w)), (aM, .inl (cB, P, .inl (fun z9 => bI (ms z9)))), (aS, .inr (0, [.int (nI P), .int (nI (P - 2)), .int (nI (P - 1)), .int (nI (P * (P - 2)))]))] := hD
  have hp := hp5.le
  have hpp := dr_PP hp5
  have hpq := dr_PP2 hp5
  have hrl : row < P := by rcases hrw with rfl | rfl <;> omega
  refine lv_iconst (v := nI 0) hx hb dX1_isWhole_0 (by decide) ?_
  refine lv_istore_n hx hb dX1_isWhole_1 rfl hl (by decide) rfl (fun ls hl => ?_)
  have hl : lv_has ls 4 [(3, .int (nI 0)), (0, .ref aT), (1, .int (nI o)), (2, .int (nI row))] := hl
  have lp2 : ∀ (n9 : Nat) (i : Nat) (ls : Array Slot) (H : Heap) (locs : List Loc), P - 2 - i < n9 → (i ≤ P - 2) → (dr_any (fun k => ms (dr_dd P o k row)) i = false) → lv_has ls 4 [(3, .int (nI i)), (2, .int (nI row)), (1, .int (nI o)), (0, .ref aT)] → va_P (dC, dI) vwCl [(aT, .inr (1, [.ref aS, .ref aW, .ref aM, .int (bI mk)])), (aW, .inl (cI, P * P, .inl w)), (aM, .inl (cB, P, .inl (fun z9 => bI (ms z9)))), (aS, .inr (0, [.int (nI P), .int (nI (P - 2)), .int (nI (P - 1)), .int (nI (P * (P - 2)))]))] H → va_D A [(aT, .inr (1, [.ref aS, .ref aW, .ref aM, .int (bI mk)])), (aW, .inl (cI, P * P, .inl w)), (aM, .inl (cB, P, .inl (fun z9 => bI (ms z9)))), (aS, .inr (0, [.int (nI P), .int (nI (P - 2)), .int (nI (P - 1)), .int (nI (P * (P - 2)))]))] → va_S A s.heap H locs → W p l e rm_c_whole s m args below meth c H locs 0 0 Q (F0 m 2 ls []) := by
    intro n9
    induction n9 with
    | zero => intro i ls H locs hn9; omega
    | succ n9 ih2 =>
      intro i ls H locs hn9 hi ha hl hP hD hS
      refine lv_iload_n hx hb dX1_isWhole_2 rfl (lv_at hl 0 rfl) ?_
      refine lv_aload_n hx hb dX1_isWhole_3 rfl (lv_at hl 3 rfl) ?_
      refine va_get (D := (dC, dI)) (ci := 1) (v := .ref aS) (C := RX1) (T := TX1) (N := 4) hx hb hts inX1 hown hK hP 0 rfl rfl 0 (by decide) (hts _ t_fX1_9) (fun _ h9 => h9) rfl dX1_isWhole_4 ?_
      refine va_get (D := (dC, dI)) (ci := 0) (v := .int (nI (P - 2))) (C := RX0) (T := TX0) (N := 4) hx hb hts inX0 hown hK hP 3 rfl rfl 1 (by decide) (hts _ t_fX1_41) (fun _ h9 => h9) rfl dX1_isWhole_7 ?_
      refine x_cge (tgt := 39) hx hb dX1_isWhole_10 (by decide) (by omega) (by omega) (fun h10 => ?_) (fun h10 => ?_)
      · -- 10t
        refine lv_aload_n hx hb dX1_isWhole_39 rfl (lv_at hl 3 rfl) ?_
        refine va_get (D := (dC, dI)) (ci := 1) (v := .ref aM) (C := RX1) (T := TX1) (N := 4) hx hb hts inX1 hown hK hP 0 rfl rfl 2 (by decide) (hts _ t_fX1_25) (fun _ h9 => h9) rfl dX1_isWhole_40 ?_
        refine lv_iload_n hx hb dX1_isWhole_43 rfl (lv_at hl 2 rfl) ?_
        refine x_zald (g := ms) hx hb hK hP 2 1 rfl rfl dX1_isWhole_44 (by omega) (by omega) ?_
        refine x_ifT (tgt := 52) hx hb dX1_isWhole_45 (by decide) (fun h45 => ?_) (fun h45 => ?_)
        · -- 45t
          refine lv_iconst (v := bI false) hx hb dX1_isWhole_52 (by decide) ?_
          exact x_zret (D := (dC, dI)) (cl := vwCl) (A := A) () hQ hx hb hr hlk hP hD hS dX1_isWhole_53 (by have e9 : i = P - 2 := (by omega); rw [e9] at ha; simp [dr_whole, ha, h45])
        · -- 45f
          refine lv_iconst (v := bI true) hx hb dX1_isWhole_48 (by decide) ?_
          refine lv_goto (tgt := 53) hx hb dX1_isWhole_49 (by decide) ?_
          exact x_zret (D := (dC, dI)) (cl := vwCl) (A := A) () hQ hx hb hr hlk hP hD hS dX1_isWhole_53 (by have e9 : i = P - 2 := (by omega); rw [e9] at ha; simp [dr_whole, ha, h45])
      · -- 10f
        refine lv_aload_n hx hb dX1_isWhole_13 rfl (lv_at hl 3 rfl) ?_
        refine va_get (D := (dC, dI)) (ci := 1) (v := .ref aM) (C := RX1) (T := TX1) (N := 4) hx hb hts inX1 hown hK hP 0 rfl rfl 2 (by decide) (hts _ t_fX1_25) (fun _ h9 => h9) rfl dX1_isWhole_14 ?_
        refine lv_aload_n hx hb dX1_isWhole_17 rfl (lv_at hl 3 rfl) ?_
        refine va_get (D := (dC, dI)) (ci := 1) (v := .ref aS) (C := RX1) (T := TX1) (N := 4) hx hb hts inX1 hown hK hP 0 rfl rfl 0 (by decide) (hts _ t_fX1_9) (fun _ h9 => h9) rfl dX1_isWhole_18 ?_
        refine lv_iload_n hx hb dX1_isWhole_21 rfl (lv_at hl 2 rfl) ?_
        refine lv_iload_n hx hb dX1_isWhole_22 rfl (lv_at hl 0 rfl) ?_
        refine lv_iload_n hx hb dX1_isWhole_23 rfl (lv_at hl 1 rfl) ?_
        refine gV (wr := [(aT, .inr (1, [.ref aS, .ref aW, .ref aM, .int (bI mk)])), (aW, .inl (cI, P * P, .inl w)), (aM, .inl (cB, P, .inl (fun z9 => bI (ms z9))))]) (pre := [(aT, .inr (1, [.ref aS, .ref aW, .ref aM, .int (bI mk)])), (aW, .inl (cI, P * P, .inl w)), (aM, .inl (cB, P, .inl (fun z9 => bI (ms z9)))), (aS, .inr (0, [.int (nI P), .int (nI (P - 2)), .int (nI (P - 1)), .int (nI (P * (P - 2)))]))]) (tl := []) (G := fun (u : Unit) => [(aT, .inr (1, [.ref aS, .ref aW, .ref aM, .int (bI mk)])), (aW, .inl (cI, P * P, .inl w)), (aM, .inl (cB, P, .inl (fun z9 => bI (ms z9)))), (aS, .inr (0, [.int (nI P), .int (nI (P - 2)), .int (nI (P - 1)), .int (nI (P * (P - 2)))]))]) (b := aS) (As := [.int (nI o), .int (nI i), .int (nI row)]) (rst := [.ref aM]) ⟨hx, hb, hml, hown, hts⟩ (c_dd l dC dI cI cB cQ cJ aS P o i row hp5 ho (by omega) hrw) (cwV 3 hts (gdV t_mX1_57 t_inst_X0_dataDrive t_sel_X0_dataDrive t_ini_X0 t_code_X0_dataDrive) rfl rfl rfl (by decide +kernel) ⟨Nat.le_of_ble_eq_true rfl, Nat.le_of_ble_eq_true rfl⟩) hK hP hD hS hA [3] [0, 1, 2] [1, 2, 3, 0] rfl (by decide) (fun _ => rfl) (by decide) (ci := 0) rfl rfl rfl rfl hl.1 rfl (Nat.le_of_ble_eq_true rfl) dX1_isWhole_24 ⟨Nat.zero_le _, Nat.zero_le _⟩ (fun r u H locs hu1 hP hD hS => ?_)
        have hr24 := hu1
        have hr24 : r = nI (dr_dd P o i row) := hr24
        subst hr24
        have hP : va_P (dC, dI) vwCl [(aT, .inr (1, [.ref aS, .ref aW, .ref aM, .int (bI mk)])), (aW, .inl (cI, P * P, .inl w)), (aM, .inl (cB, P, .inl (fun z9 => bI (ms z9)))), (aS, .inr (0, [.int (nI P), .int (nI (P - 2)), .int (nI (P - 1)), .int (nI (P * (P - 2)))]))] H := hP
        have hD : va_D A [(aT, .inr (1, [.ref aS, .ref aW, .ref aM, .int (bI mk)])), (aW, .inl (cI, P * P, .inl w)), (aM, .inl (cB, P, .inl (fun z9 => bI (ms z9)))), (aS, .inr (0, [.int (nI P), .int (nI (P - 2)), .int (nI (P - 1)), .int (nI (P * (P - 2)))]))] := hD
        refine x_zald (g := ms) hx hb hK hP 2 1 rfl rfl dX1_isWhole_27 (dr_dd_lt hp5) (by omega) ?_
        refine x_ifF (tgt := 33) hx hb dX1_isWhole_28 (by decide) (fun h28 => ?_) (fun h28 => ?_)
        · -- 28t
          refine lv_iinc (v := nI (i + 1)) hx hb dX1_isWhole_33 hl (k := 0) rfl (x_inc _) (by decide) rfl (fun ls hl => ?_)
          have hl : lv_has ls 4 [(3, .int (nI (i + 1))), (2, .int (nI row)), (1, .int (nI o)), (0, .ref aT)] := hl
          refine lv_goto (tgt := 2) hx hb dX1_isWhole_36 (by decide) ?_
          exact ih2 (i + 1) ls H locs (by omega) (by omega) (by first | rfl | simp [dr_any, ha, h28]) (lv_sub hl [0, 1, 2, 3] rfl) hP hD hS
        · -- 28f
          refine lv_iconst (v := bI false) hx hb dX1_isWhole_31 (by decide) ?_
          exact x_zret (D := (dC, dI)) (cl := vwCl) (A := A) () hQ hx hb hr hlk hP hD hS dX1_isWhole_32 (by rw [dr_whole, dr_any_true (i := i) (by omega) h28]; rfl)
  exact lp2 (P - 2 - 0 + 1) 0 ls H locs (by omega) (by omega) (by first | rfl | simp [dr_any, ha, h28]) (lv_sub hl [0, 3, 2, 1] rfl) hP hD hS

abbrev rm_c_agrees : Room := { frames := 3, cells := 0, slots := 0, locals := 69 }
set_option maxHeartbeats 4000000 in
set_option maxRecDepth 100000 in
theorem c_agrees (l : Launch) (dC : Nat → ClassId) (dI : Nat → Nat → Nat) (cI cB cQ cJ : ClassId) (aT : Nat) (aS : Nat) (aW : Nat) (aM : Nat) (P : Nat) (w : Nat → Int32) (ms : Nat → Bool) (mk : Bool) (o : Nat) (row : Nat) (hp5 : dr_P P) (ho : o < P) (hrw : dr_row P row) : MG l yX1_agrees (Cond.code yX1_agrees cX1_agrees 3 (some .boolean) :: TB) rm_c_agrees (dC, dI) vwCl (TY cI cB cQ cJ) [.ref aT, .int (nI o), .int (nI row)] [(aT, .inr (1, [.ref aS, .ref aW, .ref aM, .int (bI mk)])), (aW, .inl (cI, P * P, .inl w)), (aM, .inl (cB, P, .inl (fun z9 => bI (ms z9)))), (aS, .inr (0, [.int (nI P), .int (nI (P - 2)), .int (nI (P - 1)), .int (nI (P * (P - 2)))]))] (fun (r : Int32) (u : Unit) => r = bI (dr_ag P ms w o row)) (fun (u : Unit) => [(aT, .inr (1, [.ref aS, .ref aW, .ref aM, .int (bI mk)])), (aW, .inl (cI, P * P, .inl w)), (aM, .inl (cB, P, .inl (fun z9 => bI (ms z9)))), (aS, .inr (0, [.int (nI P), .int (nI (P - 2)), .int (nI (P - 1)), .int (nI (P * (P - 2)))]))]) := by
  refine MG.ofW (cc := cX1_agrees) (maxL := 3) (rt := .boolean) (by decide +kernel) rfl (Nat.le_of_ble_eq_true rfl) ?_
  intro p e s m args below meth c A ls Q H locs hQ hx hb hml hr hlk hts hown hK hP hD hS hA hl
  have hts : ∀ w ∈ TB, w.before args s = true := fun w h => hts w (List.mem_cons_of_mem _ h)
  have hown : s.vm.findClass RX1 = some m.cls := hown
  have hl : lv_has ls 3 [(0, .ref aT), (1, .int (nI o)), (2, .int (nI row))] := hl
  have hP : va_P (dC, dI) vwCl [(aT, .inr (1, [.ref aS, .ref aW, .ref aM, .int (bI mk)])), (aW, .inl (cI, P * P, .inl w)), (aM, .inl (cB, P, .inl (fun z9 => bI (ms z9)))), (aS, .inr (0, [.int (nI P), .int (nI (P - 2)), .int (nI (P - 1)), .int (nI (P * (P - 2)))]))] H := hP
  have hD : va_D A [(aT, .inr (1, [.ref aS, .ref aW, .ref aM, .int (bI mk)])), (aW, .inl (cI, P * P, .inl w)), (aM, .inl (cB, P, .inl (fun z9 => bI (ms z9)))), (aS, .inr (0, [.int (nI P), .int (nI (P - 2)), .int (nI (P - 1)), .int (nI (P * (P - 2)))]))] := hD
  have hp := hp5.le
  have hpp := dr_PP hp5
  have hpq := dr_PP2 hp5
  have hrl : row < P := by rcases hrw with rfl | rfl <;> omega
  refine lv_aload_n hx hb dX1_agrees_0 rfl (lv_at hl 0 rfl) ?_
  refine lv_iload_n hx hb dX1_agrees_1 rfl (lv_at hl 1 rfl) ?_
  refine lv_iload_n hx hb dX1_agrees_2 rfl (lv_at hl 2 rfl) ?_
  refine gV (wr := []) (pre := [(aT, .inr (1, [.ref aS, .ref aW, .ref aM, .int (bI mk)])), (aW, .inl (cI, P * P, .inl w)), (aM, .inl (cB, P, .inl (fun z9 => bI (ms z9)))), (aS, .inr (0, [.int (nI P), .int (nI (P - 2)), .int (nI (P - 1)), .int (nI (P * (P - 2)))]))]) (tl := []) (G := fun (u : Unit) => [(aT, .inr (1, [.ref aS, .ref aW, .ref aM, .int (bI mk)])), (aW, .inl (cI, P * P, .inl w)), (aM, .inl (cB, P, .inl (fun z9 => bI (ms z9)))), (aS, .inr (0, [.int (nI P), .int (nI (P - 2)), .int (nI (P - 1)), .int (nI (P * (P - 2)))]))]) (b := aT) (As := [.int (nI o), .int (nI row)]) (rst := []) ⟨hx, hb, hml, hown, hts⟩ (c_whole l dC dI cI cB cQ cJ aT aS aW aM P w ms mk o row hp5 ho hrw) (cwV 2 hts (gdV t_mX1_54 t_inst_X1_isWhole t_sel_X1_isWhole t_ini_X1 t_code_X1_isWhole) rfl rfl rfl (by decide +kernel) ⟨Nat.le_of_ble_eq_true rfl, Nat.le_of_ble_eq_true rfl⟩) hK hP hD hS hA [0, 1, 2, 3] [] [0, 1, 2, 3] rfl (by decide) (fun _ => rfl) (by decide) (ci := 1) rfl rfl rfl rfl hl.1 rfl (Nat.le_of_ble_eq_true rfl) dX1_agrees_3 ⟨Nat.zero_le _, Nat.zero_le _⟩ (fun r u H locs hu1 hP hD hS => ?_)
  have hr3 := hu1
  have hr3 : r = bI (dr_whole P ms o row) := hr3
  subst hr3
  have hP : va_P (dC, dI) vwCl [(aT, .inr (1, [.ref aS, .ref aW, .ref aM, .int (bI mk)])), (aW, .inl (cI, P * P, .inl w)), (aM, .inl (cB, P, .inl (fun z9 => bI (ms z9)))), (aS, .inr (0, [.int (nI P), .int (nI (P - 2)), .int (nI (P - 1)), .int (nI (P * (P - 2)))]))] H := hP
  have hD : va_D A [(aT, .inr (1, [.ref aS, .ref aW, .ref aM, .int (bI mk)])), (aW, .inl (cI, P * P, .inl w)), (aM, .inl (cB, P, .inl (fun z9 => bI (ms z9)))), (aS, .inr (0, [.int (nI P), .int (nI (P - 2)), .int (nI (P - 1)), .int (nI (P * (P - 2)))]))] := hD
  refine x_ifF (tgt := 36) hx hb dX1_agrees_6 (by decide) (fun h6 => ?_) (fun h6 => ?_)
  · -- 6t
    refine lv_iconst (v := bI false) hx hb dX1_agrees_36 (by decide) ?_
    exact x_zret (D := (dC, dI)) (cl := vwCl) (A := A) () hQ hx hb hr hlk hP hD hS dX1_agrees_37 (by first | rfl | (simp [dr_ag, h6]; done) | (simp [dr_ag, h6]; omega))
  · -- 6f
    refine lv_aload_n hx hb dX1_agrees_9 rfl (lv_at hl 0 rfl) ?_
    refine va_get (D := (dC, dI)) (ci := 1) (v := .ref aW) (C := RX1) (T := TX1) (N := 4) hx hb hts inX1 hown hK hP 0 rfl rfl 1 (by decide) (hts _ t_fX1_21) (fun _ h9 => h9) rfl dX1_agrees_10 ?_
    refine lv_aload_n hx hb dX1_agrees_13 rfl (lv_at hl 0 rfl) ?_
    refine va_get (D := (dC, dI)) (ci := 1) (v := .ref aS) (C := RX1) (T := TX1) (N := 4) hx hb hts inX1 hown hK hP 0 rfl rfl 0 (by decide) (hts _ t_fX1_9) (fun _ h9 => h9) rfl dX1_agrees_14 ?_
    refine lv_iload_n hx hb dX1_agrees_17 rfl (lv_at hl 1 rfl) ?_
    refine lv_iload_n hx hb dX1_agrees_18 rfl (lv_at hl 2 rfl) ?_
    refine gV (wr := [(aT, .inr (1, [.ref aS, .ref aW, .ref aM, .int (bI mk)])), (aW, .inl (cI, P * P, .inl w)), (aM, .inl (cB, P, .inl (fun z9 => bI (ms z9))))]) (pre := [(aT, .inr (1, [.ref aS, .ref aW, .ref aM, .int (bI mk)])), (aW, .inl (cI, P * P, .inl w)), (aM, .inl (cB, P, .inl (fun z9 => bI (ms z9)))), (aS, .inr (0, [.int (nI P), .int (nI (P - 2)), .int (nI (P - 1)), .int (nI (P * (P - 2)))]))]) (tl := []) (G := fun (u : Unit) => [(aT, .inr (1, [.ref aS, .ref aW, .ref aM, .int (bI mk)])), (aW, .inl (cI, P * P, .inl w)), (aM, .inl (cB, P, .inl (fun z9 => bI (ms z9)))), (aS, .inr (0, [.int (nI P), .int (nI (P - 2)), .int (nI (P - 1)), .int (nI (P * (P - 2)))]))]) (b := aS) (As := [.int (nI o), .int (nI row)]) (rst := [.ref aW]) ⟨hx, hb, hml, hown, hts⟩ (c_place l dC dI cI cB cQ cJ aS P o row ) (cwV 2 hts (gdV t_mX1_37 t_inst_X0_place t_sel_X0_place t_ini_X0 t_code_X0_place) rfl rfl rfl (by decide +kernel) ⟨Nat.le_of_ble_eq_true rfl, Nat.le_of_ble_eq_true rfl⟩) hK hP hD hS hA [3] [0, 1, 2] [1, 2, 3, 0] rfl (by decide) (fun _ => rfl) (by decide) (ci := 0) rfl rfl rfl rfl hl.1 rfl (Nat.le_of_ble_eq_true rfl) dX1_agrees_19 ⟨Nat.zero_le _, Nat.zero_le _⟩ (fun r u H locs hu2 hP hD hS => ?_)
    have hr19 := hu2
    have hr19 : r = nI (o * P + row) := hr19
    subst hr19
    have hP : va_P (dC, dI) vwCl [(aT, .inr (1, [.ref aS, .ref aW, .ref aM, .int (bI mk)])), (aW, .inl (cI, P * P, .inl w)), (aM, .inl (cB, P, .inl (fun z9 => bI (ms z9)))), (aS, .inr (0, [.int (nI P), .int (nI (P - 2)), .int (nI (P - 1)), .int (nI (P * (P - 2)))]))] H := hP
    have hD : va_D A [(aT, .inr (1, [.ref aS, .ref aW, .ref aM, .int (bI mk)])), (aW, .inl (cI, P * P, .inl w)), (aM, .inl (cB, P, .inl (fun z9 => bI (ms z9)))), (aS, .inr (0, [.int (nI P), .int (nI (P - 2)), .int (nI (P - 1)), .int (nI (P * (P - 2)))]))] := hD
    refine x_iald (f := w) hx hb hK hP 1 0 rfl rfl dX1_agrees_22 (dr_pl ho hrl) (by omega) ?_
    refine lv_aload_n hx hb dX1_agrees_23 rfl (lv_at hl 0 rfl) ?_
    refine lv_iload_n hx hb dX1_agrees_24 rfl (lv_at hl 1 rfl) ?_
    refine lv_iload_n hx hb dX1_agrees_25 rfl (lv_at hl 2 rfl) ?_
    refine gV (wr := []) (pre := [(aT, .inr (1, [.ref aS, .ref aW, .ref aM, .int (bI mk)])), (aW, .inl (cI, P * P, .inl w)), (aM, .inl (cB, P, .inl (fun z9 => bI (ms z9)))), (aS, .inr (0, [.int (nI P), .int (nI (P - 2)), .int (nI (P - 1)), .int (nI (P * (P - 2)))]))]) (tl := []) (G := fun (u : Unit) => [(aT, .inr (1, [.ref aS, .ref aW, .ref aM, .int (bI mk)])), (aW, .inl (cI, P * P, .inl w)), (aM, .inl (cB, P, .inl (fun z9 => bI (ms z9)))), (aS, .inr (0, [.int (nI P), .int (nI (P - 2)), .int (nI (P - 1)), .int (nI (P * (P - 2)))]))]) (b := aT) (As := [.int (nI o), .int (nI row)]) (rst := [.int (w (o * P + row))]) ⟨hx, hb, hml, hown, hts⟩ (c_sum l dC dI cI cB cQ cJ aT aS aW aM P w ms mk o row hp5 ho hrw) (cwV 2 hts (gdV t_mX1_44 t_inst_X1_dataSum t_sel_X1_dataSum t_ini_X1 t_code_X1_dataSum) rfl rfl rfl (by decide +kernel) ⟨Nat.le_of_ble_eq_true rfl, Nat.le_of_ble_eq_true rfl⟩) hK hP hD hS hA [0, 1, 2, 3] [] [0, 1, 2, 3] rfl (by decide) (fun _ => rfl) (by decide) (ci := 1) rfl rfl rfl rfl hl.1 rfl (Nat.le_of_ble_eq_true rfl) dX1_agrees_26 ⟨Nat.zero_le _, Nat.zero_le _⟩ (fun r u H locs hu3 hP hD hS => ?_)
    have hr26 := hu3
    have hr26 : r = dr_sum P w o row (P - 2) := hr26
    subst hr26
    have hP : va_P (dC, dI) vwCl [(aT, .inr (1, [.ref aS, .ref aW, .ref aM, .int (bI mk)])), (aW, .inl (cI, P * P, .inl w)), (aM, .inl (cB, P, .inl (fun z9 => bI (ms z9)))), (aS, .inr (0, [.int (nI P), .int (nI (P - 2)), .int (nI (P - 1)), .int (nI (P * (P - 2)))]))] H := hP
    have hD : va_D A [(aT, .inr (1, [.ref aS, .ref aW, .ref aM, .int (bI mk)])), (aW, .inl (cI, P * P, .inl w)), (aM, .inl (cB, P, .inl (fun z9 => bI (ms z9)))), (aS, .inr (0, [.int (nI P), .int (nI (P - 2)), .int (nI (P - 1)), .int (nI (P * (P - 2)))]))] := hD
    refine lv_icmp_ne (tgt := 36) hx hb dX1_agrees_29 (by decide) (fun h29 => ?_) (fun h29 => ?_)
    · -- 29t
      refine lv_iconst (v := bI false) hx hb dX1_agrees_36 (by decide) ?_
      exact x_zret (D := (dC, dI)) (cl := vwCl) (A := A) () hQ hx hb hr hlk hP hD hS dX1_agrees_37 (by first | rfl | (simp [dr_ag, h6, h29]; done) | (simp [dr_ag, h6, h29]; omega))
    · -- 29f
      refine lv_iconst (v := bI true) hx hb dX1_agrees_32 (by decide) ?_
      refine lv_goto (tgt := 37) hx hb dX1_agrees_33 (by decide) ?_
      exact x_zret (D := (dC, dI)) (cl := vwCl) (A := A) () hQ hx hb hr hlk hP hD hS dX1_agrees_37 (by first | rfl | (simp [dr_ag, h6, h29]; done) | (simp [dr_ag, h6, h29]; omega))

abbrev rm_c_renew : Room := { frames := 3, cells := 0, slots := 0, locals := 69 }
set_option maxHeartbeats 4000000 in
set_option maxRecDepth 100000 in
theorem c_renew (l : Launch) (dC : Nat → ClassId) (dI : Nat → Nat → Nat) (cI cB cQ cJ : ClassId) (aT : Nat) (aS : Nat) (aW : Nat) (aM : Nat) (P : Nat) (w : Nat → Int32) (ms : Nat → Bool) (mk : Bool) (hp5 : dr_P P) : MV l yX1_renewParities (Cond.code yX1_renewParities cX1_renewParities 2 none :: TB) rm_c_renew (dC, dI) vwCl (TY cI cB cQ cJ) [.ref aT] [(aT, .inr (1, [.ref aS, .ref aW, .ref aM, .int (bI mk)])), (aW, .inl (cI, P * P, .inl w)), (aM, .inl (cB, P, .inl (fun z9 => bI (ms z9)))), (aS, .inr (0, [.int (nI P), .int (nI (P - 2)), .int (nI (P - 1)), .int (nI (P * (P - 2)))]))] (fun (u : Unit) => True) (fun (u : Unit) => [(aT, .inr (1, [.ref aS, .ref aW, .ref aM, .int (bI mk)])), (aW, .inl (cI, P * P, .inl (dr_rn P w P))), (aM, .inl (cB, P, .inl (fun z9 => bI (ms z9)))), (aS, .inr (0, [.int (nI P), .int (nI (P - 2)), .int (nI (P - 1)), .int (nI (P * (P - 2)))]))]) := by
  refine MV.ofW (cc := cX1_renewParities) (maxL := 2) (by decide +kernel) rfl (Nat.le_of_ble_eq_true rfl) ?_
  intro p e s m args below meth c A ls Q H locs hQ hx hb hml hr hlk hts hown hK hP hD hS hA hl
  have hts : ∀ w ∈ TB, w.before args s = true := fun w h => hts w (List.mem_cons_of_mem _ h)
  have hown : s.vm.findClass RX1 = some m.cls := hown
  have hl : lv_has ls 2 [(0, .ref aT)] := hl
  have hP : va_P (dC, dI) vwCl [(aT, .inr (1, [.ref aS, .ref aW, .ref aM, .int (bI mk)])), (aW, .inl (cI, P * P, .inl w)), (aM, .inl (cB, P, .inl (fun z9 => bI (ms z9)))), (aS, .inr (0, [.int (nI P), .int (nI (P - 2)), .int (nI (P - 1)), .int (nI (P * (P - 2)))]))] H := hP
  have hD : va_D A [(aT, .inr (1, [.ref aS, .ref aW, .ref aM, .int (bI mk)])), (aW, .inl (cI, P * P, .inl w)), (aM, .inl (cB, P, .inl (fun z9 => bI (ms z9)))), (aS, .inr (0, [.int (nI P), .int (nI (P - 2)), .int (nI (P - 1)), .int (nI (P * (P - 2)))]))] := hD
  have hp := hp5.le
  have hpp := dr_PP hp5
  have hpq := dr_PP2 hp5
  refine lv_iconst (v := nI 0) hx hb dX1_renewParities_0 (by decide) ?_
  refine lv_istore_n hx hb dX1_renewParities_1 rfl hl (by decide) rfl (fun ls hl => ?_)
  have hl : lv_has ls 2 [(1, .int (nI 0)), (0, .ref aT)] := hl
  have lp2 : ∀ (n9 : Nat) (i : Nat) (ls : Array Slot) (H : Heap) (locs : List Loc), P - i < n9 → (i ≤ P) → lv_has ls 2 [(1, .int (nI i)), (0, .ref aT)] → va_P (dC, dI) vwCl [(aT, .inr (1, [.ref aS, .ref aW, .ref aM, .int (bI mk)])), (aW, .inl (cI, P * P, .inl (dr_rn P w i))), (aM, .inl (cB, P, .inl (fun z9 => bI (ms z9)))), (aS, .inr (0, [.int (nI P), .int (nI (P - 2)), .int (nI (P - 1)), .int (nI (P * (P - 2)))]))] H → va_D A [(aT, .inr (1, [.ref aS, .ref aW, .ref aM, .int (bI mk)])), (aW, .inl (cI, P * P, .inl (dr_rn P w i))), (aM, .inl (cB, P, .inl (fun z9 => bI (ms z9)))), (aS, .inr (0, [.int (nI P), .int (nI (P - 2)), .int (nI (P - 1)), .int (nI (P * (P - 2)))]))] → va_S A s.heap H locs → W p l e rm_c_renew s m args below meth c H locs 0 0 Q (F0 m 2 ls []) := by
    intro n9
    induction n9 with
    | zero => intro i ls H locs hn9; omega
    | succ n9 ih2 =>
      intro i ls H locs hn9 hi hl hP hD hS
      refine lv_iload_n hx hb dX1_renewParities_2 rfl (lv_at hl 0 rfl) ?_
      refine lv_aload_n hx hb dX1_renewParities_3 rfl (lv_at hl 1 rfl) ?_
      refine va_get (D := (dC, dI)) (ci := 1) (v := .ref aS) (C := RX1) (T := TX1) (N := 4) hx hb hts inX1 hown hK hP 0 rfl rfl 0 (by decide) (hts _ t_fX1_9) (fun _ h9 => h9) rfl dX1_renewParities_4 ?_
      refine va_get (D := (dC, dI)) (ci := 0) (v := .int (nI P)) (C := RX0) (T := TX0) (N := 4) hx hb hts inX0 hown hK hP 3 rfl rfl 0 (by decide) (hts _ t_fX1_15) (fun _ h9 => h9) rfl dX1_renewParities_7 ?_
      refine x_cge (tgt := 83) hx hb dX1_renewParities_10 (by decide) (by omega) (by omega) (fun h10 => ?_) (fun h10 => ?_)
      · -- 10t
        have hie10 : i = P := by omega
        try rw [hie10] at hl
        try rw [hie10] at hP
        try rw [hie10] at hD
        have hl : lv_has ls 2 [(1, .int (nI P)), (0, .ref aT)] := hl
        have hP : va_P (dC, dI) vwCl [(aT, .inr (1, [.ref aS, .ref aW, .ref aM, .int (bI mk)])), (aW, .inl (cI, P * P, .inl (dr_rn P w P))), (aM, .inl (cB, P, .inl (fun z9 => bI (ms z9)))), (aS, .inr (0, [.int (nI P), .int (nI (P - 2)), .int (nI (P - 1)), .int (nI (P * (P - 2)))]))] H := hP
        have hD : va_D A [(aT, .inr (1, [.ref aS, .ref aW, .ref aM, .int (bI mk)])), (aW, .inl (cI, P * P, .inl (dr_rn P w P))), (aM, .inl (cB, P, .inl (fun z9 => bI (ms z9)))), (aS, .inr (0, [.int (nI P), .int (nI (P - 2)), .int (nI (P - 1)), .int (nI (P * (P - 2)))]))] := hD
        exact x_vret (D := (dC, dI)) (cl := vwCl) (A := A) () hQ hx hb hr hlk hP hD hS dX1_renewParities_83 trivial
      · -- 10f
        refine lv_aload_n hx hb dX1_renewParities_13 rfl (lv_at hl 1 rfl) ?_
        refine va_get (D := (dC, dI)) (ci := 1) (v := .ref aW) (C := RX1) (T := TX1) (N := 4) hx hb hts inX1 hown hK hP 0 rfl rfl 1 (by decide) (hts _ t_fX1_21) (fun _ h9 => h9) rfl dX1_renewParities_14 ?_
        refine lv_aload_n hx hb dX1_renewParities_17 rfl (lv_at hl 1 rfl) ?_
        refine va_get (D := (dC, dI)) (ci := 1) (v := .ref aS) (C := RX1) (T := TX1) (N := 4) hx hb hts inX1 hown hK hP 0 rfl rfl 0 (by decide) (hts _ t_fX1_9) (fun _ h9 => h9) rfl dX1_renewParities_18 ?_
        refine lv_iload_n hx hb dX1_renewParities_21 rfl (lv_at hl 0 rfl) ?_
        refine lv_aload_n hx hb dX1_renewParities_22 rfl (lv_at hl 1 rfl) ?_
        refine va_get (D := (dC, dI)) (ci := 1) (v := .ref aS) (C := RX1) (T := TX1) (N := 4) hx hb hts inX1 hown hK hP 0 rfl rfl 0 (by decide) (hts _ t_fX1_9) (fun _ h9 => h9) rfl dX1_renewParities_23 ?_
        refine va_get (D := (dC, dI)) (ci := 0) (v := .int (nI (P - 2))) (C := RX0) (T := TX0) (N := 4) hx hb hts inX0 hown hK hP 3 rfl rfl 1 (by decide) (hts _ t_fX1_41) (fun _ h9 => h9) rfl dX1_renewParities_26 ?_
        refine gV (wr := [(aT, .inr (1, [.ref aS, .ref aW, .ref aM, .int (bI mk)])), (aW, .inl (cI, P * P, .inl (dr_rn P w i))), (aM, .inl (cB, P, .inl (fun z9 => bI (ms z9))))]) (pre := [(aT, .inr (1, [.ref aS, .ref aW, .ref aM, .int (bI mk)])), (aW, .inl (cI, P * P, .inl (dr_rn P w i))), (aM, .inl (cB, P, .inl (fun z9 => bI (ms z9)))), (aS, .inr (0, [.int (nI P), .int (nI (P - 2)), .int (nI (P - 1)), .int (nI (P * (P - 2)))]))]) (tl := []) (G := fun (u : Unit) => [(aT, .inr (1, [.ref aS, .ref aW, .ref aM, .int (bI mk)])), (aW, .inl (cI, P * P, .inl (dr_rn P w i))), (aM, .inl (cB, P, .inl (fun z9 => bI (ms z9)))), (aS, .inr (0, [.int (nI P), .int (nI (P - 2)), .int (nI (P - 1)), .int (nI (P * (P - 2)))]))]) (b := aS) (As := [.int (nI i), .int (nI (P - 2))]) (rst := [.ref aW]) ⟨hx, hb, hml, hown, hts⟩ (c_place l dC dI cI cB cQ cJ aS P i (P - 2) ) (cwV 2 hts (gdV t_mX1_37 t_inst_X0_place t_sel_X0_place t_ini_X0 t_code_X0_place) rfl rfl rfl (by decide +kernel) ⟨Nat.le_of_ble_eq_true rfl, Nat.le_of_ble_eq_true rfl⟩) hK hP hD hS hA [3] [0, 1, 2] [1, 2, 3, 0] rfl (by decide) (fun _ => rfl) (by decide) (ci := 0) rfl rfl rfl rfl hl.1 rfl (Nat.le_of_ble_eq_true rfl) dX1_renewParities_29 ⟨Nat.zero_le _, Nat.zero_le _⟩ (fun r u H locs hu1 hP hD hS => ?_)
        have hr29 := hu1
        have hr29 : r = nI (i * P + (P - 2)) := hr29
        subst hr29
        have hP : va_P (dC, dI) vwCl [(aT, .inr (1, [.ref aS, .ref aW, .ref aM, .int (bI mk)])), (aW, .inl (cI, P * P, .inl (dr_rn P w i))), (aM, .inl (cB, P, .inl (fun z9 => bI (ms z9)))), (aS, .inr (0, [.int (nI P), .int (nI (P - 2)), .int (nI (P - 1)), .int (nI (P * (P - 2)))]))] H := hP
        have hD : va_D A [(aT, .inr (1, [.ref aS, .ref aW, .ref aM, .int (bI mk)])), (aW, .inl (cI, P * P, .inl (dr_rn P w i))), (aM, .inl (cB, P, .inl (fun z9 => bI (ms z9)))), (aS, .inr (0, [.int (nI P), .int (nI (P - 2)), .int (nI (P - 1)), .int (nI (P * (P - 2)))]))] := hD
        refine lv_aload_n hx hb dX1_renewParities_32 rfl (lv_at hl 1 rfl) ?_
        refine lv_iload_n hx hb dX1_renewParities_33 rfl (lv_at hl 0 rfl) ?_
        refine lv_aload_n hx hb dX1_renewParities_34 rfl (lv_at hl 1 rfl) ?_
        refine va_get (D := (dC, dI)) (ci := 1) (v := .ref aS) (C := RX1) (T := TX1) (N := 4) hx hb hts inX1 hown hK hP 0 rfl rfl 0 (by decide) (hts _ t_fX1_9) (fun _ h9 => h9) rfl dX1_renewParities_35 ?_
        refine va_get (D := (dC, dI)) (ci := 0) (v := .int (nI (P - 2))) (C := RX0) (T := TX0) (N := 4) hx hb hts inX0 hown hK hP 3 rfl rfl 1 (by decide) (hts _ t_fX1_41) (fun _ h9 => h9) rfl dX1_renewParities_38 ?_
        refine gV (wr := []) (pre := [(aT, .inr (1, [.ref aS, .ref aW, .ref aM, .int (bI mk)])), (aW, .inl (cI, P * P, .inl (dr_rn P w i))), (aM, .inl (cB, P, .inl (fun z9 => bI (ms z9)))), (aS, .inr (0, [.int (nI P), .int (nI (P - 2)), .int (nI (P - 1)), .int (nI (P * (P - 2)))]))]) (tl := []) (G := fun (u : Unit) => [(aT, .inr (1, [.ref aS, .ref aW, .ref aM, .int (bI mk)])), (aW, .inl (cI, P * P, .inl (dr_rn P w i))), (aM, .inl (cB, P, .inl (fun z9 => bI (ms z9)))), (aS, .inr (0, [.int (nI P), .int (nI (P - 2)), .int (nI (P - 1)), .int (nI (P * (P - 2)))]))]) (b := aT) (As := [.int (nI i), .int (nI (P - 2))]) (rst := [.int (nI (i * P + (P - 2))), .ref aW]) ⟨hx, hb, hml, hown, hts⟩ (c_sum l dC dI cI cB cQ cJ aT aS aW aM P (dr_rn P w i) ms mk i (P - 2) hp5 (by omega) (Or.inl rfl)) (cwV 2 hts (gdV t_mX1_44 t_inst_X1_dataSum t_sel_X1_dataSum t_ini_X1 t_code_X1_dataSum) rfl rfl rfl (by decide +kernel) ⟨Nat.le_of_ble_eq_true rfl, Nat.le_of_ble_eq_true rfl⟩) hK hP hD hS hA [0, 1, 2, 3] [] [0, 1, 2, 3] rfl (by decide) (fun _ => rfl) (by decide) (ci := 1) rfl rfl rfl rfl hl.1 rfl (Nat.le_of_ble_eq_true rfl) dX1_renewParities_41 ⟨Nat.zero_le _, Nat.zero_le _⟩ (fun r u H locs hu2 hP hD hS => ?_)
        have hr41 := hu2
        have hr41 : r = dr_sum P (dr_rn P w i) i (P - 2) (P - 2) := hr41
        subst hr41
        have hP : va_P (dC, dI) vwCl [(aT, .inr (1, [.ref aS, .ref aW, .ref aM, .int (bI mk)])), (aW, .inl (cI, P * P, .inl (dr_rn P w i))), (aM, .inl (cB, P, .inl (fun z9 => bI (ms z9)))), (aS, .inr (0, [.int (nI P), .int (nI (P - 2)), .int (nI (P - 1)), .int (nI (P * (P - 2)))]))] H := hP
        have hD : va_D A [(aT, .inr (1, [.ref aS, .ref aW, .ref aM, .int (bI mk)])), (aW, .inl (cI, P * P, .inl (dr_rn P w i))), (aM, .inl (cB, P, .inl (fun z9 => bI (ms z9)))), (aS, .inr (0, [.int (nI P), .int (nI (P - 2)), .int (nI (P - 1)), .int (nI (P * (P - 2)))]))] := hD
        refine x_iast (f := dr_rn P w i) hx hb hK hP hD hS 1 0 rfl rfl dX1_renewParities_44 (dr_pl (by omega) (by omega)) (by omega) (fun H locs hP hD hS => ?_)
        have hP : va_P (dC, dI) vwCl [(aT, .inr (1, [.ref aS, .ref aW, .ref aM, .int (bI mk)])), (aW, .inl (cI, P * P, .inl (dr_rn1 P (dr_rn P w i) i (P - 2)))), (aM, .inl (cB, P, .inl (fun z9 => bI (ms z9)))), (aS, .inr (0, [.int (nI P), .int (nI (P - 2)), .int (nI (P - 1)), .int (nI (P * (P - 2)))]))] H := hP
        have hD : va_D A [(aT, .inr (1, [.ref aS, .ref aW, .ref aM, .int (bI mk)])), (aW, .inl (cI, P * P, .inl (dr_rn1 P (dr_rn P w i) i (P - 2)))), (aM, .inl (cB, P, .inl (fun z9 => bI (ms z9)))), (aS, .inr (0, [.int (nI P), .int (nI (P - 2)), .int (nI (P - 1)), .int (nI (P * (P - 2)))]))] := hD
        refine lv_aload_n hx hb dX1_renewParities_45 rfl (lv_at hl 1 rfl) ?_
        refine va_get (D := (dC, dI)) (ci := 1) (v := .ref aW) (C := RX1) (T := TX1) (N := 4) hx hb hts inX1 hown hK hP 0 rfl rfl 1 (by decide) (hts _ t_fX1_21) (fun _ h9 => h9) rfl dX1_renewParities_46 ?_
        refine lv_aload_n hx hb dX1_renewParities_49 rfl (lv_at hl 1 rfl) ?_
        refine va_get (D := (dC, dI)) (ci := 1) (v := .ref aS) (C := RX1) (T := TX1) (N := 4) hx hb hts inX1 hown hK hP 0 rfl rfl 0 (by decide) (hts _ t_fX1_9) (fun _ h9 => h9) rfl dX1_renewParities_50 ?_
        refine lv_iload_n hx hb dX1_renewParities_53 rfl (lv_at hl 0 rfl) ?_
        refine lv_aload_n hx hb dX1_renewParities_54 rfl (lv_at hl 1 rfl) ?_
        refine va_get (D := (dC, dI)) (ci := 1) (v := .ref aS) (C := RX1) (T := TX1) (N := 4) hx hb hts inX1 hown hK hP 0 rfl rfl 0 (by decide) (hts _ t_fX1_9) (fun _ h9 => h9) rfl dX1_renewParities_55 ?_
        refine va_get (D := (dC, dI)) (ci := 0) (v := .int (nI (P - 1))) (C := RX0) (T := TX0) (N := 4) hx hb hts inX0 hown hK hP 3 rfl rfl 2 (by decide) (hts _ t_fX1_47) (fun _ h9 => h9) rfl dX1_renewParities_58 ?_
        refine gV (wr := [(aT, .inr (1, [.ref aS, .ref aW, .ref aM, .int (bI mk)])), (aW, .inl (cI, P * P, .inl (dr_rn1 P (dr_rn P w i) i (P - 2)))), (aM, .inl (cB, P, .inl (fun z9 => bI (ms z9))))]) (pre := [(aT, .inr (1, [.ref aS, .ref aW, .ref aM, .int (bI mk)])), (aW, .inl (cI, P * P, .inl (dr_rn1 P (dr_rn P w i) i (P - 2)))), (aM, .inl (cB, P, .inl (fun z9 => bI (ms z9)))), (aS, .inr (0, [.int (nI P), .int (nI (P - 2)), .int (nI (P - 1)), .int (nI (P * (P - 2)))]))]) (tl := []) (G := fun (u : Unit) => [(aT, .inr (1, [.ref aS, .ref aW, .ref aM, .int (bI mk)])), (aW, .inl (cI, P * P, .inl (dr_rn1 P (dr_rn P w i) i (P - 2)))), (aM, .inl (cB, P, .inl (fun z9 => bI (ms z9)))), (aS, .inr (0, [.int (nI P), .int (nI (P - 2)), .int (nI (P - 1)), .int (nI (P * (P - 2)))]))]) (b := aS) (As := [.int (nI i), .int (nI (P - 1))]) (rst := [.ref aW]) ⟨hx, hb, hml, hown, hts⟩ (c_place l dC dI cI cB cQ cJ aS P i (P - 1) ) (cwV 2 hts (gdV t_mX1_37 t_inst_X0_place t_sel_X0_place t_ini_X0 t_code_X0_place) rfl rfl rfl (by decide +kernel) ⟨Nat.le_of_ble_eq_true rfl, Nat.le_of_ble_eq_true rfl⟩) hK hP hD hS hA [3] [0, 1, 2] [1, 2, 3, 0] rfl (by decide) (fun _ => rfl) (by decide) (ci := 0) rfl rfl rfl rfl hl.1 rfl (Nat.le_of_ble_eq_true rfl) dX1_renewParities_61 ⟨Nat.zero_le _, Nat.zero_le _⟩ (fun r u H locs hu3 hP hD hS => ?_)
        have hr61 := hu3
        have hr61 : r = nI (i * P + (P - 1)) := hr61
        subst hr61
        have hP : va_P (dC, dI) vwCl [(aT, .inr (1, [.ref aS, .ref aW, .ref aM, .int (bI mk)])), (aW, .inl (cI, P * P, .inl (dr_rn1 P (dr_rn P w i) i (P - 2)))), (aM, .inl (cB, P, .inl (fun z9 => bI (ms z9)))), (aS, .inr (0, [.int (nI P), .int (nI (P - 2)), .int (nI (P - 1)), .int (nI (P * (P - 2)))]))] H := hP
        have hD : va_D A [(aT, .inr (1, [.ref aS, .ref aW, .ref aM, .int (bI mk)])), (aW, .inl (cI, P * P, .inl (dr_rn1 P (dr_rn P w i) i (P - 2)))), (aM, .inl (cB, P, .inl (fun z9 => bI (ms z9)))), (aS, .inr (0, [.int (nI P), .int (nI (P - 2)), .int (nI (P - 1)), .int (nI (P * (P - 2)))]))] := hD
        refine lv_aload_n hx hb dX1_renewParities_64 rfl (lv_at hl 1 rfl) ?_
        refine lv_iload_n hx hb dX1_renewParities_65 rfl (lv_at hl 0 rfl) ?_
        refine lv_aload_n hx hb dX1_renewParities_66 rfl (lv_at hl 1 rfl) ?_
        refine va_get (D := (dC, dI)) (ci := 1) (v := .ref aS) (C := RX1) (T := TX1) (N := 4) hx hb hts inX1 hown hK hP 0 rfl rfl 0 (by decide) (hts _ t_fX1_9) (fun _ h9 => h9) rfl dX1_renewParities_67 ?_
        refine va_get (D := (dC, dI)) (ci := 0) (v := .int (nI (P - 1))) (C := RX0) (T := TX0) (N := 4) hx hb hts inX0 hown hK hP 3 rfl rfl 2 (by decide) (hts _ t_fX1_47) (fun _ h9 => h9) rfl dX1_renewParities_70 ?_
        refine gV (wr := []) (pre := [(aT, .inr (1, [.ref aS, .ref aW, .ref aM, .int (bI mk)])), (aW, .inl (cI, P * P, .inl (dr_rn1 P (dr_rn P w i) i (P - 2)))), (aM, .inl (cB, P, .inl (fun z9 => bI (ms z9)))), (aS, .inr (0, [.int (nI P), .int (nI (P - 2)), .int (nI (P - 1)), .int (nI (P * (P - 2)))]))]) (tl := []) (G := fun (u : Unit) => [(aT, .inr (1, [.ref aS, .ref aW, .ref aM, .int (bI mk)])), (aW, .inl (cI, P * P, .inl (dr_rn1 P (dr_rn P w i) i (P - 2)))), (aM, .inl (cB, P, .inl (fun z9 => bI (ms z9)))), (aS, .inr (0, [.int (nI P), .int (nI (P - 2)), .int (nI (P - 1)), .int (nI (P * (P - 2)))]))]) (b := aT) (As := [.int (nI i), .int (nI (P - 1))]) (rst := [.int (nI (i * P + (P - 1))), .ref aW]) ⟨hx, hb, hml, hown, hts⟩ (c_sum l dC dI cI cB cQ cJ aT aS aW aM P (dr_rn1 P (dr_rn P w i) i (P - 2)) ms mk i (P - 1) hp5 (by omega) (Or.inr rfl)) (cwV 2 hts (gdV t_mX1_44 t_inst_X1_dataSum t_sel_X1_dataSum t_ini_X1 t_code_X1_dataSum) rfl rfl rfl (by decide +kernel) ⟨Nat.le_of_ble_eq_true rfl, Nat.le_of_ble_eq_true rfl⟩) hK hP hD hS hA [0, 1, 2, 3] [] [0, 1, 2, 3] rfl (by decide) (fun _ => rfl) (by decide) (ci := 1) rfl rfl rfl rfl hl.1 rfl (Nat.le_of_ble_eq_true rfl) dX1_renewParities_73 ⟨Nat.zero_le _, Nat.zero_le _⟩ (fun r u H locs hu4 hP hD hS => ?_)
        have hr73 := hu4
        have hr73 : r = dr_sum P (dr_rn1 P (dr_rn P w i) i (P - 2)) i (P - 1) (P - 2) := hr73
        subst hr73
        have hP : va_P (dC, dI) vwCl [(aT, .inr (1, [.ref aS, .ref aW, .ref aM, .int (bI mk)])), (aW, .inl (cI, P * P, .inl (dr_rn1 P (dr_rn P w i) i (P - 2)))), (aM, .inl (cB, P, .inl (fun z9 => bI (ms z9)))), (aS, .inr (0, [.int (nI P), .int (nI (P - 2)), .int (nI (P - 1)), .int (nI (P * (P - 2)))]))] H := hP
        have hD : va_D A [(aT, .inr (1, [.ref aS, .ref aW, .ref aM, .int (bI mk)])), (aW, .inl (cI, P * P, .inl (dr_rn1 P (dr_rn P w i) i (P - 2)))), (aM, .inl (cB, P, .inl (fun z9 => bI (ms z9)))), (aS, .inr (0, [.int (nI P), .int (nI (P - 2)), .int (nI (P - 1)), .int (nI (P * (P - 2)))]))] := hD
        refine x_iast (f := dr_rn1 P (dr_rn P w i) i (P - 2)) hx hb hK hP hD hS 1 0 rfl rfl dX1_renewParities_76 (dr_pl (by omega) (by omega)) (by omega) (fun H locs hP hD hS => ?_)
        have hP : va_P (dC, dI) vwCl [(aT, .inr (1, [.ref aS, .ref aW, .ref aM, .int (bI mk)])), (aW, .inl (cI, P * P, .inl (dr_rn1 P (dr_rn1 P (dr_rn P w i) i (P - 2)) i (P - 1)))), (aM, .inl (cB, P, .inl (fun z9 => bI (ms z9)))), (aS, .inr (0, [.int (nI P), .int (nI (P - 2)), .int (nI (P - 1)), .int (nI (P * (P - 2)))]))] H := hP
        have hD : va_D A [(aT, .inr (1, [.ref aS, .ref aW, .ref aM, .int (bI mk)])), (aW, .inl (cI, P * P, .inl (dr_rn1 P (dr_rn1 P (dr_rn P w i) i (P - 2)) i (P - 1)))), (aM, .inl (cB, P, .inl (fun z9 => bI (ms z9)))), (aS, .inr (0, [.int (nI P), .int (nI (P - 2)), .int (nI (P - 1)), .int (nI (P * (P - 2)))]))] := hD
        refine lv_iinc (v := nI (i + 1)) hx hb dX1_renewParities_77 hl (k := 0) rfl (x_inc _) (by decide) rfl (fun ls hl => ?_)
        have hl : lv_has ls 2 [(1, .int (nI (i + 1))), (0, .ref aT)] := hl
        refine lv_goto (tgt := 2) hx hb dX1_renewParities_80 (by decide) ?_
        have e5 : (dr_rn P w (i + 1)) = (dr_rn1 P (dr_rn1 P (dr_rn P w i) i (P - 2)) i (P - 1)) := by first | rfl | (simp [h10]; done) | (simp [h10]; omega)
        exact ih2 (i + 1) ls H locs (by omega) (by omega) (lv_sub hl [0, 1] rfl) (by rw [e5]; exact hP) (by rw [e5]; exact hD) hS
  have e6 : (dr_rn P w 0) = w := by first | rfl | (simp []; done) | (simp []; omega)
  exact lp2 (P - 0 + 1) 0 ls H locs (by omega) (by omega) (lv_sub hl [0, 1] rfl) (by rw [e6]; exact hP) (by rw [e6]; exact hD) hS

abbrev rm_c_agn : Room := { frames := 4, cells := 0, slots := 0, locals := 91 }
set_option maxHeartbeats 4000000 in
set_option maxRecDepth 100000 in
theorem c_agn (l : Launch) (dC : Nat → ClassId) (dI : Nat → Nat → Nat) (cI cB cQ cJ : ClassId) (aT : Nat) (aS : Nat) (aW : Nat) (aM : Nat) (P : Nat) (w : Nat → Int32) (ms : Nat → Bool) (mk : Bool) (hp5 : dr_P P) : MG l yX1_agreeingParities (Cond.code yX1_agreeingParities cX1_agreeingParities 3 (some .int) :: TB) rm_c_agn (dC, dI) vwCl (TY cI cB cQ cJ) [.ref aT] [(aT, .inr (1, [.ref aS, .ref aW, .ref aM, .int (bI mk)])), (aW, .inl (cI, P * P, .inl w)), (aM, .inl (cB, P, .inl (fun z9 => bI (ms z9)))), (aS, .inr (0, [.int (nI P), .int (nI (P - 2)), .int (nI (P - 1)), .int (nI (P * (P - 2)))]))] (fun (r : Int32) (u : Unit) => r = nI (dr_agn P ms w P)) (fun (u : Unit) => [(aT, .inr (1, [.ref aS, .ref aW, .ref aM, .int (bI mk)])), (aW, .inl (cI, P * P, .inl w)), (aM, .inl (cB, P, .inl (fun z9 => bI (ms z9)))), (aS, .inr (0, [.int (nI P), .int (nI (P - 2)), .int (nI (P - 1)), .int (nI (P * (P - 2)))]))]) := by
  refine MG.ofW (cc := cX1_agreeingParities) (maxL := 3) (rt := .int) (by decide +kernel) rfl (Nat.le_of_ble_eq_true rfl) ?_
  intro p e s m args below meth c A ls Q H locs hQ hx hb hml hr hlk hts hown hK hP hD hS hA hl
  have hts : ∀ w ∈ TB, w.before args s = true := fun w h => hts w (List.mem_cons_of_mem _ h)
  have hown : s.vm.findClass RX1 = some m.cls := hown
  have hl : lv_has ls 3 [(0, .ref aT)] := hl
  have hP : va_P (dC, dI) vwCl [(aT, .inr (1, [.ref aS, .ref aW, .ref aM, .int (bI mk)])), (aW, .inl (cI, P * P, .inl w)), (aM, .inl (cB, P, .inl (fun z9 => bI (ms z9)))), (aS, .inr (0, [.int (nI P), .int (nI (P - 2)), .int (nI (P - 1)), .int (nI (P * (P - 2)))]))] H := hP
  have hD : va_D A [(aT, .inr (1, [.ref aS, .ref aW, .ref aM, .int (bI mk)])), (aW, .inl (cI, P * P, .inl w)), (aM, .inl (cB, P, .inl (fun z9 => bI (ms z9)))), (aS, .inr (0, [.int (nI P), .int (nI (P - 2)), .int (nI (P - 1)), .int (nI (P * (P - 2)))]))] := hD
  have hp := hp5.le
  have hpp := dr_PP hp5
  have hpq := dr_PP2 hp5
  refine lv_iconst (v := nI 0) hx hb dX1_agreeingParities_0 (by decide) ?_
  refine lv_istore_n hx hb dX1_agreeingParities_1 rfl hl (by decide) rfl (fun ls hl => ?_)
  have hl : lv_has ls 3 [(1, .int (nI 0)), (0, .ref aT)] := hl
  refine lv_iconst (v := nI 0) hx hb dX1_agreeingParities_2 (by decide) ?_
  refine lv_istore_n hx hb dX1_agreeingParities_3 rfl hl (by decide) rfl (fun ls hl => ?_)
  have hl : lv_has ls 3 [(2, .int (nI 0)), (1, .int (nI 0)), (0, .ref aT)] := hl
  have lp4 : ∀ (n9 : Nat) (i : Nat) (ls : Array Slot) (H : Heap) (locs : List Loc), P - i < n9 → (i ≤ P) → lv_has ls 3 [(2, .int (nI i)), (1, .int (nI (dr_agn P ms w i))), (0, .ref aT)] → va_P (dC, dI) vwCl [(aT, .inr (1, [.ref aS, .ref aW, .ref aM, .int (bI mk)])), (aW, .inl (cI, P * P, .inl w)), (aM, .inl (cB, P, .inl (fun z9 => bI (ms z9)))), (aS, .inr (0, [.int (nI P), .int (nI (P - 2)), .int (nI (P - 1)), .int (nI (P * (P - 2)))]))] H → va_D A [(aT, .inr (1, [.ref aS, .ref aW, .ref aM, .int (bI mk)])), (aW, .inl (cI, P * P, .inl w)), (aM, .inl (cB, P, .inl (fun z9 => bI (ms z9)))), (aS, .inr (0, [.int (nI P), .int (nI (P - 2)), .int (nI (P - 1)), .int (nI (P * (P - 2)))]))] → va_S A s.heap H locs → W p l e rm_c_agn s m args below meth c H locs 0 0 Q (F0 m 4 ls []) := by
    intro n9
    induction n9 with
    | zero => intro i ls H locs hn9; omega
    | succ n9 ih4 =>
      intro i ls H locs hn9 hi hl hP hD hS
      refine lv_iload_n hx hb dX1_agreeingParities_4 rfl (lv_at hl 0 rfl) ?_
      refine lv_aload_n hx hb dX1_agreeingParities_5 rfl (lv_at hl 2 rfl) ?_
      refine va_get (D := (dC, dI)) (ci := 1) (v := .ref aS) (C := RX1) (T := TX1) (N := 4) hx hb hts inX1 hown hK hP 0 rfl rfl 0 (by decide) (hts _ t_fX1_9) (fun _ h9 => h9) rfl dX1_agreeingParities_6 ?_
      refine va_get (D := (dC, dI)) (ci := 0) (v := .int (nI P)) (C := RX0) (T := TX0) (N := 4) hx hb hts inX0 hown hK hP 3 rfl rfl 0 (by decide) (hts _ t_fX1_15) (fun _ h9 => h9) rfl dX1_agreeingParities_9 ?_
      refine x_cge (tgt := 57) hx hb dX1_agreeingParities_12 (by decide) (by omega) (by omega) (fun h12 => ?_) (fun h12 => ?_)
      · -- 12t
        have hie12 : i = P := by omega
        try rw [hie12] at hl
        try rw [hie12] at hP
        try rw [hie12] at hD
        have hl : lv_has ls 3 [(2, .int (nI P)), (1, .int (nI (dr_agn P ms w P))), (0, .ref aT)] := hl
        have hP : va_P (dC, dI) vwCl [(aT, .inr (1, [.ref aS, .ref aW, .ref aM, .int (bI mk)])), (aW, .inl (cI, P * P, .inl w)), (aM, .inl (cB, P, .inl (fun z9 => bI (ms z9)))), (aS, .inr (0, [.int (nI P), .int (nI (P - 2)), .int (nI (P - 1)), .int (nI (P * (P - 2)))]))] H := hP
        have hD : va_D A [(aT, .inr (1, [.ref aS, .ref aW, .ref aM, .int (bI mk)])), (aW, .inl (cI, P * P, .inl w)), (aM, .inl (cB, P, .inl (fun z9 => bI (ms z9)))), (aS, .inr (0, [.int (nI P), .int (nI (P - 2)), .int (nI (P - 1)), .int (nI (P * (P - 2)))]))] := hD
        refine lv_iload_n hx hb dX1_agreeingParities_57 rfl (lv_at hl 1 rfl) ?_
        exact x_iret (D := (dC, dI)) (cl := vwCl) (A := A) () hQ hx hb hr hlk hP hD hS dX1_agreeingParities_58 (by first | rfl | (simp [h12]; done) | (simp [h12]; omega))
      · -- 12f
        refine lv_aload_n hx hb dX1_agreeingParities_15 rfl (lv_at hl 2 rfl) ?_
        refine lv_iload_n hx hb dX1_agreeingParities_16 rfl (lv_at hl 0 rfl) ?_
        refine lv_aload_n hx hb dX1_agreeingParities_17 rfl (lv_at hl 2 rfl) ?_
        refine va_get (D := (dC, dI)) (ci := 1) (v := .ref aS) (C := RX1) (T := TX1) (N := 4) hx hb hts inX1 hown hK hP 0 rfl rfl 0 (by decide) (hts _ t_fX1_9) (fun _ h9 => h9) rfl dX1_agreeingParities_18 ?_
        refine va_get (D := (dC, dI)) (ci := 0) (v := .int (nI (P - 2))) (C := RX0) (T := TX0) (N := 4) hx hb hts inX0 hown hK hP 3 rfl rfl 1 (by decide) (hts _ t_fX1_41) (fun _ h9 => h9) rfl dX1_agreeingParities_21 ?_
        refine gV (wr := []) (pre := [(aT, .inr (1, [.ref aS, .ref aW, .ref aM, .int (bI mk)])), (aW, .inl (cI, P * P, .inl w)), (aM, .inl (cB, P, .inl (fun z9 => bI (ms z9)))), (aS, .inr (0, [.int (nI P), .int (nI (P - 2)), .int (nI (P - 1)), .int (nI (P * (P - 2)))]))]) (tl := []) (G := fun (u : Unit) => [(aT, .inr (1, [.ref aS, .ref aW, .ref aM, .int (bI mk)])), (aW, .inl (cI, P * P, .inl w)), (aM, .inl (cB, P, .inl (fun z9 => bI (ms z9)))), (aS, .inr (0, [.int (nI P), .int (nI (P - 2)), .int (nI (P - 1)), .int (nI (P * (P - 2)))]))]) (b := aT) (As := [.int (nI i), .int (nI (P - 2))]) (rst := []) ⟨hx, hb, hml, hown, hts⟩ (c_agrees l dC dI cI cB cQ cJ aT aS aW aM P w ms mk i (P - 2) hp5 (by omega) (Or.inl rfl)) (cwV 2 hts (gdV t_mX1_50 t_inst_X1_agrees t_sel_X1_agrees t_ini_X1 t_code_X1_agrees) rfl rfl rfl (by decide +kernel) ⟨Nat.le_of_ble_eq_true rfl, Nat.le_of_ble_eq_true rfl⟩) hK hP hD hS hA [0, 1, 2, 3] [] [0, 1, 2, 3] rfl (by decide) (fun _ => rfl) (by decide) (ci := 1) rfl rfl rfl rfl hl.1 rfl (Nat.le_of_ble_eq_true rfl) dX1_agreeingParities_24 ⟨Nat.zero_le _, Nat.zero_le _⟩ (fun r u H locs hu1 hP hD hS => ?_)
        have hr24 := hu1
        have hr24 : r = bI (dr_ag P ms w i (P - 2)) := hr24
        subst hr24
        have hP : va_P (dC, dI) vwCl [(aT, .inr (1, [.ref aS, .ref aW, .ref aM, .int (bI mk)])), (aW, .inl (cI, P * P, .inl w)), (aM, .inl (cB, P, .inl (fun z9 => bI (ms z9)))), (aS, .inr (0, [.int (nI P), .int (nI (P - 2)), .int (nI (P - 1)), .int (nI (P * (P - 2)))]))] H := hP
        have hD : va_D A [(aT, .inr (1, [.ref aS, .ref aW, .ref aM, .int (bI mk)])), (aW, .inl (cI, P * P, .inl w)), (aM, .inl (cB, P, .inl (fun z9 => bI (ms z9)))), (aS, .inr (0, [.int (nI P), .int (nI (P - 2)), .int (nI (P - 1)), .int (nI (P * (P - 2)))]))] := hD
        refine x_ifF (tgt := 33) hx hb dX1_agreeingParities_27 (by decide) (fun h27 => ?_) (fun h27 => ?_)
        · -- 27t
          refine lv_aload_n hx hb dX1_agreeingParities_33 rfl (lv_at hl 2 rfl) ?_
          refine lv_iload_n hx hb dX1_agreeingParities_34 rfl (lv_at hl 0 rfl) ?_
          refine lv_aload_n hx hb dX1_agreeingParities_35 rfl (lv_at hl 2 rfl) ?_
          refine va_get (D := (dC, dI)) (ci := 1) (v := .ref aS) (C := RX1) (T := TX1) (N := 4) hx hb hts inX1 hown hK hP 0 rfl rfl 0 (by decide) (hts _ t_fX1_9) (fun _ h9 => h9) rfl dX1_agreeingParities_36 ?_
          refine va_get (D := (dC, dI)) (ci := 0) (v := .int (nI (P - 1))) (C := RX0) (T := TX0) (N := 4) hx hb hts inX0 hown hK hP 3 rfl rfl 2 (by decide) (hts _ t_fX1_47) (fun _ h9 => h9) rfl dX1_agreeingParities_39 ?_
          refine gV (wr := []) (pre := [(aT, .inr (1, [.ref aS, .ref aW, .ref aM, .int (bI mk)])), (aW, .inl (cI, P * P, .inl w)), (aM, .inl (cB, P, .inl (fun z9 => bI (ms z9)))), (aS, .inr (0, [.int (nI P), .int (nI (P - 2)), .int (nI (P - 1)), .int (nI (P * (P - 2)))]))]) (tl := []) (G := fun (u : Unit) => [(aT, .inr (1, [.ref aS, .ref aW, .ref aM, .int (bI mk)])), (aW, .inl (cI, P * P, .inl w)), (aM, .inl (cB, P, .inl (fun z9 => bI (ms z9)))), (aS, .inr (0, [.int (nI P), .int (nI (P - 2)), .int (nI (P - 1)), .int (nI (P * (P - 2)))]))]) (b := aT) (As := [.int (nI i), .int (nI (P - 1))]) (rst := []) ⟨hx, hb, hml, hown, hts⟩ (c_agrees l dC dI cI cB cQ cJ aT aS aW aM P w ms mk i (P - 1) hp5 (by omega) (Or.inr rfl)) (cwV 2 hts (gdV t_mX1_50 t_inst_X1_agrees t_sel_X1_agrees t_ini_X1 t_code_X1_agrees) rfl rfl rfl (by decide +kernel) ⟨Nat.le_of_ble_eq_true rfl, Nat.le_of_ble_eq_true rfl⟩) hK hP hD hS hA [0, 1, 2, 3] [] [0, 1, 2, 3] rfl (by decide) (fun _ => rfl) (by decide) (ci := 1) rfl rfl rfl rfl hl.1 rfl (Nat.le_of_ble_eq_true rfl) dX1_agreeingParities_42 ⟨Nat.zero_le _, Nat.zero_le _⟩ (fun r u H locs hu2 hP hD hS => ?_)
          have hr42 := hu2
          have hr42 : r = bI (dr_ag P ms w i (P - 1)) := hr42
          subst hr42
          have hP : va_P (dC, dI) vwCl [(aT, .inr (1, [.ref aS, .ref aW, .ref aM, .int (bI mk)])), (aW, .inl (cI, P * P, .inl w)), (aM, .inl (cB, P, .inl (fun z9 => bI (ms z9)))), (aS, .inr (0, [.int (nI P), .int (nI (P - 2)), .int (nI (P - 1)), .int (nI (P * (P - 2)))]))] H := hP
          have hD : va_D A [(aT, .inr (1, [.ref aS, .ref aW, .ref aM, .int (bI mk)])), (aW, .inl (cI, P * P, .inl w)), (aM, .inl (cB, P, .inl (fun z9 => bI (ms z9)))), (aS, .inr (0, [.int (nI P), .int (nI (P - 2)), .int (nI (P - 1)), .int (nI (P * (P - 2)))]))] := hD
          refine x_ifF (tgt := 51) hx hb dX1_agreeingParities_45 (by decide) (fun h45 => ?_) (fun h45 => ?_)
          · -- 45t
            refine lv_iinc (v := nI (i + 1)) hx hb dX1_agreeingParities_51 hl (k := 0) rfl (x_inc _) (by decide) rfl (fun ls hl => ?_)
            have hl : lv_has ls 3 [(2, .int (nI (i + 1))), (1, .int (nI (dr_agn P ms w i))), (0, .ref aT)] := hl
            refine lv_goto (tgt := 4) hx hb dX1_agreeingParities_54 (by decide) ?_
            have e3 : (dr_agn P ms w (i + 1)) = (dr_agn P ms w i) := by first | rfl | (simp [dr_agn, h12, h27, h45]; done) | (simp [dr_agn, h12, h27, h45]; omega)
            exact ih4 (i + 1) ls H locs (by omega) (by omega) (by rw [e3]; exact lv_sub hl [0, 1, 2] rfl) hP hD hS
          · -- 45f
            refine lv_iinc (v := nI (dr_agn P ms w i + 1)) hx hb dX1_agreeingParities_48 hl (k := 1) rfl (x_inc _) (by decide) rfl (fun ls hl => ?_)
            have hl : lv_has ls 3 [(1, .int (nI (dr_agn P ms w i + 1))), (2, .int (nI i)), (0, .ref aT)] := hl
            refine lv_iinc (v := nI (i + 1)) hx hb dX1_agreeingParities_51 hl (k := 1) rfl (x_inc _) (by decide) rfl (fun ls hl => ?_)
            have hl : lv_has ls 3 [(2, .int (nI (i + 1))), (1, .int (nI (dr_agn P ms w i + 1))), (0, .ref aT)] := hl
            refine lv_goto (tgt := 4) hx hb dX1_agreeingParities_54 (by decide) ?_
            have e4 : (dr_agn P ms w (i + 1)) = (dr_agn P ms w i + 1) := by first | rfl | (simp [dr_agn, h12, h27, h45]; done) | (simp [dr_agn, h12, h27, h45]; omega)
            exact ih4 (i + 1) ls H locs (by omega) (by omega) (by rw [e4]; exact lv_sub hl [0, 1, 2] rfl) hP hD hS
        · -- 27f
          refine lv_iinc (v := nI (dr_agn P ms w i + 1)) hx hb dX1_agreeingParities_30 hl (k := 1) rfl (x_inc _) (by decide) rfl (fun ls hl => ?_)
          have hl : lv_has ls 3 [(1, .int (nI (dr_agn P ms w i + 1))), (2, .int (nI i)), (0, .ref aT)] := hl
          refine lv_aload_n hx hb dX1_agreeingParities_33 rfl (lv_at hl 2 rfl) ?_
          refine lv_iload_n hx hb dX1_agreeingParities_34 rfl (lv_at hl 1 rfl) ?_
          refine lv_aload_n hx hb dX1_agreeingParities_35 rfl (lv_at hl 2 rfl) ?_
          refine va_get (D := (dC, dI)) (ci := 1) (v := .ref aS) (C := RX1) (T := TX1) (N := 4) hx hb hts inX1 hown hK hP 0 rfl rfl 0 (by decide) (hts _ t_fX1_9) (fun _ h9 => h9) rfl dX1_agreeingParities_36 ?_
          refine va_get (D := (dC, dI)) (ci := 0) (v := .int (nI (P - 1))) (C := RX0) (T := TX0) (N := 4) hx hb hts inX0 hown hK hP 3 rfl rfl 2 (by decide) (hts _ t_fX1_47) (fun _ h9 => h9) rfl dX1_agreeingParities_39 ?_
          refine gV (wr := []) (pre := [(aT, .inr (1, [.ref aS, .ref aW, .ref aM, .int (bI mk)])), (aW, .inl (cI, P * P, .inl w)), (aM, .inl (cB, P, .inl (fun z9 => bI (ms z9)))), (aS, .inr (0, [.int (nI P), .int (nI (P - 2)), .int (nI (P - 1)), .int (nI (P * (P - 2)))]))]) (tl := []) (G := fun (u : Unit) => [(aT, .inr (1, [.ref aS, .ref aW, .ref aM, .int (bI mk)])), (aW, .inl (cI, P * P, .inl w)), (aM, .inl (cB, P, .inl (fun z9 => bI (ms z9)))), (aS, .inr (0, [.int (nI P), .int (nI (P - 2)), .int (nI (P - 1)), .int (nI (P * (P - 2)))]))]) (b := aT) (As := [.int (nI i), .int (nI (P - 1))]) (rst := []) ⟨hx, hb, hml, hown, hts⟩ (c_agrees l dC dI cI cB cQ cJ aT aS aW aM P w ms mk i (P - 1) hp5 (by omega) (Or.inr rfl)) (cwV 2 hts (gdV t_mX1_50 t_inst_X1_agrees t_sel_X1_agrees t_ini_X1 t_code_X1_agrees) rfl rfl rfl (by decide +kernel) ⟨Nat.le_of_ble_eq_true rfl, Nat.le_of_ble_eq_true rfl⟩) hK hP hD hS hA [0, 1, 2, 3] [] [0, 1, 2, 3] rfl (by decide) (fun _ => rfl) (by decide) (ci := 1) rfl rfl rfl rfl hl.1 rfl (Nat.le_of_ble_eq_true rfl) dX1_agreeingParities_42 ⟨Nat.zero_le _, Nat.zero_le _⟩ (fun r u H locs hu5 hP hD hS => ?_)
          have hr42 := hu5
          have hr42 : r = bI (dr_ag P ms w i (P - 1)) := hr42
          subst hr42
          have hP : va_P (dC, dI) vwCl [(aT, .inr (1, [.ref aS, .ref aW, .ref aM, .int (bI mk)])), (aW, .inl (cI, P * P, .inl w)), (aM, .inl (cB, P, .inl (fun z9 => bI (ms z9)))), (aS, .inr (0, [.int (nI P), .int (nI (P - 2)), .int (nI (P - 1)), .int (nI (P * (P - 2)))]))] H := hP
          have hD : va_D A [(aT, .inr (1, [.ref aS, .ref aW, .ref aM, .int (bI mk)])), (aW, .inl (cI, P * P, .inl w)), (aM, .inl (cB, P, .inl (fun z9 => bI (ms z9)))), (aS, .inr (0, [.int (nI P), .int (nI (P - 2)), .int (nI (P - 1)), .int (nI (P * (P - 2)))]))] := hD
          refine x_ifF (tgt := 51) hx hb dX1_agreeingParities_45 (by decide) (fun h45 => ?_) (fun h45 => ?_)
          · -- 45t
            refine lv_iinc (v := nI (i + 1)) hx hb dX1_agreeingParities_51 hl (k := 1) rfl (x_inc _) (by decide) rfl (fun ls hl => ?_)
            have hl : lv_has ls 3 [(2, .int (nI (i + 1))), (1, .int (nI (dr_agn P ms w i + 1))), (0, .ref aT)] := hl
            refine lv_goto (tgt := 4) hx hb dX1_agreeingParities_54 (by decide) ?_
            have e6 : (dr_agn P ms w (i + 1)) = (dr_agn P ms w i + 1) := by first | rfl | (simp [dr_agn, h12, h27, h45]; done) | (simp [dr_agn, h12, h27, h45]; omega)
            exact ih4 (i + 1) ls H locs (by omega) (by omega) (by rw [e6]; exact lv_sub hl [0, 1, 2] rfl) hP hD hS
          · -- 45f
            refine lv_iinc (v := nI (dr_agn P ms w i + 1 + 1)) hx hb dX1_agreeingParities_48 hl (k := 0) rfl (x_inc _) (by decide) rfl (fun ls hl => ?_)
            have hl : lv_has ls 3 [(1, .int (nI (dr_agn P ms w i + 1 + 1))), (2, .int (nI i)), (0, .ref aT)] := hl
            refine lv_iinc (v := nI (i + 1)) hx hb dX1_agreeingParities_51 hl (k := 1) rfl (x_inc _) (by decide) rfl (fun ls hl => ?_)
            have hl : lv_has ls 3 [(2, .int (nI (i + 1))), (1, .int (nI (dr_agn P ms w i + 1 + 1))), (0, .ref aT)] := hl
            refine lv_goto (tgt := 4) hx hb dX1_agreeingParities_54 (by decide) ?_
            have e7 : (dr_agn P ms w (i + 1)) = (dr_agn P ms w i + 1 + 1) := by first | rfl | (simp [dr_agn, h12, h27, h45]; done) | (simp [dr_agn, h12, h27, h45]; omega)
            exact ih4 (i + 1) ls H locs (by omega) (by omega) (by rw [e7]; exact lv_sub hl [0, 1, 2] rfl) hP hD hS
  have e8 : (dr_agn P ms w 0) = 0 := by first | rfl | (simp [dr_agn]; done) | (simp [dr_agn]; omega)
  exact lp4 (P - 0 + 1) 0 ls H locs (by omega) (by omega) (by rw [e8]; exact lv_sub hl [0, 1, 2] rfl) hP hD hS
