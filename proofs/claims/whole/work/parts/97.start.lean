theorem lw_EX {b L : Nat} {xs : Nat → Int32} {A : Nat → Prop} {s U : State} {H : Heap} {locs : List Loc} (hX : va_X b L xs s s.heap) (hbl : b < s.heap.size) (hbA : ¬ A b) (hS : va_S A s.heap H locs) (hA : ∀ q : Nat, s.heap.size ≤ q → A q) (hU : U.heap = H) (hvm : s.vm.Alike U.vm) : E_X b L xs (va_A [] H.size) U := by
  refine ⟨?_, by rw [hU]; exact Nat.lt_of_lt_of_le hbl hS.1, fun z => ?_⟩
  · rw [hU]; exact (hX.moved hvm).kept (hS.2.1 b hbl hbA)
  · rcases z with ⟨k, e9, h⟩ | h
    · simp at h
    · exact absurd (Nat.lt_of_lt_of_le hbl hS.1) (Nat.not_lt.mpr h)
set_option maxHeartbeats 8000000 in
set_option maxRecDepth 100000 in
theorem whole_start {p : Program} {e : Env} {s : State} {m : MethodId} {below : List Frame} {meth : Method} {c : Code} (l : Launch) (htl : l.stackTraces = false) {b L : Nat} {xs : Nat → Int32} (hL : L ≤ 2050) (C0 : lw_At p s m meth c b L xs) : W p l e room_1 s m #[Value.ref b] below meth c s.heap [] 0 0 (lw_Z below #[Value.ref b] s) (entryFrame m ([Value.ref b] : List Value).toArray 7) := by
  obtain ⟨hx, hb, hr, hml, hown, hts0, hX, hbl, hlk, hgv⟩ := C0
  have hts : ∀ w ∈ TB, w.before #[Value.ref b] s = true := fun w h => hts0 w (TB_in h)
  have hAO := AO_start hts0
  obtain ⟨dC, dI, cI, cB, cQ, cJ, hK⟩ := K_start hts hAO
  generalize hAe : (fun q : Nat => s.heap.size ≤ q) = A
  have hA : ∀ q : Nat, s.heap.size ≤ q → A q := fun q h => by rw [← hAe]; exact h
  have hnA : ∀ q : Nat, q < s.heap.size → ¬ A q := fun q h => by rw [← hAe]; exact Nat.not_le.mpr h
  have hEs := E_sz_start (A := A) hts0 hgv hnA
  have hEt := E_th_start (A := A) hts0 hgv hnA
  have hbA := hnA b hbl
  have hS : va_S A s.heap s.heap [] := va_S.rf
  have hP : va_P (dC, dI) vwCl [] s.heap := fun k q hk => by simp at hk
  have hD : va_D A [] := ⟨fun i j x y hi => by simp at hi, fun k q hk => by simp at hk⟩
  have hl := lv_entry ([Value.ref b] : List Value) (n := 7) (Nat.le_of_ble_eq_true rfl)
  rw [lg_entry_eq]
  generalize (lg_sl ([Value.ref b] : List Value) ++ List.replicate (7 - (lg_sl ([Value.ref b] : List Value)).length) Slot.unset).toArray = ls at hl ⊢
  have hl : lv_has ls 7 [(0, .ref b)] := hl
  refine va_new (ci := 3) (fs := [.null, .null, .null, .null, .int 0, .int 0]) (C := RX3) (T := TX3) (N := 6) hx hb hts inX3 tyX3 tyX3_ok hown (hts _ t_cL_8) (hts _ t_new_X3) (hts _ t_ini_X3) hK hP hD hS hA rfl (fun j hj => by rcases (show j = 0 ∨ j = 1 ∨ j = 2 ∨ j = 3 ∨ j = 4 ∨ j = 5 by omega) with rfl | rfl | rfl | rfl | rfl | rfl <;> rfl) (Nat.le_of_ble_eq_true rfl) (Nat.le_of_ble_eq_true rfl) dLW_0 (fun aR H hP hD hS => ?_)
  refine lv_dup hx hb dLW_3 rfl ?_
  refine lv_aload_n hx hb dLW_4 rfl (lv_at hl 0 rfl) ?_
  refine lv_iconst (v := nI 0) hx hb dLW_5 (by decide) ?_
  refine gSE (wc := []) (wr := [(aR, .inr (3, [.null, .null, .null, .null, .int 0, .int 0]))]) (As := [.ref b, .int (nI 0)]) (rst := [.ref aR, .ref aR]) ⟨hx, hb, hml, hown, hts⟩ (c_cell l dC dI cI cB cQ cJ hL 0 (by omega)) (va_cwS 2 hts (gdS t_mL_17 t_stat_L_cell t_ini_L t_code_L_cell) rfl rfl rfl (by decide +kernel) ⟨Nat.le_of_ble_eq_true rfl, Nat.le_of_ble_eq_true rfl⟩) E_X_ok (fun U hU hvm => lw_EX hX hbl hbA hS hA hU hvm) hK hP hD hS hA rfl hl.1 rfl (Nat.le_of_ble_eq_true rfl) dLW_6 ⟨Nat.le_of_ble_eq_true rfl, Nat.le_of_ble_eq_true rfl⟩ (fun r u H locs hu hP hD hS => ?_)
  have hu : r = xsAt xs L 0 := hu
  subst hu
  refine lv_aload_n hx hb dLW_9 rfl (lv_at hl 0 rfl) ?_
  refine lv_iconst (v := nI 1) hx hb dLW_10 (by decide) ?_
  refine gSE (wc := []) (wr := [(aR, .inr (3, [.null, .null, .null, .null, .int 0, .int 0]))]) (As := [.ref b, .int (nI 1)]) (rst := [.int (xsAt xs L 0), .ref aR, .ref aR]) ⟨hx, hb, hml, hown, hts⟩ (c_cell l dC dI cI cB cQ cJ hL 1 (by omega)) (va_cwS 2 hts (gdS t_mL_17 t_stat_L_cell t_ini_L t_code_L_cell) rfl rfl rfl (by decide +kernel) ⟨Nat.le_of_ble_eq_true rfl, Nat.le_of_ble_eq_true rfl⟩) E_X_ok (fun U hU hvm => lw_EX hX hbl hbA hS hA hU hvm) hK hP hD hS hA rfl hl.1 rfl (Nat.le_of_ble_eq_true rfl) dLW_11 ⟨Nat.le_of_ble_eq_true rfl, Nat.le_of_ble_eq_true rfl⟩ (fun r u H locs hu hP hD hS => ?_)
  have hu : r = xsAt xs L 1 := hu
  subst hu
  generalize xsAt xs L 0 = x0
  generalize xsAt xs L 1 = y0
  refine gI (wc := [(aR, .inr (3, [.null, .null, .null, .null, .int 0, .int 0]))]) (wr := []) (b := aR) (As := [.int x0, .int y0]) (rst := [.ref aR]) ⟨hx, hb, hml, hown, hts⟩ (c_nRing l dC dI cI cB cQ cJ aR x0 y0) (cwI 2 hts (fun w hw => by rcases List.mem_cons.mp hw with rfl | h; exact ⟨t_code_X3_init, TB_good t_code_X3_init⟩; exact ⟨h, TB_good h⟩) rfl rfl rfl (hts _ t_ini_X3) (hts _ t_mL_23) (hts _ t_inst_X3_init) rfl (by decide +kernel) ⟨Nat.le_of_ble_eq_true rfl, Nat.le_of_ble_eq_true rfl⟩) E_in_ok (fun U hU hvm => ⟨hEs.call hS (x_free (wc := [(aR, .inr (3, [.null, .null, .null, .null, .int 0, .int 0]))]) (wr := []) hD hS hA) hU hvm, hAO.moved hvm⟩) hK hP hD hS hA rfl hl.1 rfl (Nat.le_of_ble_eq_true rfl) dLW_14 ⟨Nat.le_of_ble_eq_true rfl, Nat.le_of_ble_eq_true rfl⟩ (fun u H locs hu hP hD hS => ?_)
  obtain ⟨aS, aA, aL, aE, aEW, aEK, aTs, aWs, aMs⟩ := u
  have hP : va_P (dC, dI) vwCl (RWs cI cB cQ (aR, aS, aA, aL, aE, aEW, aEK, aTs, aWs, aMs) (dr_sz x0) (dr_ns y0) (true, -1, 0, fun _ => false, fun _ => false, fun _ => 0, fun _ _ => 0, fun _ _ => false, fun _ => false) ++ []) H := hP
  have hD : va_D A (RWs cI cB cQ (aR, aS, aA, aL, aE, aEW, aEK, aTs, aWs, aMs) (dr_sz x0) (dr_ns y0) (true, -1, 0, fun _ => false, fun _ => false, fun _ => 0, fun _ _ => 0, fun _ _ => false, fun _ => false) ++ []) := hD
  refine lv_astore_n hx hb dLW_17 rfl hl (by decide) rfl (fun ls hl => ?_)
  have hl : lv_has ls 7 [(1, .ref aR), (0, .ref b)] := hl
  refine va_new (ci := 4) (fs := [.int (nI 0), .int 0, .int 0, .null, .null, .null, .null, .int (bI false), .int 0, .null, .null, .null, .null, .int (nI 0)]) (C := RX4) (T := TX4) (N := 14) hx hb hts inX4 tyX4 tyX4_ok hown (hts _ t_cL_26) (hts _ t_new_X4) (hts _ t_ini_X4) hK hP hD hS hA rfl (fun j hj => by rcases (show j = 0 ∨ j = 1 ∨ j = 2 ∨ j = 3 ∨ j = 4 ∨ j = 5 ∨ j = 6 ∨ j = 7 ∨ j = 8 ∨ j = 9 ∨ j = 10 ∨ j = 11 ∨ j = 12 ∨ j = 13 by omega) with rfl | rfl | rfl | rfl | rfl | rfl | rfl | rfl | rfl | rfl | rfl | rfl | rfl | rfl <;> rfl) (Nat.le_of_ble_eq_true rfl) (Nat.le_of_ble_eq_true rfl) dLW_18 (fun aO H hP hD hS => ?_)
  have hP := hP.perm (ws' := [(aO, .inr (4, [.int (nI 0), .int 0, .int 0, .null, .null, .null, .null, .int (bI false), .int 0, .null, .null, .null, .null, .int (nI 0)]))] ++ (RWs cI cB cQ (aR, aS, aA, aL, aE, aEW, aEK, aTs, aWs, aMs) (dr_sz x0) (dr_ns y0) (true, -1, 0, fun _ => false, fun _ => false, fun _ => 0, fun _ _ => 0, fun _ _ => false, fun _ => false) ++ [])) List.perm_append_comm
  have hD := hD.perm (ws' := [(aO, .inr (4, [.int (nI 0), .int 0, .int 0, .null, .null, .null, .null, .int (bI false), .int 0, .null, .null, .null, .null, .int (nI 0)]))] ++ (RWs cI cB cQ (aR, aS, aA, aL, aE, aEW, aEK, aTs, aWs, aMs) (dr_sz x0) (dr_ns y0) (true, -1, 0, fun _ => false, fun _ => false, fun _ => 0, fun _ _ => 0, fun _ _ => false, fun _ => false) ++ [])) List.perm_append_comm
  refine lv_dup hx hb dLW_21 rfl ?_
  refine lv_aload_n hx hb dLW_22 rfl (lv_at hl 1 rfl) ?_
  refine lv_iconst (v := nI 0) hx hb dLW_23 (by decide) ?_
  refine gSE (wc := []) (wr := ([(aO, .inr (4, [.int (nI 0), .int 0, .int 0, .null, .null, .null, .null, .int (bI false), .int 0, .null, .null, .null, .null, .int (nI 0)]))] ++ (RWs cI cB cQ (aR, aS, aA, aL, aE, aEW, aEK, aTs, aWs, aMs) (dr_sz x0) (dr_ns y0) (true, -1, 0, fun _ => false, fun _ => false, fun _ => 0, fun _ _ => 0, fun _ _ => false, fun _ => false) ++ []))) (As := [.ref b, .int (nI 0)]) (rst := [.ref aO, .ref aO]) ⟨hx, hb, hml, hown, hts⟩ (c_cell l dC dI cI cB cQ cJ hL 0 (by omega)) (va_cwS 2 hts (gdS t_mL_17 t_stat_L_cell t_ini_L t_code_L_cell) rfl rfl rfl (by decide +kernel) ⟨Nat.le_of_ble_eq_true rfl, Nat.le_of_ble_eq_true rfl⟩) E_X_ok (fun U hU hvm => lw_EX hX hbl hbA hS hA hU hvm) hK hP hD hS hA rfl hl.1 rfl (Nat.le_of_ble_eq_true rfl) dLW_24 ⟨Nat.le_of_ble_eq_true rfl, Nat.le_of_ble_eq_true rfl⟩ (fun r u H locs hu hP hD hS => ?_)
  have hu : r = xsAt xs L 0 := hu
  subst hu
  refine lv_aload_n hx hb dLW_27 rfl (lv_at hl 1 rfl) ?_
  refine lv_iconst (v := nI 1) hx hb dLW_28 (by decide) ?_
  refine gSE (wc := []) (wr := ([(aO, .inr (4, [.int (nI 0), .int 0, .int 0, .null, .null, .null, .null, .int (bI false), .int 0, .null, .null, .null, .null, .int (nI 0)]))] ++ (RWs cI cB cQ (aR, aS, aA, aL, aE, aEW, aEK, aTs, aWs, aMs) (dr_sz x0) (dr_ns y0) (true, -1, 0, fun _ => false, fun _ => false, fun _ => 0, fun _ _ => 0, fun _ _ => false, fun _ => false) ++ []))) (As := [.ref b, .int (nI 1)]) (rst := [.int (xsAt xs L 0), .ref aO, .ref aO]) ⟨hx, hb, hml, hown, hts⟩ (c_cell l dC dI cI cB cQ cJ hL 1 (by omega)) (va_cwS 2 hts (gdS t_mL_17 t_stat_L_cell t_ini_L t_code_L_cell) rfl rfl rfl (by decide +kernel) ⟨Nat.le_of_ble_eq_true rfl, Nat.le_of_ble_eq_true rfl⟩) E_X_ok (fun U hU hvm => lw_EX hX hbl hbA hS hA hU hvm) hK hP hD hS hA rfl hl.1 rfl (Nat.le_of_ble_eq_true rfl) dLW_29 ⟨Nat.le_of_ble_eq_true rfl, Nat.le_of_ble_eq_true rfl⟩ (fun r u H locs hu hP hD hS => ?_)
  have hu : r = xsAt xs L 1 := hu
  subst hu
  sorry
