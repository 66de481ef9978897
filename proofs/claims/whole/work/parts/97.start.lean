abbrev lw_M0 : MS := (0, true, -1, 0, fun _ => 0, fun _ => false, fun _ => false, fun _ => false, fun _ => 0, fun _ => 0, fun _ => 0, fun _ => 0)
theorem lw_inv0 (x y : Int32) : Inv (dr_sz x) (dr_ns y) (true, -1, 0, fun _ => false, fun _ => false, fun _ => 0, fun _ _ => 0, fun _ _ => false, fun _ => false) lw_M0 := by
  have h4 := dr_ns_le y
  refine ⟨dr_sz_P x, h4.1, by omega, rfl, fun _ => rfl, rfl, fun _ _ _ _ => rfl, (fun _ _ h => nomatch h), fun _ _ => rfl, fun _ _ _ _ _ _ => rfl, (fun _ => Nat.zero_lt_succ 12), fun s _ _ _ => ⟨fun _ => 0, fun o row _ _ => ?_, fun _ _ _ => rfl⟩, (fun _ s _ h => nomatch h)⟩
  exact (dr_xs_zero (fun _ _ => rfl)).symm
theorem x_newJ {p : Program} {l : Launch} {e : Env} {R : Room} {s : State} {m : MethodId} {args : Array Value} {below : List Frame} {meth : Method} {c : Code} {H : Heap} {locs : List Loc} {cells slots : Nat} {Q : State → Prop} {pc : Nat} {ls : Array Slot} {D : va_G} {cl : List vw_C} {A : Nat → Prop} {H0 : Heap} {rst : List Value} {ws : va_W} {cI cB cQ cJ : ClassId} {cc : ByteArray} (hx : p.tables.exec = Jvm.exec) (hb : c.code = cc) (harr : (Cond.arrayClass .long).before args s = true) (hK : va_K D cl (TY cI cB cQ cJ) s) (hP : va_P D cl ws H) (hD : va_D A ws) (hS : va_S A H0 H locs) (hA : ∀ q, H0.size ≤ q → A q) (hcells : cells + 1 ≤ R.cells) (hslots : slots + 1 ≤ R.slots) (hdg : decode cc pc = .ok (.newarray .long, 2))
    (kk : ∀ (q : Nat) (H1 : Heap), va_P D cl (ws ++ [(q, .inl (cJ, 1, .inr (.inl (fun _ => 0))))]) H1 → va_D A (ws ++ [(q, .inl (cJ, 1, .inr (.inl (fun _ => 0))))]) → va_S A H0 H1 locs →
      W p l e R s m args below meth c H1 locs (cells + 1) (slots + 1) Q (F0 m (pc + 2) ls (.ref q :: rst))) : W p l e R s m args below meth c H locs cells slots Q (F0 m pc ls (.int (nI 1) :: rst)) := by
  refine va_newa (atype := .long) (ty := .long) (N' := 1) (a0 := (1, .inr (.inl (fun _ => 0)))) hx hb harr rfl hK hP hD hS hA (fun _ => rfl) (nI_pos (by omega)) (nI_clamp (by omega)) (by decide) hcells hslots hdg (fun q cA H1 hK1 hP1 hD1 hS1 => ?_)
  have e1 : s.vm.findClass ("[" ++ FieldType.long.toString) = some cJ := (hK.2 3 (cJ, .long) rfl).2
  have e2 : s.vm.findClass ("[" ++ FieldType.long.toString) = some cA := (hK1.2 4 (cA, .long) rfl).2
  have e3 : cJ = cA := Option.some.inj (e1.symm.trans e2)
  subst e3
  exact kk q H1 hP1 hD1 hS1
theorem lw_EX {b L : Nat} {xs : Nat → Int32} {A : Nat → Prop} {s U : State} {H : Heap} {locs : List Loc} (hX : va_X b L xs s s.heap) (hbl : b < s.heap.size) (hbA : ¬ A b) (hS : va_S A s.heap H locs) (hA : ∀ q : Nat, s.heap.size ≤ q → A q) (hU : U.heap = H) (hvm : s.vm.Alike U.vm) : E_X b L xs (va_A [] H.size) U := by
  refine ⟨?_, by rw [hU]; exact Nat.lt_of_lt_of_le hbl hS.1, fun z => ?_⟩
  · rw [hU]; exact (hX.moved hvm).kept (hS.2.1 b hbl hbA)
  · rcases z with ⟨k, e9, h⟩ | h
    · simp at h
    · exact absurd (Nat.lt_of_lt_of_le hbl hS.1) (Nat.not_lt.mpr h)
set_option maxHeartbeats 8000000 in
set_option maxRecDepth 100000 in
theorem whole_start {p : Program} {e : Env} {s : State} {m : MethodId} {below : List Frame} {meth : Method} {c : Code} (l : Launch) (htl : l.stackTraces = false) {b L : Nat} {xs : Nat → Int32} (hL : L ≤ 2050) (C0 : lw_At p s m meth c b L xs) : W p l e room_1 s m #[Value.ref b] below meth c s.heap [] 0 0 (lw_Z below #[Value.ref b] s) (entryFrame m ([Value.ref b] : List Value).toArray 7) := by
  obtain ⟨hx, hb, hr, hml, hown, hts0, hX, hbl, hlk, hgv⟩ := C0
  have hts : ∀ w ∈ TB, w.before #[Value.ref b] s = true := fun w h => hts0 w (TB_in h)
  have hAO := AO_start hts0
  obtain ⟨dC, dI, cI, cB, cQ, cJ, hK⟩ := K_start hts hAO
  generalize hAe : (fun q : Nat => s.heap.size ≤ q) = A
  have hA : ∀ q : Nat, s.heap.size ≤ q → A q := fun q h => by rw [← hAe]; exact h
  have hnA : ∀ q : Nat, q < s.heap.size → ¬ A q := fun q h => by rw [← hAe]; exact Nat.not_le.mpr h
  have hEs := E_sz_start (A := A) hts0 hgv hnA
  have hEt := E_th_start (A := A) hts0 hgv hnA
  have hbA := hnA b hbl
  have hS : va_S A s.heap s.heap [] := va_S.rf
  have hP : va_P (dC, dI) vwCl [] s.heap := fun k q hk => by simp at hk
  have hD : va_D A [] := ⟨fun i j x y hi => by simp at hi, fun k q hk => by simp at hk⟩
  have hl := lv_entry ([Value.ref b] : List Value) (n := 7) (Nat.le_of_ble_eq_true rfl)
  rw [lg_entry_eq]
  generalize (lg_sl ([Value.ref b] : List Value) ++ List.replicate (7 - (lg_sl ([Value.ref b] : List Value)).length) Slot.unset).toArray = ls at hl ⊢
  have hl : lv_has ls 7 [(0, .ref b)] := hl
  refine va_new (ci := 3) (fs := [.null, .null, .null, .null, .int 0, .int 0]) (C := RX3) (T := TX3) (N := 6) hx hb hts inX3 tyX3 tyX3_ok hown (hts _ t_cL_8) (hts _ t_new_X3) (hts _ t_ini_X3) hK hP hD hS hA rfl (fun j hj => by rcases (show j = 0 ∨ j = 1 ∨ j = 2 ∨ j = 3 ∨ j = 4 ∨ j = 5 by omega) with rfl | rfl | rfl | rfl | rfl | rfl <;> rfl) (Nat.le_of_ble_eq_true rfl) (Nat.le_of_ble_eq_true rfl) dLW_0 (fun aR H hP hD hS => ?_)
  refine lv_dup hx hb dLW_3 rfl ?_
  refine lv_aload_n hx hb dLW_4 rfl (lv_at hl 0 rfl) ?_
  refine lv_iconst (v := nI 0) hx hb dLW_5 (by decide) ?_
  refine gSE (wc := []) (wr := [(aR, .inr (3, [.null, .null, .null, .null, .int 0, .int 0]))]) (As := [.ref b, .int (nI 0)]) (rst := [.ref aR, .ref aR]) ⟨hx, hb, hml, hown, hts⟩ (c_cell l dC dI cI cB cQ cJ hL 0 (by omega)) (va_cwS 2 hts (gdS t_mL_17 t_stat_L_cell t_ini_L t_code_L_cell) rfl rfl rfl (by decide +kernel) ⟨Nat.le_of_ble_eq_true rfl, Nat.le_of_ble_eq_true rfl⟩) E_X_ok (fun U hU hvm => lw_EX hX hbl hbA hS hA hU hvm) hK hP hD hS hA rfl hl.1 rfl (Nat.le_of_ble_eq_true rfl) dLW_6 ⟨Nat.le_of_ble_eq_true rfl, Nat.le_of_ble_eq_true rfl⟩ (fun r u H locs hu hP hD hS => ?_)
  have hu : r = xsAt xs L 0 := hu
  subst hu
  refine lv_aload_n hx hb dLW_9 rfl (lv_at hl 0 rfl) ?_
  refine lv_iconst (v := nI 1) hx hb dLW_10 (by decide) ?_
  refine gSE (wc := []) (wr := [(aR, .inr (3, [.null, .null, .null, .null, .int 0, .int 0]))]) (As := [.ref b, .int (nI 1)]) (rst := [.int (xsAt xs L 0), .ref aR, .ref aR]) ⟨hx, hb, hml, hown, hts⟩ (c_cell l dC dI cI cB cQ cJ hL 1 (by omega)) (va_cwS 2 hts (gdS t_mL_17 t_stat_L_cell t_ini_L t_code_L_cell) rfl rfl rfl (by decide +kernel) ⟨Nat.le_of_ble_eq_true rfl, Nat.le_of_ble_eq_true rfl⟩) E_X_ok (fun U hU hvm => lw_EX hX hbl hbA hS hA hU hvm) hK hP hD hS hA rfl hl.1 rfl (Nat.le_of_ble_eq_true rfl) dLW_11 ⟨Nat.le_of_ble_eq_true rfl, Nat.le_of_ble_eq_true rfl⟩ (fun r u H locs hu hP hD hS => ?_)
  have hu : r = xsAt xs L 1 := hu
  subst hu
  refine gI (wc := [(aR, .inr (3, [.null, .null, .null, .null, .int 0, .int 0]))]) (wr := []) (b := aR) (As := [.int (xsAt xs L 0), .int (xsAt xs L 1)]) (rst := [.ref aR]) ⟨hx, hb, hml, hown, hts⟩ (c_nRing l dC dI cI cB cQ cJ aR (xsAt xs L 0) (xsAt xs L 1)) (cwI 2 hts (fun w hw => by rcases List.mem_cons.mp hw with rfl | h; exact ⟨t_code_X3_init, TB_good t_code_X3_init⟩; exact ⟨h, TB_good h⟩) rfl rfl rfl (hts _ t_ini_X3) (hts _ t_mL_23) (hts _ t_inst_X3_init) rfl (by decide +kernel) ⟨Nat.le_of_ble_eq_true rfl, Nat.le_of_ble_eq_true rfl⟩) E_in_ok (fun U hU hvm => ⟨hEs.call hS (x_free (wc := [(aR, .inr (3, [.null, .null, .null, .null, .int 0, .int 0]))]) (wr := []) hD hS hA) hU hvm, hAO.moved hvm⟩) hK hP hD hS hA rfl hl.1 rfl (Nat.le_of_ble_eq_true rfl) dLW_14 ⟨Nat.le_of_ble_eq_true rfl, Nat.le_of_ble_eq_true rfl⟩ (fun u H locs hu hP hD hS => ?_)
  obtain ⟨aS, aA, aL, aE, aEW, aEK, aTs, aWs, aMs⟩ := u
  have hP : va_P (dC, dI) vwCl (RWs cI cB cQ (aR, aS, aA, aL, aE, aEW, aEK, aTs, aWs, aMs) (dr_sz (xsAt xs L 0)) (dr_ns (xsAt xs L 1)) (true, -1, 0, fun _ => false, fun _ => false, fun _ => 0, fun _ _ => 0, fun _ _ => false, fun _ => false) ++ []) H := hP
  have hD : va_D A (RWs cI cB cQ (aR, aS, aA, aL, aE, aEW, aEK, aTs, aWs, aMs) (dr_sz (xsAt xs L 0)) (dr_ns (xsAt xs L 1)) (true, -1, 0, fun _ => false, fun _ => false, fun _ => 0, fun _ _ => 0, fun _ _ => false, fun _ => false) ++ []) := hD
  refine lv_astore_n hx hb dLW_17 rfl hl (by decide) rfl (fun ls hl => ?_)
  have hl : lv_has ls 7 [(1, .ref aR), (0, .ref b)] := hl
  refine va_new (ci := 4) (fs := [.int (nI 0), .int 0, .int 0, .null, .null, .null, .null, .int (bI false), .int 0, .null, .null, .null, .null, .int (nI 0)]) (C := RX4) (T := TX4) (N := 14) hx hb hts inX4 tyX4 tyX4_ok hown (hts _ t_cL_26) (hts _ t_new_X4) (hts _ t_ini_X4) hK hP hD hS hA rfl (fun j hj => by rcases (show j = 0 ∨ j = 1 ∨ j = 2 ∨ j = 3 ∨ j = 4 ∨ j = 5 ∨ j = 6 ∨ j = 7 ∨ j = 8 ∨ j = 9 ∨ j = 10 ∨ j = 11 ∨ j = 12 ∨ j = 13 by omega) with rfl | rfl | rfl | rfl | rfl | rfl | rfl | rfl | rfl | rfl | rfl | rfl | rfl | rfl <;> rfl) (Nat.le_of_ble_eq_true rfl) (Nat.le_of_ble_eq_true rfl) dLW_18 (fun aO H hP hD hS => ?_)
  have hP := hP.perm (ws' := [(aO, .inr (4, [.int (nI 0), .int 0, .int 0, .null, .null, .null, .null, .int (bI false), .int 0, .null, .null, .null, .null, .int (nI 0)]))] ++ (RWs cI cB cQ (aR, aS, aA, aL, aE, aEW, aEK, aTs, aWs, aMs) (dr_sz (xsAt xs L 0)) (dr_ns (xsAt xs L 1)) (true, -1, 0, fun _ => false, fun _ => false, fun _ => 0, fun _ _ => 0, fun _ _ => false, fun _ => false) ++ [])) List.perm_append_comm
  have hD := hD.perm (ws' := [(aO, .inr (4, [.int (nI 0), .int 0, .int 0, .null, .null, .null, .null, .int (bI false), .int 0, .null, .null, .null, .null, .int (nI 0)]))] ++ (RWs cI cB cQ (aR, aS, aA, aL, aE, aEW, aEK, aTs, aWs, aMs) (dr_sz (xsAt xs L 0)) (dr_ns (xsAt xs L 1)) (true, -1, 0, fun _ => false, fun _ => false, fun _ => 0, fun _ _ => 0, fun _ _ => false, fun _ => false) ++ [])) List.perm_append_comm
  refine lv_dup hx hb dLW_21 rfl ?_
  refine lv_aload_n hx hb dLW_22 rfl (lv_at hl 1 rfl) ?_
  refine lv_iconst (v := nI 0) hx hb dLW_23 (by decide) ?_
  refine gSE (wc := []) (wr := ([(aO, .inr (4, [.int (nI 0), .int 0, .int 0, .null, .null, .null, .null, .int (bI false), .int 0, .null, .null, .null, .null, .int (nI 0)]))] ++ (RWs cI cB cQ (aR, aS, aA, aL, aE, aEW, aEK, aTs, aWs, aMs) (dr_sz (xsAt xs L 0)) (dr_ns (xsAt xs L 1)) (true, -1, 0, fun _ => false, fun _ => false, fun _ => 0, fun _ _ => 0, fun _ _ => false, fun _ => false) ++ []))) (As := [.ref b, .int (nI 0)]) (rst := [.ref aO, .ref aO]) ⟨hx, hb, hml, hown, hts⟩ (c_cell l dC dI cI cB cQ cJ hL 0 (by omega)) (va_cwS 2 hts (gdS t_mL_17 t_stat_L_cell t_ini_L t_code_L_cell) rfl rfl rfl (by decide +kernel) ⟨Nat.le_of_ble_eq_true rfl, Nat.le_of_ble_eq_true rfl⟩) E_X_ok (fun U hU hvm => lw_EX hX hbl hbA hS hA hU hvm) hK hP hD hS hA rfl hl.1 rfl (Nat.le_of_ble_eq_true rfl) dLW_24 ⟨Nat.le_of_ble_eq_true rfl, Nat.le_of_ble_eq_true rfl⟩ (fun r u H locs hu hP hD hS => ?_)
  have hu : r = xsAt xs L 0 := hu
  subst hu
  refine lv_aload_n hx hb dLW_27 rfl (lv_at hl 1 rfl) ?_
  refine lv_iconst (v := nI 1) hx hb dLW_28 (by decide) ?_
  refine gSE (wc := []) (wr := ([(aO, .inr (4, [.int (nI 0), .int 0, .int 0, .null, .null, .null, .null, .int (bI false), .int 0, .null, .null, .null, .null, .int (nI 0)]))] ++ (RWs cI cB cQ (aR, aS, aA, aL, aE, aEW, aEK, aTs, aWs, aMs) (dr_sz (xsAt xs L 0)) (dr_ns (xsAt xs L 1)) (true, -1, 0, fun _ => false, fun _ => false, fun _ => 0, fun _ _ => 0, fun _ _ => false, fun _ => false) ++ []))) (As := [.ref b, .int (nI 1)]) (rst := [.int (xsAt xs L 0), .ref aO, .ref aO]) ⟨hx, hb, hml, hown, hts⟩ (c_cell l dC dI cI cB cQ cJ hL 1 (by omega)) (va_cwS 2 hts (gdS t_mL_17 t_stat_L_cell t_ini_L t_code_L_cell) rfl rfl rfl (by decide +kernel) ⟨Nat.le_of_ble_eq_true rfl, Nat.le_of_ble_eq_true rfl⟩) E_X_ok (fun U hU hvm => lw_EX hX hbl hbA hS hA hU hvm) hK hP hD hS hA rfl hl.1 rfl (Nat.le_of_ble_eq_true rfl) dLW_29 ⟨Nat.le_of_ble_eq_true rfl, Nat.le_of_ble_eq_true rfl⟩ (fun r u H locs hu hP hD hS => ?_)
  have hu : r = xsAt xs L 1 := hu
  subst hu
  refine gI (wc := [(aO, .inr (4, [.int (nI 0), .int 0, .int 0, .null, .null, .null, .null, .int (bI false), .int 0, .null, .null, .null, .null, .int (nI 0)]))]) (wr := (RWs cI cB cQ (aR, aS, aA, aL, aE, aEW, aEK, aTs, aWs, aMs) (dr_sz (xsAt xs L 0)) (dr_ns (xsAt xs L 1)) (true, -1, 0, fun _ => false, fun _ => false, fun _ => 0, fun _ _ => 0, fun _ _ => false, fun _ => false) ++ [])) (b := aO) (As := [.int (xsAt xs L 0), .int (xsAt xs L 1)]) (rst := [.ref aO]) ⟨hx, hb, hml, hown, hts⟩ (c_nModel l dC dI cI cB cQ cJ aO (xsAt xs L 0) (xsAt xs L 1)) (cwI 2 hts (fun w hw => by rcases List.mem_cons.mp hw with rfl | h; exact ⟨t_code_X4_init, TB_good t_code_X4_init⟩; exact ⟨h, TB_good h⟩) rfl rfl rfl (hts _ t_ini_X4) (hts _ t_mL_28) (hts _ t_inst_X4_init) rfl (by decide +kernel) ⟨Nat.le_of_ble_eq_true rfl, Nat.le_of_ble_eq_true rfl⟩) E0_ok (fun _ _ _ => trivial) hK hP hD hS hA rfl hl.1 rfl (Nat.le_of_ble_eq_true rfl) dLW_32 ⟨Nat.le_of_ble_eq_true rfl, Nat.le_of_ble_eq_true rfl⟩ (fun u H locs hu hP hD hS => ?_)
  obtain ⟨bW, bL, bF, bK, bB, bS, bN, bM⟩ := u
  have hP : va_P (dC, dI) vwCl (WMs cI cB (aO, bW, bL, bF, bK, bB, bS, bN, bM) (dr_sz (xsAt xs L 0)) (dr_ns (xsAt xs L 1)) lw_M0 ++ (RWs cI cB cQ (aR, aS, aA, aL, aE, aEW, aEK, aTs, aWs, aMs) (dr_sz (xsAt xs L 0)) (dr_ns (xsAt xs L 1)) (true, -1, 0, fun _ => false, fun _ => false, fun _ => 0, fun _ _ => 0, fun _ _ => false, fun _ => false) ++ [])) H := hP
  have hD : va_D A (WMs cI cB (aO, bW, bL, bF, bK, bB, bS, bN, bM) (dr_sz (xsAt xs L 0)) (dr_ns (xsAt xs L 1)) lw_M0 ++ (RWs cI cB cQ (aR, aS, aA, aL, aE, aEW, aEK, aTs, aWs, aMs) (dr_sz (xsAt xs L 0)) (dr_ns (xsAt xs L 1)) (true, -1, 0, fun _ => false, fun _ => false, fun _ => 0, fun _ _ => 0, fun _ _ => false, fun _ => false) ++ [])) := hD
  refine lv_astore_n hx hb dLW_35 rfl hl (by decide) rfl (fun ls hl => ?_)
  have hl : lv_has ls 7 [(2, .ref aO), (1, .ref aR), (0, .ref b)] := hl
  refine lv_iconst (v := nI 1) hx hb dLW_36 (by decide) ?_
  refine x_newJ hx hb (hts _ t_arr_long) hK hP hD hS hA (Nat.le_of_ble_eq_true rfl) (Nat.le_of_ble_eq_true rfl) dLW_37 (fun aJ H hP hD hS => ?_)
  have hP := hP.perm (ws' := [(aJ, .inl (cJ, 1, .inr (.inl (fun _ => 0))))] ++ (RWs cI cB cQ (aR, aS, aA, aL, aE, aEW, aEK, aTs, aWs, aMs) (dr_sz (xsAt xs L 0)) (dr_ns (xsAt xs L 1)) (true, -1, 0, fun _ => false, fun _ => false, fun _ => 0, fun _ _ => 0, fun _ _ => false, fun _ => false) ++ (WMs cI cB (aO, bW, bL, bF, bK, bB, bS, bN, bM) (dr_sz (xsAt xs L 0)) (dr_ns (xsAt xs L 1)) lw_M0 ++ []))) ((List.Perm.append_left [(aJ, .inl (cJ, 1, .inr (.inl (fun _ => 0))))] (perm_mid (WMs cI cB (aO, bW, bL, bF, bK, bB, bS, bN, bM) (dr_sz (xsAt xs L 0)) (dr_ns (xsAt xs L 1)) lw_M0) (RWs cI cB cQ (aR, aS, aA, aL, aE, aEW, aEK, aTs, aWs, aMs) (dr_sz (xsAt xs L 0)) (dr_ns (xsAt xs L 1)) (true, -1, 0, fun _ => false, fun _ => false, fun _ => 0, fun _ _ => 0, fun _ _ => false, fun _ => false)) []).symm).trans List.perm_append_comm)
  have hD := hD.perm (ws' := [(aJ, .inl (cJ, 1, .inr (.inl (fun _ => 0))))] ++ (RWs cI cB cQ (aR, aS, aA, aL, aE, aEW, aEK, aTs, aWs, aMs) (dr_sz (xsAt xs L 0)) (dr_ns (xsAt xs L 1)) (true, -1, 0, fun _ => false, fun _ => false, fun _ => 0, fun _ _ => 0, fun _ _ => false, fun _ => false) ++ (WMs cI cB (aO, bW, bL, bF, bK, bB, bS, bN, bM) (dr_sz (xsAt xs L 0)) (dr_ns (xsAt xs L 1)) lw_M0 ++ []))) ((List.Perm.append_left [(aJ, .inl (cJ, 1, .inr (.inl (fun _ => 0))))] (perm_mid (WMs cI cB (aO, bW, bL, bF, bK, bB, bS, bN, bM) (dr_sz (xsAt xs L 0)) (dr_ns (xsAt xs L 1)) lw_M0) (RWs cI cB cQ (aR, aS, aA, aL, aE, aEW, aEK, aTs, aWs, aMs) (dr_sz (xsAt xs L 0)) (dr_ns (xsAt xs L 1)) (true, -1, 0, fun _ => false, fun _ => false, fun _ => 0, fun _ _ => 0, fun _ _ => false, fun _ => false)) []).symm).trans List.perm_append_comm)
  refine lv_astore_n hx hb dLW_39 rfl hl (by decide) rfl (fun ls hl => ?_)
  refine lv_iconst (v := nI 2) hx hb dLW_40 (by decide) ?_
  refine lv_istore hx hb dLW_41 hl (by decide) rfl (fun ls hl => ?_)
  have hl : lv_has ls 7 [(4, .int (nI 2)), (3, .ref aJ), (2, .ref aO), (1, .ref aR), (0, .ref b)] := hl
  exact law_loop (a := (aR, aS, aA, aL, aE, aEW, aEK, aTs, aWs, aMs)) (bm := (aO, bW, bL, bF, bK, bB, bS, bN, bM)) l htl hL hx hb hr hml hown hts hX hbl hlk hAe.symm hEt hK 514 0 _ lw_M0 (fun _ => 0) ls H _ (by omega) (by omega) (lw_inv0 _ _) hl hP hD hS
