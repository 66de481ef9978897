abbrev rm_c_isDrive : Room := { frames := 0, cells := 0, slots := 0, locals := 0 }
set_option maxHeartbeats 4000000 in
set_option maxRecDepth 100000 in
theorem c_isDrive (l : Launch) (dC : Nat → ClassId) (dI : Nat → Nat → Nat) (cI cB cQ cJ : ClassId) (aR : Nat) (aS : Nat) (aA : Nat) (aL : Nat) (aE : Nat) (pw : Bool) (tn : Int32) (P : Nat) (x : Int32)  : MG l yX3_isDrive (Cond.code yX3_isDrive cX3_isDrive 2 (some .boolean) :: TB) rm_c_isDrive (dC, dI) vwCl (TY cI cB cQ cJ) [.ref aR, .int x] [(aR, .inr (3, [.ref aS, .ref aA, .ref aL, .ref aE, .int (bI pw), .int tn])), (aS, .inr (0, [.int (nI P), .int (nI (P - 2)), .int (nI (P - 1)), .int (nI (P * (P - 2)))]))] (fun (r : Int32) (u : Unit) => r = bI (dr_in x P)) (fun (u : Unit) => [(aR, .inr (3, [.ref aS, .ref aA, .ref aL, .ref aE, .int (bI pw), .int tn])), (aS, .inr (0, [.int (nI P), .int (nI (P - 2)), .int (nI (P - 1)), .int (nI (P * (P - 2)))]))]) := by
  refine MG.ofW (cc := cX3_isDrive) (maxL := 2) (rt := .boolean) (by decide +kernel) rfl (Nat.le_of_ble_eq_true rfl) ?_
  intro p e s m args below meth c A ls Q H locs hQ hx hb hml hr hlk hts hown hK hP hD hS hA hl
  have hts : ∀ w ∈ TB, w.before args s = true := fun w h => hts w (List.mem_cons_of_mem _ h)
  have hown : s.vm.findClass RX3 = some m.cls := hown
  have hl : lv_has ls 2 [(0, .ref aR), (1, .int x)] := hl
  have hP : va_P (dC, dI) vwCl [(aR, .inr (3, [.ref aS, .ref aA, .ref aL, .ref aE, .int (bI pw), .int tn])), (aS, .inr (0, [.int (nI P), .int (nI (P - 2)), .int (nI (P - 1)), .int (nI (P * (P - 2)))]))] H := hP
  have hD : va_D A [(aR, .inr (3, [.ref aS, .ref aA, .ref aL, .ref aE, .int (bI pw), .int tn])), (aS, .inr (0, [.int (nI P), .int (nI (P - 2)), .int (nI (P - 1)), .int (nI (P * (P - 2)))]))] := hD
  refine lv_iload_n hx hb dX3_isDrive_0 rfl (lv_at hl 1 rfl) ?_
  refine lv_if_lt (tgt := 19) hx hb dX3_isDrive_1 (by decide) (fun h1 => ?_) (fun h1 => ?_)
  · -- 1t
    refine lv_iconst (v := bI false) hx hb dX3_isDrive_19 (by decide) ?_
    exact x_zret (D := (dC, dI)) (cl := vwCl) (A := A) () hQ hx hb hr hlk hP hD hS dX3_isDrive_20 (by first | rfl | (simp [dr_in, h1]; done) | (simp [dr_in, h1]; omega))
  · -- 1f
    refine lv_iload_n hx hb dX3_isDrive_4 rfl (lv_at hl 1 rfl) ?_
    refine lv_aload_n hx hb dX3_isDrive_5 rfl (lv_at hl 0 rfl) ?_
    refine va_get (D := (dC, dI)) (ci := 3) (v := .ref aS) (C := RX3) (T := TX3) (N := 6) hx hb hts inX3 hown hK hP 0 rfl rfl 0 (by decide) (hts _ t_fX3_32) (fun _ h9 => h9) rfl dX3_isDrive_6 ?_
    refine va_get (D := (dC, dI)) (ci := 0) (v := .int (nI P)) (C := RX0) (T := TX0) (N := 4) hx hb hts inX0 hown hK hP 1 rfl rfl 0 (by decide) (hts _ t_fX3_40) (fun _ h9 => h9) rfl dX3_isDrive_9 ?_
    refine lv_icmp_ge (tgt := 19) hx hb dX3_isDrive_12 (by decide) (fun h12 => ?_) (fun h12 => ?_)
    · -- 12t
      refine lv_iconst (v := bI false) hx hb dX3_isDrive_19 (by decide) ?_
      exact x_zret (D := (dC, dI)) (cl := vwCl) (A := A) () hQ hx hb hr hlk hP hD hS dX3_isDrive_20 (by first | rfl | (simp [dr_in, h1, h12]; done) | (simp [dr_in, h1, h12]; omega))
    · -- 12f
      refine lv_iconst (v := bI true) hx hb dX3_isDrive_15 (by decide) ?_
      refine lv_goto (tgt := 20) hx hb dX3_isDrive_16 (by decide) ?_
      exact x_zret (D := (dC, dI)) (cl := vwCl) (A := A) () hQ hx hb hr hlk hP hD hS dX3_isDrive_20 (by first | rfl | (simp [dr_in, h1, h12]; done) | (simp [dr_in, h1, h12]; omega))

abbrev rm_c_isStripe : Room := { frames := 0, cells := 0, slots := 0, locals := 0 }
set_option maxHeartbeats 4000000 in
set_option maxRecDepth 100000 in
theorem c_isStripe (l : Launch) (dC : Nat → ClassId) (dI : Nat → Nat → Nat) (cI cB cQ cJ : ClassId) (aR : Nat) (aS : Nat) (aA : Nat) (aL : Nat) (aE : Nat) (pw : Bool) (tn : Int32) (n : Nat) (aTs : Nat → Nat) (x : Int32)  : MG l yX3_isStripe (Cond.code yX3_isStripe cX3_isStripe 2 (some .boolean) :: TB) rm_c_isStripe (dC, dI) vwCl (TY cI cB cQ cJ) [.ref aR, .int x] [(aR, .inr (3, [.ref aS, .ref aA, .ref aL, .ref aE, .int (bI pw), .int tn])), (aA, .inl (cQ, n, .inr (.inr (.inr (.inr (fun z8 => some (aTs z8)))))))] (fun (r : Int32) (u : Unit) => r = bI (dr_in x n)) (fun (u : Unit) => [(aR, .inr (3, [.ref aS, .ref aA, .ref aL, .ref aE, .int (bI pw), .int tn])), (aA, .inl (cQ, n, .inr (.inr (.inr (.inr (fun z8 => some (aTs z8)))))))]) := by
  refine MG.ofW (cc := cX3_isStripe) (maxL := 2) (rt := .boolean) (by decide +kernel) rfl (Nat.le_of_ble_eq_true rfl) ?_
  intro p e s m args below meth c A ls Q H locs hQ hx hb hml hr hlk hts hown hK hP hD hS hA hl
  have hts : ∀ w ∈ TB, w.before args s = true := fun w h => hts w (List.mem_cons_of_mem _ h)
  have hown : s.vm.findClass RX3 = some m.cls := hown
  have hl : lv_has ls 2 [(0, .ref aR), (1, .int x)] := hl
  have hP : va_P (dC, dI) vwCl [(aR, .inr (3, [.ref aS, .ref aA, .ref aL, .ref aE, .int (bI pw), .int tn])), (aA, .inl (cQ, n, .inr (.inr (.inr (.inr (fun z8 => some (aTs z8)))))))] H := hP
  have hD : va_D A [(aR, .inr (3, [.ref aS, .ref aA, .ref aL, .ref aE, .int (bI pw), .int tn])), (aA, .inl (cQ, n, .inr (.inr (.inr (.inr (fun z8 => some (aTs z8)))))))] := hD
  refine lv_iload_n hx hb dX3_isStripe_0 rfl (lv_at hl 1 rfl) ?_
  refine lv_if_lt (tgt := 17) hx hb dX3_isStripe_1 (by decide) (fun h1 => ?_) (fun h1 => ?_)
  · -- 1t
    refine lv_iconst (v := bI false) hx hb dX3_isStripe_17 (by decide) ?_
    exact x_zret (D := (dC, dI)) (cl := vwCl) (A := A) () hQ hx hb hr hlk hP hD hS dX3_isStripe_18 (by first | rfl | (simp [dr_in, h1]; done) | (simp [dr_in, h1]; omega))
  · -- 1f
    refine lv_iload_n hx hb dX3_isStripe_4 rfl (lv_at hl 1 rfl) ?_
    refine lv_aload_n hx hb dX3_isStripe_5 rfl (lv_at hl 0 rfl) ?_
    refine va_get (D := (dC, dI)) (ci := 3) (v := .ref aA) (C := RX3) (T := TX3) (N := 6) hx hb hts inX3 hown hK hP 0 rfl rfl 1 (by decide) (hts _ t_fX3_36) (fun _ h9 => h9) rfl dX3_isStripe_6 ?_
    refine va_alen (v := nI n) hx hb hK hP 1 2 rfl rfl rfl dX3_isStripe_9 ?_
    refine lv_icmp_ge (tgt := 17) hx hb dX3_isStripe_10 (by decide) (fun h10 => ?_) (fun h10 => ?_)
    · -- 10t
      refine lv_iconst (v := bI false) hx hb dX3_isStripe_17 (by decide) ?_
      exact x_zret (D := (dC, dI)) (cl := vwCl) (A := A) () hQ hx hb hr hlk hP hD hS dX3_isStripe_18 (by first | rfl | (simp [dr_in, h1, h10]; done) | (simp [dr_in, h1, h10]; omega))
    · -- 10f
      refine lv_iconst (v := bI true) hx hb dX3_isStripe_13 (by decide) ?_
      refine lv_goto (tgt := 18) hx hb dX3_isStripe_14 (by decide) ?_
      exact x_zret (D := (dC, dI)) (cl := vwCl) (A := A) () hQ hx hb hr hlk hP hD hS dX3_isStripe_18 (by first | rfl | (simp [dr_in, h1, h10]; done) | (simp [dr_in, h1, h10]; omega))

abbrev rm_c_isBlock : Room := { frames := 0, cells := 0, slots := 0, locals := 0 }
set_option maxHeartbeats 4000000 in
set_option maxRecDepth 100000 in
theorem c_isBlock (l : Launch) (dC : Nat → ClassId) (dI : Nat → Nat → Nat) (cI cB cQ cJ : ClassId) (aR : Nat) (aS : Nat) (aA : Nat) (aL : Nat) (aE : Nat) (pw : Bool) (tn : Int32) (P : Nat) (n : Nat) (aTs : Nat → Nat) (x : Int32)  : MG l yX3_isBlock (Cond.code yX3_isBlock cX3_isBlock 2 (some .boolean) :: TB) rm_c_isBlock (dC, dI) vwCl (TY cI cB cQ cJ) [.ref aR, .int x] [(aR, .inr (3, [.ref aS, .ref aA, .ref aL, .ref aE, .int (bI pw), .int tn])), (aS, .inr (0, [.int (nI P), .int (nI (P - 2)), .int (nI (P - 1)), .int (nI (P * (P - 2)))])), (aA, .inl (cQ, n, .inr (.inr (.inr (.inr (fun z8 => some (aTs z8)))))))] (fun (r : Int32) (u : Unit) => r = bI (dr_in x (n * (P * (P - 2))))) (fun (u : Unit) => [(aR, .inr (3, [.ref aS, .ref aA, .ref aL, .ref aE, .int (bI pw), .int tn])), (aS, .inr (0, [.int (nI P), .int (nI (P - 2)), .int (nI (P - 1)), .int (nI (P * (P - 2)))])), (aA, .inl (cQ, n, .inr (.inr (.inr (.inr (fun z8 => some (aTs z8)))))))]) := by
  refine MG.ofW (cc := cX3_isBlock) (maxL := 2) (rt := .boolean) (by decide +kernel) rfl (Nat.le_of_ble_eq_true rfl) ?_
  intro p e s m args below meth c A ls Q H locs hQ hx hb hml hr hlk hts hown hK hP hD hS hA hl
  have hts : ∀ w ∈ TB, w.before args s = true := fun w h => hts w (List.mem_cons_of_mem _ h)
  have hown : s.vm.findClass RX3 = some m.cls := hown
  have hl : lv_has ls 2 [(0, .ref aR), (1, .int x)] := hl
  have hP : va_P (dC, dI) vwCl [(aR, .inr (3, [.ref aS, .ref aA, .ref aL, .ref aE, .int (bI pw), .int tn])), (aS, .inr (0, [.int (nI P), .int (nI (P - 2)), .int (nI (P - 1)), .int (nI (P * (P - 2)))])), (aA, .inl (cQ, n, .inr (.inr (.inr (.inr (fun z8 => some (aTs z8)))))))] H := hP
  have hD : va_D A [(aR, .inr (3, [.ref aS, .ref aA, .ref aL, .ref aE, .int (bI pw), .int tn])), (aS, .inr (0, [.int (nI P), .int (nI (P - 2)), .int (nI (P - 1)), .int (nI (P * (P - 2)))])), (aA, .inl (cQ, n, .inr (.inr (.inr (.inr (fun z8 => some (aTs z8)))))))] := hD
  refine lv_iload_n hx hb dX3_isBlock_0 rfl (lv_at hl 1 rfl) ?_
  refine lv_if_lt (tgt := 25) hx hb dX3_isBlock_1 (by decide) (fun h1 => ?_) (fun h1 => ?_)
  · -- 1t
    refine lv_iconst (v := bI false) hx hb dX3_isBlock_25 (by decide) ?_
    exact x_zret (D := (dC, dI)) (cl := vwCl) (A := A) () hQ hx hb hr hlk hP hD hS dX3_isBlock_26 (by first | rfl | (simp [dr_in, h1]; done) | (simp [dr_in, h1]; omega))
  · -- 1f
    refine lv_iload_n hx hb dX3_isBlock_4 rfl (lv_at hl 1 rfl) ?_
    refine lv_aload_n hx hb dX3_isBlock_5 rfl (lv_at hl 0 rfl) ?_
    refine va_get (D := (dC, dI)) (ci := 3) (v := .ref aA) (C := RX3) (T := TX3) (N := 6) hx hb hts inX3 hown hK hP 0 rfl rfl 1 (by decide) (hts _ t_fX3_36) (fun _ h9 => h9) rfl dX3_isBlock_6 ?_
    refine va_alen (v := nI n) hx hb hK hP 2 2 rfl rfl rfl dX3_isBlock_9 ?_
    refine lv_aload_n hx hb dX3_isBlock_10 rfl (lv_at hl 0 rfl) ?_
    refine va_get (D := (dC, dI)) (ci := 3) (v := .ref aS) (C := RX3) (T := TX3) (N := 6) hx hb hts inX3 hown hK hP 0 rfl rfl 0 (by decide) (hts _ t_fX3_32) (fun _ h9 => h9) rfl dX3_isBlock_11 ?_
    refine va_get (D := (dC, dI)) (ci := 0) (v := .int (nI (P * (P - 2)))) (C := RX0) (T := TX0) (N := 4) hx hb hts inX0 hown hK hP 1 rfl rfl 3 (by decide) (hts _ t_fX3_62) (fun _ h9 => h9) rfl dX3_isBlock_14 ?_
    refine x_mul hx hb dX3_isBlock_17 ?_
    refine lv_icmp_ge (tgt := 25) hx hb dX3_isBlock_18 (by decide) (fun h18 => ?_) (fun h18 => ?_)
    · -- 18t
      refine lv_iconst (v := bI false) hx hb dX3_isBlock_25 (by decide) ?_
      exact x_zret (D := (dC, dI)) (cl := vwCl) (A := A) () hQ hx hb hr hlk hP hD hS dX3_isBlock_26 (by first | rfl | (simp [dr_in, h1, h18]; done) | (simp [dr_in, h1, h18]; omega))
    · -- 18f
      refine lv_iconst (v := bI true) hx hb dX3_isBlock_21 (by decide) ?_
      refine lv_goto (tgt := 26) hx hb dX3_isBlock_22 (by decide) ?_
      exact x_zret (D := (dC, dI)) (cl := vwCl) (A := A) () hQ hx hb hr hlk hP hD hS dX3_isBlock_26 (by first | rfl | (simp [dr_in, h1, h18]; done) | (simp [dr_in, h1, h18]; omega))

abbrev rm_c_lostDrives : Room := { frames := 0, cells := 0, slots := 0, locals := 0 }
set_option maxHeartbeats 4000000 in
set_option maxRecDepth 100000 in
theorem c_lostDrives (l : Launch) (dC : Nat → ClassId) (dI : Nat → Nat → Nat) (cI cB cQ cJ : ClassId) (aR : Nat) (aS : Nat) (aA : Nat) (aL : Nat) (aE : Nat) (pw : Bool) (tn : Int32) (P : Nat) (lo : Nat → Bool) (hp5 : dr_P P) : MG l yX3_lostDrives (Cond.code yX3_lostDrives cX3_lostDrives 3 (some .int) :: TB) rm_c_lostDrives (dC, dI) vwCl (TY cI cB cQ cJ) [.ref aR] [(aR, .inr (3, [.ref aS, .ref aA, .ref aL, .ref aE, .int (bI pw), .int tn])), (aS, .inr (0, [.int (nI P), .int (nI (P - 2)), .int (nI (P - 1)), .int (nI (P * (P - 2)))])), (aL, .inl (cB, P, .inl (fun z9 => bI (lo z9))))] (fun (r : Int32) (u : Unit) => r = nI (dr_cnt lo P)) (fun (u : Unit) => [(aR, .inr (3, [.ref aS, .ref aA, .ref aL, .ref aE, .int (bI pw), .int tn])), (aS, .inr (0, [.int (nI P), .int (nI (P - 2)), .int (nI (P - 1)), .int (nI (P * (P - 2)))])), (aL, .inl (cB, P, .inl (fun z9 => bI (lo z9))))]) := by
  refine MG.ofW (cc := cX3_lostDrives) (maxL := 3) (rt := .int) (by decide +kernel) rfl (Nat.le_of_ble_eq_true rfl) ?_
  intro p e s m args below meth c A ls Q H locs hQ hx hb hml hr hlk hts hown hK hP hD hS hA hl
  have hts : ∀ w ∈ TB, w.before args s = true := fun w h => hts w (List.mem_cons_of_mem _ h)
  have hown : s.vm.findClass RX3 = some m.cls := hown
  have hl : lv_has ls 3 [(0, .ref aR)] := hl
  have hP : va_P (dC, dI) vwCl [(aR, .inr (3, [.ref aS, .ref aA, .ref aL, .ref aE, .int (bI pw), .int tn])), (aS, .inr (0, [.int (nI P), .int (nI (P - 2)), .int (nI (P - 1)), .int (nI (P * (P - 2)))])), (aL, .inl (cB, P, .inl (fun z9 => bI (lo z9))))] H := hP
  have hD : va_D A [(aR, .inr (3, [.ref aS, .ref aA, .ref aL, .ref aE, .int (bI pw), .int tn])), (aS, .inr (0, [.int (nI P), .int (nI (P - 2)), .int (nI (P - 1)), .int (nI (P * (P - 2)))])), (aL, .inl (cB, P, .inl (fun z9 => bI (lo z9))))] := hD
  have hp := hp5.le
  have hpp := dr_PP hp5
  have hpq := dr_PP2 hp5
  refine lv_iconst (v := nI 0) hx hb dX3_lostDrives_0 (by decide) ?_
  refine lv_istore_n hx hb dX3_lostDrives_1 rfl hl (by decide) rfl (fun ls hl => ?_)
  have hl : lv_has ls 3 [(1, .int (nI 0)), (0, .ref aR)] := hl
  refine lv_iconst (v := nI 0) hx hb dX3_lostDrives_2 (by decide) ?_
  refine lv_istore_n hx hb dX3_lostDrives_3 rfl hl (by decide) rfl (fun ls hl => ?_)
  have hl : lv_has ls 3 [(2, .int (nI 0)), (1, .int (nI 0)), (0, .ref aR)] := hl
  have lp4 : ∀ (n9 : Nat) (i : Nat) (ls : Array Slot) (H : Heap) (locs : List Loc), P - i < n9 → (i ≤ P) → lv_has ls 3 [(2, .int (nI i)), (1, .int (nI (dr_cnt lo i))), (0, .ref aR)] → va_P (dC, dI) vwCl [(aR, .inr (3, [.ref aS, .ref aA, .ref aL, .ref aE, .int (bI pw), .int tn])), (aS, .inr (0, [.int (nI P), .int (nI (P - 2)), .int (nI (P - 1)), .int (nI (P * (P - 2)))])), (aL, .inl (cB, P, .inl (fun z9 => bI (lo z9))))] H → va_D A [(aR, .inr (3, [.ref aS, .ref aA, .ref aL, .ref aE, .int (bI pw), .int tn])), (aS, .inr (0, [.int (nI P), .int (nI (P - 2)), .int (nI (P - 1)), .int (nI (P * (P - 2)))])), (aL, .inl (cB, P, .inl (fun z9 => bI (lo z9))))] → va_S A s.heap H locs → W p l e rm_c_lostDrives s m args below meth c H locs 0 0 Q (F0 m 4 ls []) := by
    intro n9
    induction n9 with
    | zero => intro i ls H locs hn9; omega
    | succ n9 ih4 =>
      intro i ls H locs hn9 hi hl hP hD hS
      refine lv_iload_n hx hb dX3_lostDrives_4 rfl (lv_at hl 0 rfl) ?_
      refine lv_aload_n hx hb dX3_lostDrives_5 rfl (lv_at hl 2 rfl) ?_
      refine va_get (D := (dC, dI)) (ci := 3) (v := .ref aS) (C := RX3) (T := TX3) (N := 6) hx hb hts inX3 hown hK hP 0 rfl rfl 0 (by decide) (hts _ t_fX3_32) (fun _ h9 => h9) rfl dX3_lostDrives_6 ?_
      refine va_get (D := (dC, dI)) (ci := 0) (v := .int (nI P)) (C := RX0) (T := TX0) (N := 4) hx hb hts inX0 hown hK hP 1 rfl rfl 0 (by decide) (hts _ t_fX3_40) (fun _ h9 => h9) rfl dX3_lostDrives_9 ?_
      refine x_cge (tgt := 33) hx hb dX3_lostDrives_12 (by decide) (by omega) (by omega) (fun h12 => ?_) (fun h12 => ?_)
      · -- 12t
        have hie12 : i = P := by omega
        try rw [hie12] at hl
        try rw [hie12] at hP
        try rw [hie12] at hD
        have hl : lv_has ls 3 [(2, .int (nI P)), (1, .int (nI (dr_cnt lo P))), (0, .ref aR)] := hl
        have hP : va_P (dC, dI) vwCl [(aR, .inr (3, [.ref aS, .ref aA, .ref aL, .ref aE, .int (bI pw), .int tn])), (aS, .inr (0, [.int (nI P), .int (nI (P - 2)), .int (nI (P - 1)), .int (nI (P * (P - 2)))])), (aL, .inl (cB, P, .inl (fun z9 => bI (lo z9))))] H := hP
        have hD : va_D A [(aR, .inr (3, [.ref aS, .ref aA, .ref aL, .ref aE, .int (bI pw), .int tn])), (aS, .inr (0, [.int (nI P), .int (nI (P - 2)), .int (nI (P - 1)), .int (nI (P * (P - 2)))])), (aL, .inl (cB, P, .inl (fun z9 => bI (lo z9))))] := hD
        refine lv_iload_n hx hb dX3_lostDrives_33 rfl (lv_at hl 1 rfl) ?_
        exact x_iret (D := (dC, dI)) (cl := vwCl) (A := A) () hQ hx hb hr hlk hP hD hS dX3_lostDrives_34 (by first | rfl | (simp [h12]; done) | (simp [h12]; omega))
      · -- 12f
        refine lv_aload_n hx hb dX3_lostDrives_15 rfl (lv_at hl 2 rfl) ?_
        refine va_get (D := (dC, dI)) (ci := 3) (v := .ref aL) (C := RX3) (T := TX3) (N := 6) hx hb hts inX3 hown hK hP 0 rfl rfl 2 (by decide) (hts _ t_fX3_44) (fun _ h9 => h9) rfl dX3_lostDrives_16 ?_
        refine lv_iload_n hx hb dX3_lostDrives_19 rfl (lv_at hl 0 rfl) ?_
        refine x_zald (g := lo) hx hb hK hP 2 1 rfl rfl dX3_lostDrives_20 (by omega) (by omega) ?_
        refine x_ifF (tgt := 27) hx hb dX3_lostDrives_21 (by decide) (fun h21 => ?_) (fun h21 => ?_)
        · -- 21t
          refine lv_iinc (v := nI (i + 1)) hx hb dX3_lostDrives_27 hl (k := 0) rfl (x_inc _) (by decide) rfl (fun ls hl => ?_)
          have hl : lv_has ls 3 [(2, .int (nI (i + 1))), (1, .int (nI (dr_cnt lo i))), (0, .ref aR)] := hl
          refine lv_goto (tgt := 4) hx hb dX3_lostDrives_30 (by decide) ?_
          have e1 : (dr_cnt lo (i + 1)) = (dr_cnt lo i) := by first | rfl | (simp [dr_cnt, h12, h21]; done) | (simp [dr_cnt, h12, h21]; omega)
          exact ih4 (i + 1) ls H locs (by omega) (by omega) (by rw [e1]; exact lv_sub hl [0, 1, 2] rfl) hP hD hS
        · -- 21f
          refine lv_iinc (v := nI (dr_cnt lo i + 1)) hx hb dX3_lostDrives_24 hl (k := 1) rfl (x_inc _) (by decide) rfl (fun ls hl => ?_)
          have hl : lv_has ls 3 [(1, .int (nI (dr_cnt lo i + 1))), (2, .int (nI i)), (0, .ref aR)] := hl
          refine lv_iinc (v := nI (i + 1)) hx hb dX3_lostDrives_27 hl (k := 1) rfl (x_inc _) (by decide) rfl (fun ls hl => ?_)
          have hl : lv_has ls 3 [(2, .int (nI (i + 1))), (1, .int (nI (dr_cnt lo i + 1))), (0, .ref aR)] := hl
          refine lv_goto (tgt := 4) hx hb dX3_lostDrives_30 (by decide) ?_
          have e2 : (dr_cnt lo (i + 1)) = (dr_cnt lo i + 1) := by first | rfl | (simp [dr_cnt, h12, h21]; done) | (simp [dr_cnt, h12, h21]; omega)
          exact ih4 (i + 1) ls H locs (by omega) (by omega) (by rw [e2]; exact lv_sub hl [0, 1, 2] rfl) hP hD hS
  have e3 : (dr_cnt lo 0) = 0 := by first | rfl | (simp [dr_cnt]; done) | (simp [dr_cnt]; omega)
  exact lp4 (P - 0 + 1) 0 ls H locs (by omega) (by omega) (by rw [e3]; exact lv_sub hl [0, 1, 2] rfl) hP hD hS

abbrev rm_c_isNewIn : Room := { frames := 0, cells := 0, slots := 0, locals := 0 }
set_option maxHeartbeats 4000000 in
set_option maxRecDepth 100000 in
theorem c_isNewIn (l : Launch) (dC : Nat → ClassId) (dI : Nat → Nat → Nat) (cI cB cQ cJ : ClassId) (aR : Nat) (aS : Nat) (aA : Nat) (aL : Nat) (aE : Nat) (pw : Bool) (tn : Int32) (P : Nat) (lo : Nat → Bool) (aT : Nat) (aW : Nat) (aM : Nat) (ms : Nat → Bool) (mk : Bool) (d : Nat) (hp5 : dr_P P) (hd : d < P) : MG l yX3_isNewIn (Cond.code yX3_isNewIn cX3_isNewIn 3 (some .boolean) :: TB) rm_c_isNewIn (dC, dI) vwCl (TY cI cB cQ cJ) [.ref aR, .ref aT, .int (nI d)] [(aR, .inr (3, [.ref aS, .ref aA, .ref aL, .ref aE, .int (bI pw), .int tn])), (aL, .inl (cB, P, .inl (fun z9 => bI (lo z9)))), (aT, .inr (1, [.ref aS, .ref aW, .ref aM, .int (bI mk)])), (aM, .inl (cB, P, .inl (fun z9 => bI (ms z9))))] (fun (r : Int32) (u : Unit) => r = bI (ms d && !lo d)) (fun (u : Unit) => [(aR, .inr (3, [.ref aS, .ref aA, .ref aL, .ref aE, .int (bI pw), .int tn])), (aL, .inl (cB, P, .inl (fun z9 => bI (lo z9)))), (aT, .inr (1, [.ref aS, .ref aW, .ref aM, .int (bI mk)])), (aM, .inl (cB, P, .inl (fun z9 => bI (ms z9))))]) := by
  refine MG.ofW (cc := cX3_isNewIn) (maxL := 3) (rt := .boolean) (by decide +kernel) rfl (Nat.le_of_ble_eq_true rfl) ?_
  intro p e s m args below meth c A ls Q H locs hQ hx hb hml hr hlk hts hown hK hP hD hS hA hl
  have hts : ∀ w ∈ TB, w.before args s = true := fun w h => hts w (List.mem_cons_of_mem _ h)
  have hown : s.vm.findClass RX3 = some m.cls := hown
  have hl : lv_has ls 3 [(0, .ref aR), (1, .ref aT), (2, .int (nI d))] := hl
  have hP : va_P (dC, dI) vwCl [(aR, .inr (3, [.ref aS, .ref aA, .ref aL, .ref aE, .int (bI pw), .int tn])), (aL, .inl (cB, P, .inl (fun z9 => bI (lo z9)))), (aT, .inr (1, [.ref aS, .ref aW, .ref aM, .int (bI mk)])), (aM, .inl (cB, P, .inl (fun z9 => bI (ms z9))))] H := hP
  have hD : va_D A [(aR, .inr (3, [.ref aS, .ref aA, .ref aL, .ref aE, .int (bI pw), .int tn])), (aL, .inl (cB, P, .inl (fun z9 => bI (lo z9)))), (aT, .inr (1, [.ref aS, .ref aW, .ref aM, .int (bI mk)])), (aM, .inl (cB, P, .inl (fun z9 => bI (ms z9))))] := hD
  have hp := hp5.le
  have hpp := dr_PP hp5
  have hpq := dr_PP2 hp5
  refine lv_aload_n hx hb dX3_isNewIn_0 rfl (lv_at hl 1 rfl) ?_
  refine va_get (D := (dC, dI)) (ci := 1) (v := .ref aM) (C := RX1) (T := TX1) (N := 4) hx hb hts inX1 hown hK hP 2 rfl rfl 2 (by decide) (hts _ t_fX3_122) (fun _ h9 => h9) rfl dX3_isNewIn_1 ?_
  refine lv_iload_n hx hb dX3_isNewIn_4 rfl (lv_at hl 2 rfl) ?_
  refine x_zald (g := ms) hx hb hK hP 3 1 rfl rfl dX3_isNewIn_5 (by omega) (by omega) ?_
  refine x_ifF (tgt := 22) hx hb dX3_isNewIn_6 (by decide) (fun h6 => ?_) (fun h6 => ?_)
  · -- 6t
    refine lv_iconst (v := bI false) hx hb dX3_isNewIn_22 (by decide) ?_
    exact x_zret (D := (dC, dI)) (cl := vwCl) (A := A) () hQ hx hb hr hlk hP hD hS dX3_isNewIn_23 (by first | rfl | (simp [h6]; done) | (simp [h6]; omega))
  · -- 6f
    refine lv_aload_n hx hb dX3_isNewIn_9 rfl (lv_at hl 0 rfl) ?_
    refine va_get (D := (dC, dI)) (ci := 3) (v := .ref aL) (C := RX3) (T := TX3) (N := 6) hx hb hts inX3 hown hK hP 0 rfl rfl 2 (by decide) (hts _ t_fX3_44) (fun _ h9 => h9) rfl dX3_isNewIn_10 ?_
    refine lv_iload_n hx hb dX3_isNewIn_13 rfl (lv_at hl 2 rfl) ?_
    refine x_zald (g := lo) hx hb hK hP 1 1 rfl rfl dX3_isNewIn_14 (by omega) (by omega) ?_
    refine x_ifT (tgt := 22) hx hb dX3_isNewIn_15 (by decide) (fun h15 => ?_) (fun h15 => ?_)
    · -- 15t
      refine lv_iconst (v := bI false) hx hb dX3_isNewIn_22 (by decide) ?_
      exact x_zret (D := (dC, dI)) (cl := vwCl) (A := A) () hQ hx hb hr hlk hP hD hS dX3_isNewIn_23 (by first | rfl | (simp [h6, h15]; done) | (simp [h6, h15]; omega))
    · -- 15f
      refine lv_iconst (v := bI true) hx hb dX3_isNewIn_18 (by decide) ?_
      refine lv_goto (tgt := 23) hx hb dX3_isNewIn_19 (by decide) ?_
      exact x_zret (D := (dC, dI)) (cl := vwCl) (A := A) () hQ hx hb hr hlk hP hD hS dX3_isNewIn_23 (by first | rfl | (simp [h6, h15]; done) | (simp [h6, h15]; omega))

abbrev rm_c_hasNew : Room := { frames := 1, cells := 0, slots := 0, locals := 22 }
set_option maxHeartbeats 4000000 in
set_option maxRecDepth 100000 in
theorem c_hasNew (l : Launch) (dC : Nat → ClassId) (dI : Nat → Nat → Nat) (cI cB cQ cJ : ClassId) (aR : Nat) (aS : Nat) (aA : Nat) (aL : Nat) (aE : Nat) (pw : Bool) (tn : Int32) (P : Nat) (lo : Nat → Bool) (aT : Nat) (aW : Nat) (aM : Nat) (ms : Nat → Bool) (mk : Bool) (hp5 : dr_P P) : MG l yX3_hasNewDrive (Cond.code yX3_hasNewDrive cX3_hasNewDrive 3 (some .boolean) :: TB) rm_c_hasNew (dC, dI) vwCl (TY cI cB cQ cJ) [.ref aR, .ref aT] [(aR, .inr (3, [.ref aS, .ref aA, .ref aL, .ref aE, .int (bI pw), .int tn])), (aS, .inr (0, [.int (nI P), .int (nI (P - 2)), .int (nI (P - 1)), .int (nI (P * (P - 2)))])), (aL, .inl (cB, P, .inl (fun z9 => bI (lo z9)))), (aT, .inr (1, [.ref aS, .ref aW, .ref aM, .int (bI mk)])), (aM, .inl (cB, P, .inl (fun z9 => bI (ms z9))))] (fun (r : Int32) (u : Unit) => r = bI (dr_any (fun d => ms d && !lo d) P)) (fun (u : Unit) => [(aR, .inr (3, [.ref aS, .ref aA, .ref aL, .ref aE, .int (bI pw), .int tn])), (aS, .inr (0, [.int (nI P), .int (nI (P - 2)), .int (nI (P - 1)), .int (nI (P * (P - 2)))])), (aL, .inl (cB, P, .inl (fun z9 => bI (lo z9)))), (aT, .inr (1, [.ref aS, .ref aW, .ref aM, .int (bI mk)])), (aM, .inl (cB, P, .inl (fun z9 => bI (ms z9))))]) := by
  refine MG.ofW (cc := cX3_hasNewDrive) (maxL := 3) (rt := .boolean) (by decide +kernel) rfl (Nat.le_of_ble_eq_true rfl) ?_
  intro p e s m args below meth c A ls Q H locs hQ hx hb hml hr hlk hts hown hK hP hD hS hA hl
  have hts : ∀ w ∈ TB, w.before args s = true := fun w h => hts w (List.mem_cons_of_mem _ h)
  have hown : s.vm.findClass RX3 = some m.cls := hown
  have hl : lv_has ls 3 [(0, .ref aR), (1, .ref aT)] := hl
  have hP : va_P (dC, dI) vwCl [(aR, .inr (3, [.ref aS, .ref aA, .ref aL, .ref aE, .int (bI pw), .int tn])), (aS, .inr (0, [.int (nI P), .int (nI (P - 2)), .int (nI (P - 1)), .int (nI (P * (P - 2)))])), (aL, .inl (cB, P, .inl (fun z9 => bI (lo z9)))), (aT, .inr (1, [.ref aS, .ref aW, .ref aM, .int (bI mk)])), (aM, .inl (cB, P, .inl (fun z9 => bI (ms z9))))] H := hP
  have hD : va_D A [(aR, .inr (3, [.ref aS, .ref aA, .ref aL, .ref aE, .int (bI pw), .int tn])), (aS, .inr (0, [.int (nI P), .int (nI (P - 2)), .int (nI (P - 1)), .int (nI (P * (P - 2)))])), (aL, .inl (cB, P, .inl (fun z9 => bI (lo z9)))), (aT, .inr (1, [.ref aS, .ref aW, .ref aM, .int (bI mk)])), (aM, .inl (cB, P, .inl (fun z9 => bI (ms z9))))] := hD
  have hp := hp5.le
  have hpp := dr_PP hp5
  have hpq := dr_PP2 hp5
  refine lv_iconst (v := nI 0) hx hb dX3_hasNewDrive_0 (by decide) ?_
  refine lv_istore_n hx hb dX3_hasNewDrive_1 rfl hl (by decide) rfl (fun ls hl => ?_)
  have hl : lv_has ls 3 [(2, .int (nI 0)), (0, .ref aR), (1, .ref aT)] := hl
  have lp2 : ∀ (n9 : Nat) (i : Nat) (ls : Array Slot) (H : Heap) (locs : List Loc), P - i < n9 → (i ≤ P) → (dr_any (fun d => ms d && !lo d) i = false) → lv_has ls 3 [(2, .int (nI i)), (1, .ref aT), (0, .ref aR)] → va_P (dC, dI) vwCl [(aR, .inr (3, [.ref aS, .ref aA, .ref aL, .ref aE, .int (bI pw), .int tn])), (aS, .inr (0, [.int (nI P), .int (nI (P - 2)), .int (nI (P - 1)), .int (nI (P * (P - 2)))])), (aL, .inl (cB, P, .inl (fun z9 => bI (lo z9)))), (aT, .inr (1, [.ref aS, .ref aW, .ref aM, .int (bI mk)])), (aM, .inl (cB, P, .inl (fun z9 => bI (ms z9))))] H → va_D A [(aR, .inr (3, [.ref aS, .ref aA, .ref aL, .ref aE, .int (bI pw), .int tn])), (aS, .inr (0, [.int (nI P), .int (nI (P - 2)), .int (nI (P - 1)), .int (nI (P * (P - 2)))])), (aL, .inl (cB, P, .inl (fun z9 => bI (lo z9)))), (aT, .inr (1, [.ref aS, .ref aW, .ref aM, .int (bI mk)])), (aM, .inl (cB, P, .inl (fun z9 => bI (ms z9))))] → va_S A s.heap H locs → W p l e rm_c_hasNew s m args below meth c H locs 0 0 Q (F0 m 2 ls []) := by
    intro n9
    induction n9 with
    | zero => intro i ls H locs hn9; omega
    | succ n9 ih2 =>
      intro i ls H locs hn9 hi ha hl hP hD hS
      refine lv_iload_n hx hb dX3_hasNewDrive_2 rfl (lv_at hl 0 rfl) ?_
      refine lv_aload_n hx hb dX3_hasNewDrive_3 rfl (lv_at hl 2 rfl) ?_
      refine va_get (D := (dC, dI)) (ci := 3) (v := .ref aS) (C := RX3) (T := TX3) (N := 6) hx hb hts inX3 hown hK hP 0 rfl rfl 0 (by decide) (hts _ t_fX3_32) (fun _ h9 => h9) rfl dX3_hasNewDrive_4 ?_
      refine va_get (D := (dC, dI)) (ci := 0) (v := .int (nI P)) (C := RX0) (T := TX0) (N := 4) hx hb hts inX0 hown hK hP 1 rfl rfl 0 (by decide) (hts _ t_fX3_40) (fun _ h9 => h9) rfl dX3_hasNewDrive_7 ?_
      refine x_cge (tgt := 30) hx hb dX3_hasNewDrive_10 (by decide) (by omega) (by omega) (fun h10 => ?_) (fun h10 => ?_)
      · -- 10t
        refine lv_iconst (v := bI false) hx hb dX3_hasNewDrive_30 (by decide) ?_
        exact x_zret (D := (dC, dI)) (cl := vwCl) (A := A) () hQ hx hb hr hlk hP hD hS dX3_hasNewDrive_31 (by rw [show i = P by omega] at ha; rw [ha])
      · -- 10f
        refine lv_aload_n hx hb dX3_hasNewDrive_13 rfl (lv_at hl 2 rfl) ?_
        refine lv_aload_n hx hb dX3_hasNewDrive_14 rfl (lv_at hl 1 rfl) ?_
        refine lv_iload_n hx hb dX3_hasNewDrive_15 rfl (lv_at hl 0 rfl) ?_
        refine gV (wr := [(aS, .inr (0, [.int (nI P), .int (nI (P - 2)), .int (nI (P - 1)), .int (nI (P * (P - 2)))]))]) (pre := [(aR, .inr (3, [.ref aS, .ref aA, .ref aL, .ref aE, .int (bI pw), .int tn])), (aS, .inr (0, [.int (nI P), .int (nI (P - 2)), .int (nI (P - 1)), .int (nI (P * (P - 2)))])), (aL, .inl (cB, P, .inl (fun z9 => bI (lo z9)))), (aT, .inr (1, [.ref aS, .ref aW, .ref aM, .int (bI mk)])), (aM, .inl (cB, P, .inl (fun z9 => bI (ms z9))))]) (tl := []) (G := fun (u : Unit) => [(aR, .inr (3, [.ref aS, .ref aA, .ref aL, .ref aE, .int (bI pw), .int tn])), (aS, .inr (0, [.int (nI P), .int (nI (P - 2)), .int (nI (P - 1)), .int (nI (P * (P - 2)))])), (aL, .inl (cB, P, .inl (fun z9 => bI (lo z9)))), (aT, .inr (1, [.ref aS, .ref aW, .ref aM, .int (bI mk)])), (aM, .inl (cB, P, .inl (fun z9 => bI (ms z9))))]) (b := aR) (As := [.ref aT, .int (nI i)]) (rst := []) ⟨hx, hb, hml, hown, hts⟩ (c_isNewIn l dC dI cI cB cQ cJ aR aS aA aL aE pw tn P lo aT aW aM ms mk i hp5 (by omega)) (cwV 2 hts (gdV t_mX3_165 t_inst_X3_isNewIn t_sel_X3_isNewIn t_ini_X3 t_code_X3_isNewIn) rfl rfl rfl (by decide +kernel) ⟨Nat.le_of_ble_eq_true rfl, Nat.le_of_ble_eq_true rfl⟩) hK hP hD hS hA [0, 2, 3, 4] [1] [0, 4, 1, 2, 3] rfl (by decide) (fun _ => rfl) (by decide) (ci := 3) rfl rfl rfl rfl hl.1 rfl (Nat.le_of_ble_eq_true rfl) dX3_hasNewDrive_16 ⟨Nat.zero_le _, Nat.zero_le _⟩ (fun r u H locs hu1 hP hD hS => ?_)
        have hr16 := hu1
        have hr16 : r = bI (ms i && !lo i) := hr16
        subst hr16
        have hP : va_P (dC, dI) vwCl [(aR, .inr (3, [.ref aS, .ref aA, .ref aL, .ref aE, .int (bI pw), .int tn])), (aS, .inr (0, [.int (nI P), .int (nI (P - 2)), .int (nI (P - 1)), .int (nI (P * (P - 2)))])), (aL, .inl (cB, P, .inl (fun z9 => bI (lo z9)))), (aT, .inr (1, [.ref aS, .ref aW, .ref aM, .int (bI mk)])), (aM, .inl (cB, P, .inl (fun z9 => bI (ms z9))))] H := hP
        have hD : va_D A [(aR, .inr (3, [.ref aS, .ref aA, .ref aL, .ref aE, .int (bI pw), .int tn])), (aS, .inr (0, [.int (nI P), .int (nI (P - 2)), .int (nI (P - 1)), .int (nI (P * (P - 2)))])), (aL, .inl (cB, P, .inl (fun z9 => bI (lo z9)))), (aT, .inr (1, [.ref aS, .ref aW, .ref aM, .int (bI mk)])), (aM, .inl (cB, P, .inl (fun z9 => bI (ms z9))))] := hD
        refine x_ifF (tgt := 24) hx hb dX3_hasNewDrive_19 (by decide) (fun h19 => ?_) (fun h19 => ?_)
        · -- 19t
          refine lv_iinc (v := nI (i + 1)) hx hb dX3_hasNewDrive_24 hl (k := 0) rfl (x_inc _) (by decide) rfl (fun ls hl => ?_)
          have hl : lv_has ls 3 [(2, .int (nI (i + 1))), (1, .ref aT), (0, .ref aR)] := hl
          refine lv_goto (tgt := 2) hx hb dX3_hasNewDrive_27 (by decide) ?_
          exact ih2 (i + 1) ls H locs (by omega) (by omega) (by first | rfl | (rw [dr_any, ha, Bool.false_or]; exact h19)) (lv_sub hl [0, 1, 2] rfl) hP hD hS
        · -- 19f
          refine lv_iconst (v := bI true) hx hb dX3_hasNewDrive_22 (by decide) ?_
          exact x_zret (D := (dC, dI)) (cl := vwCl) (A := A) () hQ hx hb hr hlk hP hD hS dX3_hasNewDrive_23 (by rw [dr_any_true (g := fun d => ms d && !lo d) (i := i) (by omega) h19])
  exact lp2 (P - 0 + 1) 0 ls H locs (by omega) (by omega) (by first | rfl | (rw [dr_any, ha, Bool.false_or]; exact h19)) (lv_sub hl [0, 2, 1] rfl) hP hD hS

abbrev rm_c_valueOf : Room := { frames := 4, cells := 0, slots := 0, locals := 97 }
set_option maxHeartbeats 4000000 in
set_option maxRecDepth 100000 in
theorem c_valueOf (l : Launch) (dC : Nat → ClassId) (dI : Nat → Nat → Nat) (cI cB cQ cJ : ClassId) (aR : Nat) (aS : Nat) (aA : Nat) (aL : Nat) (aE : Nat) (pw : Bool) (tn : Int32) (P : Nat) (aEW : Nat) (aEK : Nat) (tw : Nat → Int32) (kn : Nat → Bool) (un : Int32) (aT : Nat) (aW : Nat) (aM : Nat) (w : Nat → Int32) (ms : Nat → Bool) (mk : Bool) (d : Nat) (k : Nat) (hp5 : dr_P P) (hd : d < P) (hk : k < P) : MG l yX3_valueOf (Cond.code yX3_valueOf cX3_valueOf 5 (some .int) :: TB) rm_c_valueOf (dC, dI) vwCl (TY cI cB cQ cJ) [.ref aR, .ref aT, .int (nI d), .int (nI k)] [(aR, .inr (3, [.ref aS, .ref aA, .ref aL, .ref aE, .int (bI pw), .int tn])), (aS, .inr (0, [.int (nI P), .int (nI (P - 2)), .int (nI (P - 1)), .int (nI (P * (P - 2)))])), (aE, .inr (2, [.ref aS, .ref aEW, .ref aEK, .int un])), (aEW, .inl (cI, P * P, .inl tw)), (aEK, .inl (cB, P * P, .inl (fun z9 => bI (kn z9)))), (aT, .inr (1, [.ref aS, .ref aW, .ref aM, .int (bI mk)])), (aW, .inl (cI, P * P, .inl w)), (aM, .inl (cB, P, .inl (fun z9 => bI (ms z9))))] (fun (r : Int32) (u : Unit) => r = dr_va P ms w (kn, tw, un) d k) (fun (u : Unit) => [(aR, .inr (3, [.ref aS, .ref aA, .ref aL, .ref aE, .int (bI pw), .int tn])), (aS, .inr (0, [.int (nI P), .int (nI (P - 2)), .int (nI (P - 1)), .int (nI (P * (P - 2)))])), (aE, .inr (2, [.ref aS, .ref aEW, .ref aEK, .int ((dr_vt P ms w (kn, tw, un) d).2.2)])), (aEW, .inl (cI, P * P, .inl ((dr_vt P ms w (kn, tw, un) d).2.1))), (aEK, .inl (cB, P * P, .inl (fun z9 => bI (((dr_vt P ms w (kn, tw, un) d).1) z9)))), (aT, .inr (1, [.ref aS, .ref aW, .ref aM, .int (bI mk)])), (aW, .inl (cI, P * P, .inl w)), (aM, .inl (cB, P, .inl (fun z9 => bI (ms z9))))]) := by
  refine MG.ofW (cc := cX3_valueOf) (maxL := 5) (rt := .int) (by decide +kernel) rfl (Nat.le_of_ble_eq_true rfl) ?_
  intro p e s m args below meth c A ls Q H locs hQ hx hb hml hr hlk hts hown hK hP hD hS hA hl
  have hts : ∀ w ∈ TB, w.before args s = true := fun w h => hts w (List.mem_cons_of_mem _ h)
  have hown : s.vm.findClass RX3 = some m.cls := hown
  have hl : lv_has ls 5 [(0, .ref aR), (1, .ref aT), (2, .int (nI d)), (3, .int (nI k))] := hl
  have hP : va_P (dC, dI) vwCl [(aR, .inr (3, [.ref aS, .ref aA, .ref aL, .ref aE, .int (bI pw), .int tn])), (aS, .inr (0, [.int (nI P), .int (nI (P - 2)), .int (nI (P - 1)), .int (nI (P * (P - 2)))])), (aE, .inr (2, [.ref aS, .ref aEW, .ref aEK, .int un])), (aEW, .inl (cI, P * P, .inl tw)), (aEK, .inl (cB, P * P, .inl (fun z9 => bI (kn z9)))), (aT, .inr (1, [.ref aS, .ref aW, .ref aM, .int (bI mk)])), (aW, .inl (cI, P * P, .inl w)), (aM, .inl (cB, P, .inl (fun z9 => bI (ms z9))))] H := hP
  have hD : va_D A [(aR, .inr (3, [.ref aS, .ref aA, .ref aL, .ref aE, .int (bI pw), .int tn])), (aS, .inr (0, [.int (nI P), .int (nI (P - 2)), .int (nI (P - 1)), .int (nI (P * (P - 2)))])), (aE, .inr (2, [.ref aS, .ref aEW, .ref aEK, .int un])), (aEW, .inl (cI, P * P, .inl tw)), (aEK, .inl (cB, P * P, .inl (fun z9 => bI (kn z9)))), (aT, .inr (1, [.ref aS, .ref aW, .ref aM, .int (bI mk)])), (aW, .inl (cI, P * P, .inl w)), (aM, .inl (cB, P, .inl (fun z9 => bI (ms z9))))] := hD
  have hp := hp5.le
  have hpp := dr_PP hp5
  have hpq := dr_PP2 hp5
  refine lv_aload_n hx hb dX3_valueOf_0 rfl (lv_at hl 0 rfl) ?_
  refine va_get (D := (dC, dI)) (ci := 3) (v := .ref aS) (C := RX3) (T := TX3) (N := 6) hx hb hts inX3 hown hK hP 0 rfl rfl 0 (by decide) (hts _ t_fX3_32) (fun _ h9 => h9) rfl dX3_valueOf_1 ?_
  refine lv_iload_n hx hb dX3_valueOf_4 rfl (lv_at hl 2 rfl) ?_
  refine lv_iload_n hx hb dX3_valueOf_5 rfl (lv_at hl 3 rfl) ?_
  refine gV (wr := [(aR, .inr (3, [.ref aS, .ref aA, .ref aL, .ref aE, .int (bI pw), .int tn])), (aE, .inr (2, [.ref aS, .ref aEW, .ref aEK, .int un])), (aEW, .inl (cI, P * P, .inl tw)), (aEK, .inl (cB, P * P, .inl (fun z9 => bI (kn z9)))), (aT, .inr (1, [.ref aS, .ref aW, .ref aM, .int (bI mk)])), (aW, .inl (cI, P * P, .inl w)), (aM, .inl (cB, P, .inl (fun z9 => bI (ms z9))))]) (pre := [(aR, .inr (3, [.ref aS, .ref aA, .ref aL, .ref aE, .int (bI pw), .int tn])), (aS, .inr (0, [.int (nI P), .int (nI (P - 2)), .int (nI (P - 1)), .int (nI (P * (P - 2)))])), (aE, .inr (2, [.ref aS, .ref aEW, .ref aEK, .int un])), (aEW, .inl (cI, P * P, .inl tw)), (aEK, .inl (cB, P * P, .inl (fun z9 => bI (kn z9)))), (aT, .inr (1, [.ref aS, .ref aW, .ref aM, .int (bI mk)])), (aW, .inl (cI, P * P, .inl w)), (aM, .inl (cB, P, .inl (fun z9 => bI (ms z9))))]) (tl := []) (G := fun (u : Unit) => [(aR, .inr (3, [.ref aS, .ref aA, .ref aL, .ref aE, .int (bI pw), .int tn])), (aS, .inr (0, [.int (nI P), .int (nI (P - 2)), .int (nI (P - 1)), .int (nI (P * (P - 2)))])), (aE, .inr (2, [.ref aS, .ref aEW, .ref aEK, .int un])), (aEW, .inl (cI, P * P, .inl tw)), (aEK, .inl (cB, P * P, .inl (fun z9 => bI (kn z9)))), (aT, .inr (1, [.ref aS, .ref aW, .ref aM, .int (bI mk)])), (aW, .inl (cI, P * P, .inl w)), (aM, .inl (cB, P, .inl (fun z9 => bI (ms z9))))]) (b := aS) (As := [.int (nI d), .int (nI k)]) (rst := []) ⟨hx, hb, hml, hown, hts⟩ (c_place l dC dI cI cB cQ cJ aS P d k ) (cwV 2 hts (gdV t_mX3_156 t_inst_X0_place t_sel_X0_place t_ini_X0 t_code_X0_place) rfl rfl rfl (by decide +kernel) ⟨Nat.le_of_ble_eq_true rfl, Nat.le_of_ble_eq_true rfl⟩) hK hP hD hS hA [1] [0, 2, 3, 4, 5, 6, 7] [1, 0, 2, 3, 4, 5, 6, 7] rfl (by decide) (fun _ => rfl) (by decide) (ci := 0) rfl rfl rfl rfl hl.1 rfl (Nat.le_of_ble_eq_true rfl) dX3_valueOf_6 ⟨Nat.zero_le _, Nat.zero_le _⟩ (fun r u H locs hu1 hP hD hS => ?_)
  have hr6 := hu1
  have hr6 : r = nI (d * P + k) := hr6
  subst hr6
  have hP : va_P (dC, dI) vwCl [(aR, .inr (3, [.ref aS, .ref aA, .ref aL, .ref aE, .int (bI pw), .int tn])), (aS, .inr (0, [.int (nI P), .int (nI (P - 2)), .int (nI (P - 1)), .int (nI (P * (P - 2)))])), (aE, .inr (2, [.ref aS, .ref aEW, .ref aEK, .int un])), (aEW, .inl (cI, P * P, .inl tw)), (aEK, .inl (cB, P * P, .inl (fun z9 => bI (kn z9)))), (aT, .inr (1, [.ref aS, .ref aW, .ref aM, .int (bI mk)])), (aW, .inl (cI, P * P, .inl w)), (aM, .inl (cB, P, .inl (fun z9 => bI (ms z9))))] H := hP
  have hD : va_D A [(aR, .inr (3, [.ref aS, .ref aA, .ref aL, .ref aE, .int (bI pw), .int tn])), (aS, .inr (0, [.int (nI P), .int (nI (P - 2)), .int (nI (P - 1)), .int (nI (P * (P - 2)))])), (aE, .inr (2, [.ref aS, .ref aEW, .ref aEK, .int un])), (aEW, .inl (cI, P * P, .inl tw)), (aEK, .inl (cB, P * P, .inl (fun z9 => bI (kn z9)))), (aT, .inr (1, [.ref aS, .ref aW, .ref aM, .int (bI mk)])), (aW, .inl (cI, P * P, .inl w)), (aM, .inl (cB, P, .inl (fun z9 => bI (ms z9))))] := hD
  refine lv_istore hx hb dX3_valueOf_9 hl (by decide) rfl (fun ls hl => ?_)
  have hl : lv_has ls 5 [(4, .int (nI (d * P + k))), (0, .ref aR), (1, .ref aT), (2, .int (nI d)), (3, .int (nI k))] := hl
  refine lv_aload_n hx hb dX3_valueOf_11 rfl (lv_at hl 2 rfl) ?_
  refine va_get (D := (dC, dI)) (ci := 1) (v := .ref aM) (C := RX1) (T := TX1) (N := 4) hx hb hts inX1 hown hK hP 5 rfl rfl 2 (by decide) (hts _ t_fX3_122) (fun _ h9 => h9) rfl dX3_valueOf_12 ?_
  refine lv_iload_n hx hb dX3_valueOf_15 rfl (lv_at hl 3 rfl) ?_
  refine x_zald (g := ms) hx hb hK hP 7 1 rfl rfl dX3_valueOf_16 (by omega) (by omega) ?_
  refine x_ifT (tgt := 28) hx hb dX3_valueOf_17 (by decide) (fun h17 => ?_) (fun h17 => ?_)
  · -- 17t
    refine lv_aload_n hx hb dX3_valueOf_28 rfl (lv_at hl 1 rfl) ?_
    refine va_get (D := (dC, dI)) (ci := 3) (v := .ref aE) (C := RX3) (T := TX3) (N := 6) hx hb hts inX3 hown hK hP 0 rfl rfl 3 (by decide) (hts _ t_fX3_51) (fun _ h9 => h9) rfl dX3_valueOf_29 ?_
    refine lv_aload_n hx hb dX3_valueOf_32 rfl (lv_at hl 2 rfl) ?_
    refine gVv (wr := [(aR, .inr (3, [.ref aS, .ref aA, .ref aL, .ref aE, .int (bI pw), .int tn]))]) (pre := [(aR, .inr (3, [.ref aS, .ref aA, .ref aL, .ref aE, .int (bI pw), .int tn])), (aS, .inr (0, [.int (nI P), .int (nI (P - 2)), .int (nI (P - 1)), .int (nI (P * (P - 2)))])), (aE, .inr (2, [.ref aS, .ref aEW, .ref aEK, .int un])), (aEW, .inl (cI, P * P, .inl tw)), (aEK, .inl (cB, P * P, .inl (fun z9 => bI (kn z9)))), (aT, .inr (1, [.ref aS, .ref aW, .ref aM, .int (bI mk)])), (aW, .inl (cI, P * P, .inl w)), (aM, .inl (cB, P, .inl (fun z9 => bI (ms z9))))]) (tl := []) (G := fun (u : Unit) => [(aR, .inr (3, [.ref aS, .ref aA, .ref aL, .ref aE, .int (bI pw), .int tn])), (aS, .inr (0, [.int (nI P), .int (nI (P - 2)), .int (nI (P - 1)), .int (nI (P * (P - 2)))])), (aE, .inr (2, [.ref aS, .ref aEW, .ref aEK, .int ((dr_tell P ms w kn tw).2.2)])), (aEW, .inl (cI, P * P, .inl ((dr_tell P ms w kn tw).2.1))), (aEK, .inl (cB, P * P, .inl (fun z9 => bI (((dr_tell P ms w kn tw).1) z9)))), (aT, .inr (1, [.ref aS, .ref aW, .ref aM, .int (bI mk)])), (aW, .inl (cI, P * P, .inl w)), (aM, .inl (cB, P, .inl (fun z9 => bI (ms z9))))]) (b := aE) (As := [.ref aT]) (rst := []) ⟨hx, hb, hml, hown, hts⟩ (c_tell l dC dI cI cB cQ cJ aE aS aEW aEK P tw kn un aT aW aM w ms mk hp5) (cwV 1 hts (gdV t_mX3_169 t_inst_X2_tell t_sel_X2_tell t_ini_X2 t_code_X2_tell) rfl rfl rfl (by decide +kernel) ⟨Nat.le_of_ble_eq_true rfl, Nat.le_of_ble_eq_true rfl⟩) hK hP hD hS hA [2, 3, 4, 1, 5, 6, 7] [0] [7, 3, 0, 1, 2, 4, 5, 6] rfl (by decide) (fun _ => rfl) (by decide) (ci := 2) rfl rfl rfl rfl hl.1 rfl (Nat.le_of_ble_eq_true rfl) dX3_valueOf_33 ⟨Nat.zero_le _, Nat.zero_le _⟩ (fun u H locs hu2 hP hD hS => ?_)
    have hP : va_P (dC, dI) vwCl [(aR, .inr (3, [.ref aS, .ref aA, .ref aL, .ref aE, .int (bI pw), .int tn])), (aS, .inr (0, [.int (nI P), .int (nI (P - 2)), .int (nI (P - 1)), .int (nI (P * (P - 2)))])), (aE, .inr (2, [.ref aS, .ref aEW, .ref aEK, .int ((dr_tell P ms w kn tw).2.2)])), (aEW, .inl (cI, P * P, .inl ((dr_tell P ms w kn tw).2.1))), (aEK, .inl (cB, P * P, .inl (fun z9 => bI (((dr_tell P ms w kn tw).1) z9)))), (aT, .inr (1, [.ref aS, .ref aW, .ref aM, .int (bI mk)])), (aW, .inl (cI, P * P, .inl w)), (aM, .inl (cB, P, .inl (fun z9 => bI (ms z9))))] H := hP
    have hD : va_D A [(aR, .inr (3, [.ref aS, .ref aA, .ref aL, .ref aE, .int (bI pw), .int tn])), (aS, .inr (0, [.int (nI P), .int (nI (P - 2)), .int (nI (P - 1)), .int (nI (P * (P - 2)))])), (aE, .inr (2, [.ref aS, .ref aEW, .ref aEK, .int ((dr_tell P ms w kn tw).2.2)])), (aEW, .inl (cI, P * P, .inl ((dr_tell P ms w kn tw).2.1))), (aEK, .inl (cB, P * P, .inl (fun z9 => bI (((dr_tell P ms w kn tw).1) z9)))), (aT, .inr (1, [.ref aS, .ref aW, .ref aM, .int (bI mk)])), (aW, .inl (cI, P * P, .inl w)), (aM, .inl (cB, P, .inl (fun z9 => bI (ms z9))))] := hD
    refine lv_aload_n hx hb dX3_valueOf_36 rfl (lv_at hl 1 rfl) ?_
    refine va_get (D := (dC, dI)) (ci := 3) (v := .ref aE) (C := RX3) (T := TX3) (N := 6) hx hb hts inX3 hown hK hP 0 rfl rfl 3 (by decide) (hts _ t_fX3_51) (fun _ h9 => h9) rfl dX3_valueOf_37 ?_
    refine va_get (D := (dC, dI)) (ci := 2) (v := .ref aEW) (C := RX2) (T := TX2) (N := 4) hx hb hts inX2 hown hK hP 2 rfl rfl 1 (by decide) (hts _ t_fX3_173) (fun _ h9 => h9) rfl dX3_valueOf_40 ?_
    refine lv_iload hx hb dX3_valueOf_43 (lv_at hl 0 rfl) ?_
    refine x_iald (f := (dr_tell P ms w kn tw).2.1) hx hb hK hP 3 0 rfl rfl dX3_valueOf_45 (dr_pl hd hk) (by omega) ?_
    have e3 : ((dr_vt P ms w (kn, tw, un) d).2.2) = ((dr_tell P ms w kn tw).2.2) := by first | rfl | (simp [dr_vt, dr_va, h17]; done)
    have e4 : ((dr_vt P ms w (kn, tw, un) d).2.1) = ((dr_tell P ms w kn tw).2.1) := by first | rfl | (simp [dr_vt, dr_va, h17]; done)
    have e5 : ((dr_vt P ms w (kn, tw, un) d).1) = ((dr_tell P ms w kn tw).1) := by first | rfl | (simp [dr_vt, dr_va, h17]; done)
    exact x_iret (D := (dC, dI)) (cl := vwCl) (A := A) () hQ hx hb hr hlk (by rw [e3, e4, e5]; exact hP) (by rw [e3, e4, e5]; exact hD) hS dX3_valueOf_46 (by first | rfl | (simp [dr_vt, dr_va, h17]; done) | (simp [dr_vt, dr_va, h17]; omega))
  · -- 17f
    refine lv_aload_n hx hb dX3_valueOf_20 rfl (lv_at hl 2 rfl) ?_
    refine va_get (D := (dC, dI)) (ci := 1) (v := .ref aW) (C := RX1) (T := TX1) (N := 4) hx hb hts inX1 hown hK hP 5 rfl rfl 1 (by decide) (hts _ t_fX3_152) (fun _ h9 => h9) rfl dX3_valueOf_21 ?_
    refine lv_iload hx hb dX3_valueOf_24 (lv_at hl 0 rfl) ?_
    refine x_iald (f := w) hx hb hK hP 6 0 rfl rfl dX3_valueOf_26 (dr_pl hd hk) (by omega) ?_
    have e6 : ((dr_vt P ms w (kn, tw, un) d).2.2) = un := by first | rfl | (simp [dr_vt, dr_va, h17]; done)
    have e7 : ((dr_vt P ms w (kn, tw, un) d).2.1) = tw := by first | rfl | (simp [dr_vt, dr_va, h17]; done)
    have e8 : ((dr_vt P ms w (kn, tw, un) d).1) = kn := by first | rfl | (simp [dr_vt, dr_va, h17]; done)
    exact x_iret (D := (dC, dI)) (cl := vwCl) (A := A) () hQ hx hb hr hlk (by rw [e6, e7, e8]; exact hP) (by rw [e6, e7, e8]; exact hD) hS dX3_valueOf_27 (by first | rfl | (simp [dr_vt, dr_va, h17]; done) | (simp [dr_vt, dr_va, h17]; omega))

abbrev rm_c_takeTurn : Room := { frames := 0, cells := 0, slots := 0, locals := 0 }
set_option maxHeartbeats 4000000 in
set_option maxRecDepth 100000 in
theorem c_takeTurn (l : Launch) (dC : Nat → ClassId) (dI : Nat → Nat → Nat) (cI cB cQ cJ : ClassId) (aR : Nat) (aS : Nat) (aA : Nat) (aL : Nat) (aE : Nat) (pw : Bool) (tn : Int32)  : MG l yX3_takeTurn (Cond.code yX3_takeTurn cX3_takeTurn 1 (some .boolean) :: TB) rm_c_takeTurn (dC, dI) vwCl (TY cI cB cQ cJ) [.ref aR] [(aR, .inr (3, [.ref aS, .ref aA, .ref aL, .ref aE, .int (bI pw), .int tn]))] (fun (r : Int32) (u : Unit) => r = bI (!decide (tn = 0))) (fun (u : Unit) => [(aR, .inr (3, [.ref aS, .ref aA, .ref aL, .ref aE, .int (bI (dr_tp pw tn)), .int (dr_tn tn)]))]) := by
  refine MG.ofW (cc := cX3_takeTurn) (maxL := 1) (rt := .boolean) (by decide +kernel) rfl (Nat.le_of_ble_eq_true rfl) ?_
  intro p e s m args below meth c A ls Q H locs hQ hx hb hml hr hlk hts hown hK hP hD hS hA hl
  have hts : ∀ w ∈ TB, w.before args s = true := fun w h => hts w (List.mem_cons_of_mem _ h)
  have hown : s.vm.findClass RX3 = some m.cls := hown
  have hl : lv_has ls 1 [(0, .ref aR)] := hl
  have hP : va_P (dC, dI) vwCl [(aR, .inr (3, [.ref aS, .ref aA, .ref aL, .ref aE, .int (bI pw), .int tn]))] H := hP
  have hD : va_D A [(aR, .inr (3, [.ref aS, .ref aA, .ref aL, .ref aE, .int (bI pw), .int tn]))] := hD
  refine lv_aload_n hx hb dX3_takeTurn_0 rfl (lv_at hl 0 rfl) ?_
  refine va_get (D := (dC, dI)) (ci := 3) (v := .int tn) (C := RX3) (T := TX3) (N := 6) hx hb hts inX3 hown hK hP 0 rfl rfl 5 (by decide) (hts _ t_fX3_59) (fun _ h9 => h9) rfl dX3_takeTurn_1 ?_
  refine lv_if_ne (tgt := 14) hx hb dX3_takeTurn_4 (by decide) (fun h4 => ?_) (fun h4 => ?_)
  · -- 4t
    refine lv_aload_n hx hb dX3_takeTurn_14 rfl (lv_at hl 0 rfl) ?_
    refine va_get (D := (dC, dI)) (ci := 3) (v := .int tn) (C := RX3) (T := TX3) (N := 6) hx hb hts inX3 hown hK hP 0 rfl rfl 5 (by decide) (hts _ t_fX3_59) (fun _ h9 => h9) rfl dX3_takeTurn_15 ?_
    refine lv_if_le (tgt := 31) hx hb dX3_takeTurn_18 (by decide) (fun h18 => ?_) (fun h18 => ?_)
    · -- 18t
      have h18a : ¬ 0 < tn := Int32.not_lt.mpr h18
      refine lv_iconst (v := bI true) hx hb dX3_takeTurn_31 (by decide) ?_
      have e1 : (dr_tp pw tn) = pw := by simp [dr_tp, dr_tn, h4, h18a]
      have e2 : (dr_tn tn) = tn := by simp [dr_tp, dr_tn, h4, h18a]
      exact x_zret (D := (dC, dI)) (cl := vwCl) (A := A) () hQ hx hb hr hlk (by rw [e1, e2]; exact hP) (by rw [e1, e2]; exact hD) hS dX3_takeTurn_32 (by first | rfl | (simp [dr_tp, dr_tn, h4, h18]; done) | (simp [dr_tp, dr_tn, h4, h18]; omega))
    · -- 18f
      have h18a : 0 < tn := Int32.not_le.mp h18
      refine lv_aload_n hx hb dX3_takeTurn_21 rfl (lv_at hl 0 rfl) ?_
      refine lv_dup hx hb dX3_takeTurn_22 rfl ?_
      refine va_get (D := (dC, dI)) (ci := 3) (v := .int tn) (C := RX3) (T := TX3) (N := 6) hx hb hts inX3 hown hK hP 0 rfl rfl 5 (by decide) (hts _ t_fX3_59) (fun _ h9 => h9) rfl dX3_takeTurn_23 ?_
      refine lv_iconst (v := 1) hx hb dX3_takeTurn_26 (by decide) ?_
      refine lv_isub hx hb dX3_takeTurn_27 ?_
      refine va_put (D := (dC, dI)) (ci := 3) (v := .int (tn - 1)) (ty := .int) (C := RX3) (T := TX3) (N := 6) hx hb hts inX3 tyX3 tyX3_ok nmX3 hown hK hP hD hS 0 rfl rfl 5 (by decide) (hts _ t_fX3_59) (fun _ h9 => h9) rfl (by decide +kernel) rfl rfl (Nat.le_of_ble_eq_true rfl) dX3_takeTurn_28 (fun H locs hP hD hS => ?_)
      have hP : va_P (dC, dI) vwCl [(aR, .inr (3, [.ref aS, .ref aA, .ref aL, .ref aE, .int (bI pw), .int (tn - 1)]))] H := hP
      have hD : va_D A [(aR, .inr (3, [.ref aS, .ref aA, .ref aL, .ref aE, .int (bI pw), .int (tn - 1)]))] := hD
      refine lv_iconst (v := bI true) hx hb dX3_takeTurn_31 (by decide) ?_
      have e3 : (dr_tp pw tn) = pw := by simp [dr_tp, dr_tn, h4, h18a]
      have e4 : (dr_tn tn) = (tn - 1) := by simp [dr_tp, dr_tn, h4, h18a]
      exact x_zret (D := (dC, dI)) (cl := vwCl) (A := A) () hQ hx hb hr hlk (by rw [e3, e4]; exact hP) (by rw [e3, e4]; exact hD) hS dX3_takeTurn_32 (by first | rfl | (simp [dr_tp, dr_tn, h4, h18]; done) | (simp [dr_tp, dr_tn, h4, h18]; omega))
  · -- 4f
    refine lv_aload_n hx hb dX3_takeTurn_7 rfl (lv_at hl 0 rfl) ?_
    refine lv_iconst (v := bI false) hx hb dX3_takeTurn_8 (by decide) ?_
    refine va_put (D := (dC, dI)) (ci := 3) (v := .int (bI false)) (ty := .boolean) (C := RX3) (T := TX3) (N := 6) hx hb hts inX3 tyX3 tyX3_ok nmX3 hown hK hP hD hS 0 rfl rfl 4 (by decide) (hts _ t_fX3_55) (fun _ h9 => h9) rfl (by decide +kernel) (bI_narrow _) (bI_fits _) (Nat.le_of_ble_eq_true rfl) dX3_takeTurn_9 (fun H locs hP hD hS => ?_)
    have hP : va_P (dC, dI) vwCl [(aR, .inr (3, [.ref aS, .ref aA, .ref aL, .ref aE, .int (bI false), .int tn]))] H := hP
    have hD : va_D A [(aR, .inr (3, [.ref aS, .ref aA, .ref aL, .ref aE, .int (bI false), .int tn]))] := hD
    refine lv_iconst (v := bI false) hx hb dX3_takeTurn_12 (by decide) ?_
    have e5 : (dr_tp pw tn) = false := by simp [dr_tp, dr_tn, h4]
    have e6 : (dr_tn tn) = tn := by simp [dr_tp, dr_tn, h4]
    exact x_zret (D := (dC, dI)) (cl := vwCl) (A := A) () hQ hx hb hr hlk (by rw [e5, e6]; exact hP) (by rw [e5, e6]; exact hD) hS dX3_takeTurn_13 (by first | rfl | (simp [dr_tp, dr_tn, h4]; done) | (simp [dr_tp, dr_tn, h4]; omega))

abbrev rm_c_put : Room := { frames := 1, cells := 0, slots := 0, locals := 22 }
set_option maxHeartbeats 4000000 in
set_option maxRecDepth 100000 in
theorem c_put (l : Launch) (dC : Nat → ClassId) (dI : Nat → Nat → Nat) (cI cB cQ cJ : ClassId) (aR : Nat) (aS : Nat) (aA : Nat) (aL : Nat) (aE : Nat) (pw : Bool) (tn : Int32) (P : Nat) (aT : Nat) (aW : Nat) (aM : Nat) (w : Nat → Int32) (mk : Bool) (d : Nat) (k : Nat) (v : Int32) (hp5 : dr_P P) (hd : d < P) (hk : k < P) : MG l yX3_put (Cond.code yX3_put cX3_put 5 (some .boolean) :: TB) rm_c_put (dC, dI) vwCl (TY cI cB cQ cJ) [.ref aR, .ref aT, .int (nI d), .int (nI k), .int v] [(aR, .inr (3, [.ref aS, .ref aA, .ref aL, .ref aE, .int (bI pw), .int tn])), (aS, .inr (0, [.int (nI P), .int (nI (P - 2)), .int (nI (P - 1)), .int (nI (P * (P - 2)))])), (aT, .inr (1, [.ref aS, .ref aW, .ref aM, .int (bI mk)])), (aW, .inl (cI, P * P, .inl w))] (fun (r : Int32) (u : Unit) => r = bI ((dr_put P (w, pw, tn) d k v).1)) (fun (u : Unit) => [(aR, .inr (3, [.ref aS, .ref aA, .ref aL, .ref aE, .int (bI ((dr_put P (w, pw, tn) d k v).2.2.1)), .int ((dr_put P (w, pw, tn) d k v).2.2.2)])), (aS, .inr (0, [.int (nI P), .int (nI (P - 2)), .int (nI (P - 1)), .int (nI (P * (P - 2)))])), (aT, .inr (1, [.ref aS, .ref aW, .ref aM, .int (bI mk)])), (aW, .inl (cI, P * P, .inl ((dr_put P (w, pw, tn) d k v).2.1)))]) := by
  refine MG.ofW (cc := cX3_put) (maxL := 5) (rt := .boolean) (by decide +kernel) rfl (Nat.le_of_ble_eq_true rfl) ?_
  intro p e s m args below meth c A ls Q H locs hQ hx hb hml hr hlk hts hown hK hP hD hS hA hl
  have hts : ∀ w ∈ TB, w.before args s = true := fun w h => hts w (List.mem_cons_of_mem _ h)
  have hown : s.vm.findClass RX3 = some m.cls := hown
  have hl : lv_has ls 5 [(0, .ref aR), (1, .ref aT), (2, .int (nI d)), (3, .int (nI k)), (4, .int v)] := hl
  have hP : va_P (dC, dI) vwCl [(aR, .inr (3, [.ref aS, .ref aA, .ref aL, .ref aE, .int (bI pw), .int tn])), (aS, .inr (0, [.int (nI P), .int (nI (P - 2)), .int (nI (P - 1)), .int (nI (P * (P - 2)))])), (aT, .inr (1, [.ref aS, .ref aW, .ref aM, .int (bI mk)])), (aW, .inl (cI, P * P, .inl w))] H := hP
  have hD : va_D A [(aR, .inr (3, [.ref aS, .ref aA, .ref aL, .ref aE, .int (bI pw), .int tn])), (aS, .inr (0, [.int (nI P), .int (nI (P - 2)), .int (nI (P - 1)), .int (nI (P * (P - 2)))])), (aT, .inr (1, [.ref aS, .ref aW, .ref aM, .int (bI mk)])), (aW, .inl (cI, P * P, .inl w))] := hD
  have hp := hp5.le
  have hpp := dr_PP hp5
  have hpq := dr_PP2 hp5
  refine lv_aload_n hx hb dX3_put_0 rfl (lv_at hl 0 rfl) ?_
  refine gV (wr := [(aS, .inr (0, [.int (nI P), .int (nI (P - 2)), .int (nI (P - 1)), .int (nI (P * (P - 2)))])), (aT, .inr (1, [.ref aS, .ref aW, .ref aM, .int (bI mk)])), (aW, .inl (cI, P * P, .inl w))]) (pre := [(aR, .inr (3, [.ref aS, .ref aA, .ref aL, .ref aE, .int (bI pw), .int tn])), (aS, .inr (0, [.int (nI P), .int (nI (P - 2)), .int (nI (P - 1)), .int (nI (P * (P - 2)))])), (aT, .inr (1, [.ref aS, .ref aW, .ref aM, .int (bI mk)])), (aW, .inl (cI, P * P, .inl w))]) (tl := []) (G := fun (u : Unit) => [(aR, .inr (3, [.ref aS, .ref aA, .ref aL, .ref aE, .int (bI (dr_tp pw tn)), .int (dr_tn tn)])), (aS, .inr (0, [.int (nI P), .int (nI (P - 2)), .int (nI (P - 1)), .int (nI (P * (P - 2)))])), (aT, .inr (1, [.ref aS, .ref aW, .ref aM, .int (bI mk)])), (aW, .inl (cI, P * P, .inl w))]) (b := aR) (As := []) (rst := []) ⟨hx, hb, hml, hown, hts⟩ (c_takeTurn l dC dI cI cB cQ cJ aR aS aA aL aE pw tn ) (cwV 0 hts (gdV t_mX3_174 t_inst_X3_takeTurn t_sel_X3_takeTurn t_ini_X3 t_code_X3_takeTurn) rfl rfl rfl (by decide +kernel) ⟨Nat.le_of_ble_eq_true rfl, Nat.le_of_ble_eq_true rfl⟩) hK hP hD hS hA [0] [1, 2, 3] [0, 1, 2, 3] rfl (by decide) (fun _ => rfl) (by decide) (ci := 3) rfl rfl rfl rfl hl.1 rfl (Nat.le_of_ble_eq_true rfl) dX3_put_1 ⟨Nat.zero_le _, Nat.zero_le _⟩ (fun r u H locs hu1 hP hD hS => ?_)
  have hr1 := hu1
  have hr1 : r = bI (!decide (tn = 0)) := hr1
  subst hr1
  have hP : va_P (dC, dI) vwCl [(aR, .inr (3, [.ref aS, .ref aA, .ref aL, .ref aE, .int (bI (dr_tp pw tn)), .int (dr_tn tn)])), (aS, .inr (0, [.int (nI P), .int (nI (P - 2)), .int (nI (P - 1)), .int (nI (P * (P - 2)))])), (aT, .inr (1, [.ref aS, .ref aW, .ref aM, .int (bI mk)])), (aW, .inl (cI, P * P, .inl w))] H := hP
  have hD : va_D A [(aR, .inr (3, [.ref aS, .ref aA, .ref aL, .ref aE, .int (bI (dr_tp pw tn)), .int (dr_tn tn)])), (aS, .inr (0, [.int (nI P), .int (nI (P - 2)), .int (nI (P - 1)), .int (nI (P * (P - 2)))])), (aT, .inr (1, [.ref aS, .ref aW, .ref aM, .int (bI mk)])), (aW, .inl (cI, P * P, .inl w))] := hD
  refine x_ifT (tgt := 9) hx hb dX3_put_4 (by decide) (fun h4 => ?_) (fun h4 => ?_)
  · -- 4t
    have h4a : ¬ tn = 0 := by simpa using h4
    refine lv_aload_n hx hb dX3_put_9 rfl (lv_at hl 1 rfl) ?_
    refine va_get (D := (dC, dI)) (ci := 1) (v := .ref aW) (C := RX1) (T := TX1) (N := 4) hx hb hts inX1 hown hK hP 2 rfl rfl 1 (by decide) (hts _ t_fX3_152) (fun _ h9 => h9) rfl dX3_put_10 ?_
    refine lv_aload_n hx hb dX3_put_13 rfl (lv_at hl 0 rfl) ?_
    refine va_get (D := (dC, dI)) (ci := 3) (v := .ref aS) (C := RX3) (T := TX3) (N := 6) hx hb hts inX3 hown hK hP 0 rfl rfl 0 (by decide) (hts _ t_fX3_32) (fun _ h9 => h9) rfl dX3_put_14 ?_
    refine lv_iload_n hx hb dX3_put_17 rfl (lv_at hl 2 rfl) ?_
    refine lv_iload_n hx hb dX3_put_18 rfl (lv_at hl 3 rfl) ?_
    refine gV (wr := [(aR, .inr (3, [.ref aS, .ref aA, .ref aL, .ref aE, .int (bI (dr_tp pw tn)), .int (dr_tn tn)])), (aT, .inr (1, [.ref aS, .ref aW, .ref aM, .int (bI mk)])), (aW, .inl (cI, P * P, .inl w))]) (pre := [(aR, .inr (3, [.ref aS, .ref aA, .ref aL, .ref aE, .int (bI (dr_tp pw tn)), .int (dr_tn tn)])), (aS, .inr (0, [.int (nI P), .int (nI (P - 2)), .int (nI (P - 1)), .int (nI (P * (P - 2)))])), (aT, .inr (1, [.ref aS, .ref aW, .ref aM, .int (bI mk)])), (aW, .inl (cI, P * P, .inl w))]) (tl := []) (G := fun (u : Unit) => [(aR, .inr (3, [.ref aS, .ref aA, .ref aL, .ref aE, .int (bI (dr_tp pw tn)), .int (dr_tn tn)])), (aS, .inr (0, [.int (nI P), .int (nI (P - 2)), .int (nI (P - 1)), .int (nI (P * (P - 2)))])), (aT, .inr (1, [.ref aS, .ref aW, .ref aM, .int (bI mk)])), (aW, .inl (cI, P * P, .inl w))]) (b := aS) (As := [.int (nI d), .int (nI k)]) (rst := [.ref aW]) ⟨hx, hb, hml, hown, hts⟩ (c_place l dC dI cI cB cQ cJ aS P d k ) (cwV 2 hts (gdV t_mX3_156 t_inst_X0_place t_sel_X0_place t_ini_X0 t_code_X0_place) rfl rfl rfl (by decide +kernel) ⟨Nat.le_of_ble_eq_true rfl, Nat.le_of_ble_eq_true rfl⟩) hK hP hD hS hA [1] [0, 2, 3] [1, 0, 2, 3] rfl (by decide) (fun _ => rfl) (by decide) (ci := 0) rfl rfl rfl rfl hl.1 rfl (Nat.le_of_ble_eq_true rfl) dX3_put_19 ⟨Nat.zero_le _, Nat.zero_le _⟩ (fun r u H locs hu2 hP hD hS => ?_)
    have hr19 := hu2
    have hr19 : r = nI (d * P + k) := hr19
    subst hr19
    have hP : va_P (dC, dI) vwCl [(aR, .inr (3, [.ref aS, .ref aA, .ref aL, .ref aE, .int (bI (dr_tp pw tn)), .int (dr_tn tn)])), (aS, .inr (0, [.int (nI P), .int (nI (P - 2)), .int (nI (P - 1)), .int (nI (P * (P - 2)))])), (aT, .inr (1, [.ref aS, .ref aW, .ref aM, .int (bI mk)])), (aW, .inl (cI, P * P, .inl w))] H := hP
    have hD : va_D A [(aR, .inr (3, [.ref aS, .ref aA, .ref aL, .ref aE, .int (bI (dr_tp pw tn)), .int (dr_tn tn)])), (aS, .inr (0, [.int (nI P), .int (nI (P - 2)), .int (nI (P - 1)), .int (nI (P * (P - 2)))])), (aT, .inr (1, [.ref aS, .ref aW, .ref aM, .int (bI mk)])), (aW, .inl (cI, P * P, .inl w))] := hD
    refine lv_iload hx hb dX3_put_22 (lv_at hl 4 rfl) ?_
    refine x_iast (f := w) hx hb hK hP hD hS 3 0 rfl rfl dX3_put_24 (dr_pl hd hk) (by omega) (fun H locs hP hD hS => ?_)
    have hP : va_P (dC, dI) vwCl [(aR, .inr (3, [.ref aS, .ref aA, .ref aL, .ref aE, .int (bI (dr_tp pw tn)), .int (dr_tn tn)])), (aS, .inr (0, [.int (nI P), .int (nI (P - 2)), .int (nI (P - 1)), .int (nI (P * (P - 2)))])), (aT, .inr (1, [.ref aS, .ref aW, .ref aM, .int (bI mk)])), (aW, .inl (cI, P * P, .inl (va_up w (d * P + k) v)))] H := hP
    have hD : va_D A [(aR, .inr (3, [.ref aS, .ref aA, .ref aL, .ref aE, .int (bI (dr_tp pw tn)), .int (dr_tn tn)])), (aS, .inr (0, [.int (nI P), .int (nI (P - 2)), .int (nI (P - 1)), .int (nI (P * (P - 2)))])), (aT, .inr (1, [.ref aS, .ref aW, .ref aM, .int (bI mk)])), (aW, .inl (cI, P * P, .inl (va_up w (d * P + k) v)))] := hD
    refine lv_iconst (v := bI true) hx hb dX3_put_25 (by decide) ?_
    have e3 : ((dr_put P (w, pw, tn) d k v).2.2.1) = (dr_tp pw tn) := by simp [dr_put, dr_tp, dr_tn, h4a]
    have e4 : ((dr_put P (w, pw, tn) d k v).2.2.2) = (dr_tn tn) := by simp [dr_put, dr_tp, dr_tn, h4a]
    have e5 : ((dr_put P (w, pw, tn) d k v).2.1) = (va_up w (d * P + k) v) := by simp [dr_put, dr_tp, dr_tn, h4a]
    exact x_zret (D := (dC, dI)) (cl := vwCl) (A := A) () hQ hx hb hr hlk (by rw [e3, e4, e5]; exact hP) (by rw [e3, e4, e5]; exact hD) hS dX3_put_26 (by simp [dr_put, h4a])
  · -- 4f
    have h4a : tn = 0 := by simpa using h4
    refine lv_iconst (v := bI false) hx hb dX3_put_7 (by decide) ?_
    have e6 : ((dr_put P (w, pw, tn) d k v).2.2.1) = (dr_tp pw tn) := by simp [dr_put, dr_tp, dr_tn, h4a]
    have e7 : ((dr_put P (w, pw, tn) d k v).2.2.2) = (dr_tn tn) := by simp [dr_put, dr_tp, dr_tn, h4a]
    have e8 : ((dr_put P (w, pw, tn) d k v).2.1) = w := by simp [dr_put, dr_tp, dr_tn, h4a]
    exact x_zret (D := (dC, dI)) (cl := vwCl) (A := A) () hQ hx hb hr hlk (by rw [e6, e7, e8]; exact hP) (by rw [e6, e7, e8]; exact hD) hS dX3_put_8 (by simp [dr_put, h4a])

abbrev rm_c_pif : Room := { frames := 2, cells := 0, slots := 0, locals := 46 }
set_option maxHeartbeats 4000000 in
set_option maxRecDepth 100000 in
theorem c_pif (l : Launch) (dC : Nat → ClassId) (dI : Nat → Nat → Nat) (cI cB cQ cJ : ClassId) (aR : Nat) (aS : Nat) (aA : Nat) (aL : Nat) (aE : Nat) (pw : Bool) (tn : Int32) (P : Nat) (aT : Nat) (aW : Nat) (aM : Nat) (w : Nat → Int32) (ms : Nat → Bool) (mk : Bool) (d : Nat) (k : Nat) (v : Int32) (hp5 : dr_P P) (hd : d < P) (hk : k < P) : MG l yX3_putIfPresent (Cond.code yX3_putIfPresent cX3_putIfPresent 5 (some .boolean) :: TB) rm_c_pif (dC, dI) vwCl (TY cI cB cQ cJ) [.ref aR, .ref aT, .int (nI d), .int (nI k), .int v] [(aR, .inr (3, [.ref aS, .ref aA, .ref aL, .ref aE, .int (bI pw), .int tn])), (aS, .inr (0, [.int (nI P), .int (nI (P - 2)), .int (nI (P - 1)), .int (nI (P * (P - 2)))])), (aT, .inr (1, [.ref aS, .ref aW, .ref aM, .int (bI mk)])), (aW, .inl (cI, P * P, .inl w)), (aM, .inl (cB, P, .inl (fun z9 => bI (ms z9))))] (fun (r : Int32) (u : Unit) => r = bI ((dr_pif P ms (w, pw, tn) d k v).1)) (fun (u : Unit) => [(aR, .inr (3, [.ref aS, .ref aA, .ref aL, .ref aE, .int (bI ((dr_pif P ms (w, pw, tn) d k v).2.2.1)), .int ((dr_pif P ms (w, pw, tn) d k v).2.2.2)])), (aS, .inr (0, [.int (nI P), .int (nI (P - 2)), .int (nI (P - 1)), .int (nI (P * (P - 2)))])), (aT, .inr (1, [.ref aS, .ref aW, .ref aM, .int (bI mk)])), (aW, .inl (cI, P * P, .inl ((dr_pif P ms (w, pw, tn) d k v).2.1))), (aM, .inl (cB, P, .inl (fun z9 => bI (ms z9))))]) := by
  refine MG.ofW (cc := cX3_putIfPresent) (maxL := 5) (rt := .boolean) (by decide +kernel) rfl (Nat.le_of_ble_eq_true rfl) ?_
  intro p e s m args below meth c A ls Q H locs hQ hx hb hml hr hlk hts hown hK hP hD hS hA hl
  have hts : ∀ w ∈ TB, w.before args s = true := fun w h => hts w (List.mem_cons_of_mem _ h)
  have hown : s.vm.findClass RX3 = some m.cls := hown
  have hl : lv_has ls 5 [(0, .ref aR), (1, .ref aT), (2, .int (nI d)), (3, .int (nI k)), (4, .int v)] := hl
  have hP : va_P (dC, dI) vwCl [(aR, .inr (3, [.ref aS, .ref aA, .ref aL, .ref aE, .int (bI pw), .int tn])), (aS, .inr (0, [.int (nI P), .int (nI (P - 2)), .int (nI (P - 1)), .int (nI (P * (P - 2)))])), (aT, .inr (1, [.ref aS, .ref aW, .ref aM, .int (bI mk)])), (aW, .inl (cI, P * P, .inl w)), (aM, .inl (cB, P, .inl (fun z9 => bI (ms z9))))] H := hP
  have hD : va_D A [(aR, .inr (3, [.ref aS, .ref aA, .ref aL, .ref aE, .int (bI pw), .int tn])), (aS, .inr (0, [.int (nI P), .int (nI (P - 2)), .int (nI (P - 1)), .int (nI (P * (P - 2)))])), (aT, .inr (1, [.ref aS, .ref aW, .ref aM, .int (bI mk)])), (aW, .inl (cI, P * P, .inl w)), (aM, .inl (cB, P, .inl (fun z9 => bI (ms z9))))] := hD
  have hp := hp5.le
  have hpp := dr_PP hp5
  have hpq := dr_PP2 hp5
  refine lv_aload_n hx hb dX3_putIfPresent_0 rfl (lv_at hl 1 rfl) ?_
  refine va_get (D := (dC, dI)) (ci := 1) (v := .ref aM) (C := RX1) (T := TX1) (N := 4) hx hb hts inX1 hown hK hP 2 rfl rfl 2 (by decide) (hts _ t_fX3_122) (fun _ h9 => h9) rfl dX3_putIfPresent_1 ?_
  refine lv_iload_n hx hb dX3_putIfPresent_4 rfl (lv_at hl 2 rfl) ?_
  refine x_zald (g := ms) hx hb hK hP 4 1 rfl rfl dX3_putIfPresent_5 (by omega) (by omega) ?_
  refine x_ifT (tgt := 21) hx hb dX3_putIfPresent_6 (by decide) (fun h6 => ?_) (fun h6 => ?_)
  · -- 6t
    refine lv_iconst (v := bI true) hx hb dX3_putIfPresent_21 (by decide) ?_
    refine lv_goto (tgt := 26) hx hb dX3_putIfPresent_22 (by decide) ?_
    have e1 : ((dr_pif P ms (w, pw, tn) d k v).2.2.1) = pw := by first | rfl | (simp [dr_pif, h6]; done)
    have e2 : ((dr_pif P ms (w, pw, tn) d k v).2.2.2) = tn := by first | rfl | (simp [dr_pif, h6]; done)
    have e3 : ((dr_pif P ms (w, pw, tn) d k v).2.1) = w := by first | rfl | (simp [dr_pif, h6]; done)
    exact x_zret (D := (dC, dI)) (cl := vwCl) (A := A) () hQ hx hb hr hlk (by rw [e1, e2, e3]; exact hP) (by rw [e1, e2, e3]; exact hD) hS dX3_putIfPresent_26 (by first | rfl | (simp [dr_pif, h6]; done) | (simp [dr_pif, h6]; omega))
  · -- 6f
    refine lv_aload_n hx hb dX3_putIfPresent_9 rfl (lv_at hl 0 rfl) ?_
    refine lv_aload_n hx hb dX3_putIfPresent_10 rfl (lv_at hl 1 rfl) ?_
    refine lv_iload_n hx hb dX3_putIfPresent_11 rfl (lv_at hl 2 rfl) ?_
    refine lv_iload_n hx hb dX3_putIfPresent_12 rfl (lv_at hl 3 rfl) ?_
    refine lv_iload hx hb dX3_putIfPresent_13 (lv_at hl 4 rfl) ?_
    refine gV (wr := [(aM, .inl (cB, P, .inl (fun z9 => bI (ms z9))))]) (pre := [(aR, .inr (3, [.ref aS, .ref aA, .ref aL, .ref aE, .int (bI pw), .int tn])), (aS, .inr (0, [.int (nI P), .int (nI (P - 2)), .int (nI (P - 1)), .int (nI (P * (P - 2)))])), (aT, .inr (1, [.ref aS, .ref aW, .ref aM, .int (bI mk)])), (aW, .inl (cI, P * P, .inl w)), (aM, .inl (cB, P, .inl (fun z9 => bI (ms z9))))]) (tl := []) (G := fun (u : Unit) => [(aR, .inr (3, [.ref aS, .ref aA, .ref aL, .ref aE, .int (bI ((dr_put P (w, pw, tn) d k v).2.2.1)), .int ((dr_put P (w, pw, tn) d k v).2.2.2)])), (aS, .inr (0, [.int (nI P), .int (nI (P - 2)), .int (nI (P - 1)), .int (nI (P * (P - 2)))])), (aT, .inr (1, [.ref aS, .ref aW, .ref aM, .int (bI mk)])), (aW, .inl (cI, P * P, .inl ((dr_put P (w, pw, tn) d k v).2.1))), (aM, .inl (cB, P, .inl (fun z9 => bI (ms z9))))]) (b := aR) (As := [.ref aT, .int (nI d), .int (nI k), .int v]) (rst := []) ⟨hx, hb, hml, hown, hts⟩ (c_put l dC dI cI cB cQ cJ aR aS aA aL aE pw tn P aT aW aM w mk d k v hp5 (by omega) (by omega)) (cwV 4 hts (gdV t_mX3_177 t_inst_X3_put t_sel_X3_put t_ini_X3 t_code_X3_put) rfl rfl rfl (by decide +kernel) ⟨Nat.le_of_ble_eq_true rfl, Nat.le_of_ble_eq_true rfl⟩) hK hP hD hS hA [0, 1, 2, 3] [4] [0, 1, 2, 3, 4] rfl (by decide) (fun _ => rfl) (by decide) (ci := 3) rfl rfl rfl rfl hl.1 rfl (Nat.le_of_ble_eq_true rfl) dX3_putIfPresent_15 ⟨Nat.zero_le _, Nat.zero_le _⟩ (fun r u H locs hu4 hP hD hS => ?_)
    have hr15 := hu4
    have hr15 : r = bI ((dr_put P (w, pw, tn) d k v).1) := hr15
    subst hr15
    have hP : va_P (dC, dI) vwCl [(aR, .inr (3, [.ref aS, .ref aA, .ref aL, .ref aE, .int (bI ((dr_put P (w, pw, tn) d k v).2.2.1)), .int ((dr_put P (w, pw, tn) d k v).2.2.2)])), (aS, .inr (0, [.int (nI P), .int (nI (P - 2)), .int (nI (P - 1)), .int (nI (P * (P - 2)))])), (aT, .inr (1, [.ref aS, .ref aW, .ref aM, .int (bI mk)])), (aW, .inl (cI, P * P, .inl ((dr_put P (w, pw, tn) d k v).2.1))), (aM, .inl (cB, P, .inl (fun z9 => bI (ms z9))))] H := hP
    have hD : va_D A [(aR, .inr (3, [.ref aS, .ref aA, .ref aL, .ref aE, .int (bI ((dr_put P (w, pw, tn) d k v).2.2.1)), .int ((dr_put P (w, pw, tn) d k v).2.2.2)])), (aS, .inr (0, [.int (nI P), .int (nI (P - 2)), .int (nI (P - 1)), .int (nI (P * (P - 2)))])), (aT, .inr (1, [.ref aS, .ref aW, .ref aM, .int (bI mk)])), (aW, .inl (cI, P * P, .inl ((dr_put P (w, pw, tn) d k v).2.1))), (aM, .inl (cB, P, .inl (fun z9 => bI (ms z9))))] := hD
    refine x_ifF (tgt := 25) hx hb dX3_putIfPresent_18 (by decide) (fun h18 => ?_) (fun h18 => ?_)
    · -- 18t
      refine lv_iconst (v := bI false) hx hb dX3_putIfPresent_25 (by decide) ?_
      have e5 : ((dr_pif P ms (w, pw, tn) d k v).2.2.1) = ((dr_put P (w, pw, tn) d k v).2.2.1) := by first | rfl | (simp [dr_pif, h6, h18]; done)
      have e6 : ((dr_pif P ms (w, pw, tn) d k v).2.2.2) = ((dr_put P (w, pw, tn) d k v).2.2.2) := by first | rfl | (simp [dr_pif, h6, h18]; done)
      have e7 : ((dr_pif P ms (w, pw, tn) d k v).2.1) = ((dr_put P (w, pw, tn) d k v).2.1) := by first | rfl | (simp [dr_pif, h6, h18]; done)
      exact x_zret (D := (dC, dI)) (cl := vwCl) (A := A) () hQ hx hb hr hlk (by rw [e5, e6, e7]; exact hP) (by rw [e5, e6, e7]; exact hD) hS dX3_putIfPresent_26 (by first | rfl | (simp [dr_pif, h6, h18]; done) | (simp [dr_pif, h6, h18]; omega))
    · -- 18f
      refine lv_iconst (v := bI true) hx hb dX3_putIfPresent_21 (by decide) ?_
      refine lv_goto (tgt := 26) hx hb dX3_putIfPresent_22 (by decide) ?_
      have e8 : ((dr_pif P ms (w, pw, tn) d k v).2.2.1) = ((dr_put P (w, pw, tn) d k v).2.2.1) := by first | rfl | (simp [dr_pif, h6, h18]; done)
      have e9 : ((dr_pif P ms (w, pw, tn) d k v).2.2.2) = ((dr_put P (w, pw, tn) d k v).2.2.2) := by first | rfl | (simp [dr_pif, h6, h18]; done)
      have e10 : ((dr_pif P ms (w, pw, tn) d k v).2.1) = ((dr_put P (w, pw, tn) d k v).2.1) := by first | rfl | (simp [dr_pif, h6, h18]; done)
      exact x_zret (D := (dC, dI)) (cl := vwCl) (A := A) () hQ hx hb hr hlk (by rw [e8, e9, e10]; exact hP) (by rw [e8, e9, e10]; exact hD) hS dX3_putIfPresent_26 (by first | rfl | (simp [dr_pif, h6, h18]; done) | (simp [dr_pif, h6, h18]; omega))

abbrev rm_c_chg : Room := { frames := 3, cells := 0, slots := 0, locals := 70 }
set_option maxHeartbeats 4000000 in
set_option maxRecDepth 100000 in
theorem c_chg (l : Launch) (dC : Nat → ClassId) (dI : Nat → Nat → Nat) (cI cB cQ cJ : ClassId) (aR : Nat) (aS : Nat) (aA : Nat) (aL : Nat) (aE : Nat) (pw : Bool) (tn : Int32) (P : Nat) (aT : Nat) (aW : Nat) (aM : Nat) (w : Nat → Int32) (ms : Nat → Bool) (mk : Bool) (d : Nat) (k : Nat) (row : Nat) (ch : Int32) (hp5 : dr_P P) (hd : d < P) (hk : k < P - 2) (hrw : dr_row P row) : MG l yX3_changeParity (Cond.code yX3_changeParity cX3_changeParity 7 (some .boolean) :: TB) rm_c_chg (dC, dI) vwCl (TY cI cB cQ cJ) [.ref aR, .ref aT, .int (nI d), .int (nI k), .int (nI row), .int ch] [(aR, .inr (3, [.ref aS, .ref aA, .ref aL, .ref aE, .int (bI pw), .int tn])), (aS, .inr (0, [.int (nI P), .int (nI (P - 2)), .int (nI (P - 1)), .int (nI (P * (P - 2)))])), (aT, .inr (1, [.ref aS, .ref aW, .ref aM, .int (bI mk)])), (aW, .inl (cI, P * P, .inl w)), (aM, .inl (cB, P, .inl (fun z9 => bI (ms z9))))] (fun (r : Int32) (u : Unit) => r = bI ((dr_chg P ms (w, pw, tn) d k row ch).1)) (fun (u : Unit) => [(aR, .inr (3, [.ref aS, .ref aA, .ref aL, .ref aE, .int (bI ((dr_chg P ms (w, pw, tn) d k row ch).2.2.1)), .int ((dr_chg P ms (w, pw, tn) d k row ch).2.2.2)])), (aS, .inr (0, [.int (nI P), .int (nI (P - 2)), .int (nI (P - 1)), .int (nI (P * (P - 2)))])), (aT, .inr (1, [.ref aS, .ref aW, .ref aM, .int (bI mk)])), (aW, .inl (cI, P * P, .inl ((dr_chg P ms (w, pw, tn) d k row ch).2.1))), (aM, .inl (cB, P, .inl (fun z9 => bI (ms z9))))]) := by
  refine MG.ofW (cc := cX3_changeParity) (maxL := 7) (rt := .boolean) (by decide +kernel) rfl (Nat.le_of_ble_eq_true rfl) ?_
  intro p e s m args below meth c A ls Q H locs hQ hx hb hml hr hlk hts hown hK hP hD hS hA hl
  have hts : ∀ w ∈ TB, w.before args s = true := fun w h => hts w (List.mem_cons_of_mem _ h)
  have hown : s.vm.findClass RX3 = some m.cls := hown
  have hl : lv_has ls 7 [(0, .ref aR), (1, .ref aT), (2, .int (nI d)), (3, .int (nI k)), (4, .int (nI row)), (5, .int ch)] := hl
  have hP : va_P (dC, dI) vwCl [(aR, .inr (3, [.ref aS, .ref aA, .ref aL, .ref aE, .int (bI pw), .int tn])), (aS, .inr (0, [.int (nI P), .int (nI (P - 2)), .int (nI (P - 1)), .int (nI (P * (P - 2)))])), (aT, .inr (1, [.ref aS, .ref aW, .ref aM, .int (bI mk)])), (aW, .inl (cI, P * P, .inl w)), (aM, .inl (cB, P, .inl (fun z9 => bI (ms z9))))] H := hP
  have hD : va_D A [(aR, .inr (3, [.ref aS, .ref aA, .ref aL, .ref aE, .int (bI pw), .int tn])), (aS, .inr (0, [.int (nI P), .int (nI (P - 2)), .int (nI (P - 1)), .int (nI (P * (P - 2)))])), (aT, .inr (1, [.ref aS, .ref aW, .ref aM, .int (bI mk)])), (aW, .inl (cI, P * P, .inl w)), (aM, .inl (cB, P, .inl (fun z9 => bI (ms z9))))] := hD
  have hp := hp5.le
  have hpp := dr_PP hp5
  have hpq := dr_PP2 hp5
  have hrl : row < P := by rcases hrw with rfl | rfl <;> omega
  refine lv_aload_n hx hb dX3_changeParity_0 rfl (lv_at hl 0 rfl) ?_
  refine va_get (D := (dC, dI)) (ci := 3) (v := .ref aS) (C := RX3) (T := TX3) (N := 6) hx hb hts inX3 hown hK hP 0 rfl rfl 0 (by decide) (hts _ t_fX3_32) (fun _ h9 => h9) rfl dX3_changeParity_1 ?_
  refine lv_iload_n hx hb dX3_changeParity_4 rfl (lv_at hl 2 rfl) ?_
  refine lv_iload_n hx hb dX3_changeParity_5 rfl (lv_at hl 3 rfl) ?_
  refine lv_iload hx hb dX3_changeParity_6 (lv_at hl 4 rfl) ?_
  refine gV (wr := [(aR, .inr (3, [.ref aS, .ref aA, .ref aL, .ref aE, .int (bI pw), .int tn])), (aT, .inr (1, [.ref aS, .ref aW, .ref aM, .int (bI mk)])), (aW, .inl (cI, P * P, .inl w)), (aM, .inl (cB, P, .inl (fun z9 => bI (ms z9))))]) (pre := [(aR, .inr (3, [.ref aS, .ref aA, .ref aL, .ref aE, .int (bI pw), .int tn])), (aS, .inr (0, [.int (nI P), .int (nI (P - 2)), .int (nI (P - 1)), .int (nI (P * (P - 2)))])), (aT, .inr (1, [.ref aS, .ref aW, .ref aM, .int (bI mk)])), (aW, .inl (cI, P * P, .inl w)), (aM, .inl (cB, P, .inl (fun z9 => bI (ms z9))))]) (tl := []) (G := fun (u : Unit) => [(aR, .inr (3, [.ref aS, .ref aA, .ref aL, .ref aE, .int (bI pw), .int tn])), (aS, .inr (0, [.int (nI P), .int (nI (P - 2)), .int (nI (P - 1)), .int (nI (P * (P - 2)))])), (aT, .inr (1, [.ref aS, .ref aW, .ref aM, .int (bI mk)])), (aW, .inl (cI, P * P, .inl w)), (aM, .inl (cB, P, .inl (fun z9 => bI (ms z9))))]) (b := aS) (As := [.int (nI d), .int (nI k), .int (nI row)]) (rst := []) ⟨hx, hb, hml, hown, hts⟩ (c_pd l dC dI cI cB cQ cJ aS P d k row hp5 hd hk hrw) (cwV 3 hts (gdV t_mX3_180 t_inst_X0_parityDrive t_sel_X0_parityDrive t_ini_X0 t_code_X0_parityDrive) rfl rfl rfl (by decide +kernel) ⟨Nat.le_of_ble_eq_true rfl, Nat.le_of_ble_eq_true rfl⟩) hK hP hD hS hA [1] [0, 2, 3, 4] [1, 0, 2, 3, 4] rfl (by decide) (fun _ => rfl) (by decide) (ci := 0) rfl rfl rfl rfl hl.1 rfl (Nat.le_of_ble_eq_true rfl) dX3_changeParity_8 ⟨Nat.zero_le _, Nat.zero_le _⟩ (fun r u H locs hu1 hP hD hS => ?_)
  have hr8 := hu1
  have hr8 : r = nI (dr_pd P d k row) := hr8
  subst hr8
  have hP : va_P (dC, dI) vwCl [(aR, .inr (3, [.ref aS, .ref aA, .ref aL, .ref aE, .int (bI pw), .int tn])), (aS, .inr (0, [.int (nI P), .int (nI (P - 2)), .int (nI (P - 1)), .int (nI (P * (P - 2)))])), (aT, .inr (1, [.ref aS, .ref aW, .ref aM, .int (bI mk)])), (aW, .inl (cI, P * P, .inl w)), (aM, .inl (cB, P, .inl (fun z9 => bI (ms z9))))] H := hP
  have hD : va_D A [(aR, .inr (3, [.ref aS, .ref aA, .ref aL, .ref aE, .int (bI pw), .int tn])), (aS, .inr (0, [.int (nI P), .int (nI (P - 2)), .int (nI (P - 1)), .int (nI (P * (P - 2)))])), (aT, .inr (1, [.ref aS, .ref aW, .ref aM, .int (bI mk)])), (aW, .inl (cI, P * P, .inl w)), (aM, .inl (cB, P, .inl (fun z9 => bI (ms z9))))] := hD
  refine lv_istore hx hb dX3_changeParity_11 hl (by decide) rfl (fun ls hl => ?_)
  have hl : lv_has ls 7 [(6, .int (nI (dr_pd P d k row))), (0, .ref aR), (1, .ref aT), (2, .int (nI d)), (3, .int (nI k)), (4, .int (nI row)), (5, .int ch)] := hl
  refine lv_aload_n hx hb dX3_changeParity_13 rfl (lv_at hl 1 rfl) ?_
  refine lv_aload_n hx hb dX3_changeParity_14 rfl (lv_at hl 2 rfl) ?_
  refine lv_iload hx hb dX3_changeParity_15 (lv_at hl 0 rfl) ?_
  refine lv_iload hx hb dX3_changeParity_17 (lv_at hl 5 rfl) ?_
  refine lv_aload_n hx hb dX3_changeParity_19 rfl (lv_at hl 2 rfl) ?_
  refine va_get (D := (dC, dI)) (ci := 1) (v := .ref aW) (C := RX1) (T := TX1) (N := 4) hx hb hts inX1 hown hK hP 2 rfl rfl 1 (by decide) (hts _ t_fX3_152) (fun _ h9 => h9) rfl dX3_changeParity_20 ?_
  refine lv_aload_n hx hb dX3_changeParity_23 rfl (lv_at hl 1 rfl) ?_
  refine va_get (D := (dC, dI)) (ci := 3) (v := .ref aS) (C := RX3) (T := TX3) (N := 6) hx hb hts inX3 hown hK hP 0 rfl rfl 0 (by decide) (hts _ t_fX3_32) (fun _ h9 => h9) rfl dX3_changeParity_24 ?_
  refine lv_iload hx hb dX3_changeParity_27 (lv_at hl 0 rfl) ?_
  refine lv_iload hx hb dX3_changeParity_29 (lv_at hl 5 rfl) ?_
  refine gV (wr := [(aR, .inr (3, [.ref aS, .ref aA, .ref aL, .ref aE, .int (bI pw), .int tn])), (aT, .inr (1, [.ref aS, .ref aW, .ref aM, .int (bI mk)])), (aW, .inl (cI, P * P, .inl w)), (aM, .inl (cB, P, .inl (fun z9 => bI (ms z9))))]) (pre := [(aR, .inr (3, [.ref aS, .ref aA, .ref aL, .ref aE, .int (bI pw), .int tn])), (aS, .inr (0, [.int (nI P), .int (nI (P - 2)), .int (nI (P - 1)), .int (nI (P * (P - 2)))])), (aT, .inr (1, [.ref aS, .ref aW, .ref aM, .int (bI mk)])), (aW, .inl (cI, P * P, .inl w)), (aM, .inl (cB, P, .inl (fun z9 => bI (ms z9))))]) (tl := []) (G := fun (u : Unit) => [(aR, .inr (3, [.ref aS, .ref aA, .ref aL, .ref aE, .int (bI pw), .int tn])), (aS, .inr (0, [.int (nI P), .int (nI (P - 2)), .int (nI (P - 1)), .int (nI (P * (P - 2)))])), (aT, .inr (1, [.ref aS, .ref aW, .ref aM, .int (bI mk)])), (aW, .inl (cI, P * P, .inl w)), (aM, .inl (cB, P, .inl (fun z9 => bI (ms z9))))]) (b := aS) (As := [.int (nI (dr_pd P d k row)), .int (nI row)]) (rst := [.ref aW, .int (nI row), .int (nI (dr_pd P d k row)), .ref aT, .ref aR]) ⟨hx, hb, hml, hown, hts⟩ (c_place l dC dI cI cB cQ cJ aS P (dr_pd P d k row) row ) (cwV 2 hts (gdV t_mX3_156 t_inst_X0_place t_sel_X0_place t_ini_X0 t_code_X0_place) rfl rfl rfl (by decide +kernel) ⟨Nat.le_of_ble_eq_true rfl, Nat.le_of_ble_eq_true rfl⟩) hK hP hD hS hA [1] [0, 2, 3, 4] [1, 0, 2, 3, 4] rfl (by decide) (fun _ => rfl) (by decide) (ci := 0) rfl rfl rfl rfl hl.1 rfl (Nat.le_of_ble_eq_true rfl) dX3_changeParity_31 ⟨Nat.zero_le _, Nat.zero_le _⟩ (fun r u H locs hu2 hP hD hS => ?_)
  have hr31 := hu2
  have hr31 : r = nI ((dr_pd P d k row) * P + row) := hr31
  subst hr31
  have hP : va_P (dC, dI) vwCl [(aR, .inr (3, [.ref aS, .ref aA, .ref aL, .ref aE, .int (bI pw), .int tn])), (aS, .inr (0, [.int (nI P), .int (nI (P - 2)), .int (nI (P - 1)), .int (nI (P * (P - 2)))])), (aT, .inr (1, [.ref aS, .ref aW, .ref aM, .int (bI mk)])), (aW, .inl (cI, P * P, .inl w)), (aM, .inl (cB, P, .inl (fun z9 => bI (ms z9))))] H := hP
  have hD : va_D A [(aR, .inr (3, [.ref aS, .ref aA, .ref aL, .ref aE, .int (bI pw), .int tn])), (aS, .inr (0, [.int (nI P), .int (nI (P - 2)), .int (nI (P - 1)), .int (nI (P * (P - 2)))])), (aT, .inr (1, [.ref aS, .ref aW, .ref aM, .int (bI mk)])), (aW, .inl (cI, P * P, .inl w)), (aM, .inl (cB, P, .inl (fun z9 => bI (ms z9))))] := hD
  refine x_iald (f := w) hx hb hK hP 3 0 rfl rfl dX3_changeParity_34 (dr_pl (dr_pd_lt hp5) hrl) (by omega) ?_
  refine lv_iload hx hb dX3_changeParity_35 (lv_at hl 6 rfl) ?_
  refine lv_ixor hx hb dX3_changeParity_37 ?_
  refine gV (wr := []) (pre := [(aR, .inr (3, [.ref aS, .ref aA, .ref aL, .ref aE, .int (bI pw), .int tn])), (aS, .inr (0, [.int (nI P), .int (nI (P - 2)), .int (nI (P - 1)), .int (nI (P * (P - 2)))])), (aT, .inr (1, [.ref aS, .ref aW, .ref aM, .int (bI mk)])), (aW, .inl (cI, P * P, .inl w)), (aM, .inl (cB, P, .inl (fun z9 => bI (ms z9))))]) (tl := []) (G := fun (u : Unit) => [(aR, .inr (3, [.ref aS, .ref aA, .ref aL, .ref aE, .int (bI ((dr_pif P ms (w, pw, tn) (dr_pd P d k row) row ((w ((dr_pd P d k row) * P + row)) ^^^ ch)).2.2.1)), .int ((dr_pif P ms (w, pw, tn) (dr_pd P d k row) row ((w ((dr_pd P d k row) * P + row)) ^^^ ch)).2.2.2)])), (aS, .inr (0, [.int (nI P), .int (nI (P - 2)), .int (nI (P - 1)), .int (nI (P * (P - 2)))])), (aT, .inr (1, [.ref aS, .ref aW, .ref aM, .int (bI mk)])), (aW, .inl (cI, P * P, .inl ((dr_pif P ms (w, pw, tn) (dr_pd P d k row) row ((w ((dr_pd P d k row) * P + row)) ^^^ ch)).2.1))), (aM, .inl (cB, P, .inl (fun z9 => bI (ms z9))))]) (b := aR) (As := [.ref aT, .int (nI (dr_pd P d k row)), .int (nI row), .int ((w ((dr_pd P d k row) * P + row)) ^^^ ch)]) (rst := []) ⟨hx, hb, hml, hown, hts⟩ (c_pif l dC dI cI cB cQ cJ aR aS aA aL aE pw tn P aT aW aM w ms mk (dr_pd P d k row) row ((w ((dr_pd P d k row) * P + row)) ^^^ ch) hp5 (dr_pd_lt hp5) hrl) (cwV 4 hts (gdV t_mX3_96 t_inst_X3_putIfPresent t_sel_X3_putIfPresent t_ini_X3 t_code_X3_putIfPresent) rfl rfl rfl (by decide +kernel) ⟨Nat.le_of_ble_eq_true rfl, Nat.le_of_ble_eq_true rfl⟩) hK hP hD hS hA [0, 1, 2, 3, 4] [] [0, 1, 2, 3, 4] rfl (by decide) (fun _ => rfl) (by decide) (ci := 3) rfl rfl rfl rfl hl.1 rfl (Nat.le_of_ble_eq_true rfl) dX3_changeParity_38 ⟨Nat.zero_le _, Nat.zero_le _⟩ (fun r u H locs hu3 hP hD hS => ?_)
  have hr38 := hu3
  have hr38 : r = bI ((dr_pif P ms (w, pw, tn) (dr_pd P d k row) row ((w ((dr_pd P d k row) * P + row)) ^^^ ch)).1) := hr38
  subst hr38
  have hP : va_P (dC, dI) vwCl [(aR, .inr (3, [.ref aS, .ref aA, .ref aL, .ref aE, .int (bI ((dr_pif P ms (w, pw, tn) (dr_pd P d k row) row ((w ((dr_pd P d k row) * P + row)) ^^^ ch)).2.2.1)), .int ((dr_pif P ms (w, pw, tn) (dr_pd P d k row) row ((w ((dr_pd P d k row) * P + row)) ^^^ ch)).2.2.2)])), (aS, .inr (0, [.int (nI P), .int (nI (P - 2)), .int (nI (P - 1)), .int (nI (P * (P - 2)))])), (aT, .inr (1, [.ref aS, .ref aW, .ref aM, .int (bI mk)])), (aW, .inl (cI, P * P, .inl ((dr_pif P ms (w, pw, tn) (dr_pd P d k row) row ((w ((dr_pd P d k row) * P + row)) ^^^ ch)).2.1))), (aM, .inl (cB, P, .inl (fun z9 => bI (ms z9))))] H := hP
  have hD : va_D A [(aR, .inr (3, [.ref aS, .ref aA, .ref aL, .ref aE, .int (bI ((dr_pif P ms (w, pw, tn) (dr_pd P d k row) row ((w ((dr_pd P d k row) * P + row)) ^^^ ch)).2.2.1)), .int ((dr_pif P ms (w, pw, tn) (dr_pd P d k row) row ((w ((dr_pd P d k row) * P + row)) ^^^ ch)).2.2.2)])), (aS, .inr (0, [.int (nI P), .int (nI (P - 2)), .int (nI (P - 1)), .int (nI (P * (P - 2)))])), (aT, .inr (1, [.ref aS, .ref aW, .ref aM, .int (bI mk)])), (aW, .inl (cI, P * P, .inl ((dr_pif P ms (w, pw, tn) (dr_pd P d k row) row ((w ((dr_pd P d k row) * P + row)) ^^^ ch)).2.1))), (aM, .inl (cB, P, .inl (fun z9 => bI (ms z9))))] := hD
  have e4 : ((dr_chg P ms (w, pw, tn) d k row ch).2.2.1) = ((dr_pif P ms (w, pw, tn) (dr_pd P d k row) row ((w ((dr_pd P d k row) * P + row)) ^^^ ch)).2.2.1) := by first | rfl | (simp [dr_chg]; done)
  have e5 : ((dr_chg P ms (w, pw, tn) d k row ch).2.2.2) = ((dr_pif P ms (w, pw, tn) (dr_pd P d k row) row ((w ((dr_pd P d k row) * P + row)) ^^^ ch)).2.2.2) := by first | rfl | (simp [dr_chg]; done)
  have e6 : ((dr_chg P ms (w, pw, tn) d k row ch).2.1) = ((dr_pif P ms (w, pw, tn) (dr_pd P d k row) row ((w ((dr_pd P d k row) * P + row)) ^^^ ch)).2.1) := by first | rfl | (simp [dr_chg]; done)
  exact x_zret (D := (dC, dI)) (cl := vwCl) (A := A) () hQ hx hb hr hlk (by rw [e4, e5, e6]; exact hP) (by rw [e4, e5, e6]; exact hD) hS dX3_changeParity_41 (by first | rfl | (simp [dr_chg]; done) | (simp [dr_chg]; omega))

abbrev rm_c_putDrive : Room := { frames := 2, cells := 0, slots := 0, locals := 46 }
set_option maxHeartbeats 4000000 in
set_option maxRecDepth 100000 in
theorem c_putDrive (l : Launch) (dC : Nat → ClassId) (dI : Nat → Nat → Nat) (cI cB cQ cJ : ClassId) (aR : Nat) (aS : Nat) (aA : Nat) (aL : Nat) (aE : Nat) (pw : Bool) (tn : Int32) (P : Nat) (aEW : Nat) (aEK : Nat) (tw : Nat → Int32) (un : Int32) (aT : Nat) (aW : Nat) (aM : Nat) (w : Nat → Int32) (mk : Bool) (d : Nat) (hp5 : dr_P P) (hd : d < P) : MG l yX3_putDrive (Cond.code yX3_putDrive cX3_putDrive 4 (some .boolean) :: TB) rm_c_putDrive (dC, dI) vwCl (TY cI cB cQ cJ) [.ref aR, .ref aT, .int (nI d)] [(aR, .inr (3, [.ref aS, .ref aA, .ref aL, .ref aE, .int (bI pw), .int tn])), (aS, .inr (0, [.int (nI P), .int (nI (P - 2)), .int (nI (P - 1)), .int (nI (P * (P - 2)))])), (aE, .inr (2, [.ref aS, .ref aEW, .ref aEK, .int un])), (aEW, .inl (cI, P * P, .inl tw)), (aT, .inr (1, [.ref aS, .ref aW, .ref aM, .int (bI mk)])), (aW, .inl (cI, P * P, .inl w))] (fun (r : Int32) (u : Unit) => r = bI ((dr_pdr P tw d (w, pw, tn) P).1)) (fun (u : Unit) => [(aR, .inr (3, [.ref aS, .ref aA, .ref aL, .ref aE, .int (bI ((dr_pdr P tw d (w, pw, tn) P).2.2.1)), .int ((dr_pdr P tw d (w, pw, tn) P).2.2.2)])), (aS, .inr (0, [.int (nI P), .int (nI (P - 2)), .int (nI (P - 1)), .int (nI (P * (P - 2)))])), (aE, .inr (2, [.ref aS, .ref aEW, .ref aEK, .int un])), (aEW, .inl (cI, P * P, .inl tw)), (aT, .inr (1, [.ref aS, .ref aW, .ref aM, .int (bI mk)])), (aW, .inl (cI, P * P, .inl ((dr_pdr P tw d (w, pw, tn) P).2.1)))]) := by
  refine MG.ofW (cc := cX3_putDrive) (maxL := 4) (rt := .boolean) (by decide +kernel) rfl (Nat.le_of_ble_eq_true rfl) ?_
  intro p e s m args below meth c A ls Q H locs hQ hx hb hml hr hlk hts hown hK hP hD hS hA hl
  have hts : ∀ w ∈ TB, w.before args s = true := fun w h => hts w (List.mem_cons_of_mem _ h)
  have hown : s.vm.findClass RX3 = some m.cls := hown
  have hl : lv_has ls 4 [(0, .ref aR), (1, .ref aT), (2, .int (nI d))] := hl
  have hP : va_P (dC, dI) vwCl [(aR, .inr (3, [.ref aS, .ref aA, .ref aL, .ref aE, .int (bI pw), .int tn])), (aS, .inr (0, [.int (nI P), .int (nI (P - 2)), .int (nI (P - 1)), .int (nI (P * (P - 2)))])), (aE, .inr (2, [.ref aS, .ref aEW, .ref aEK, .int un])), (aEW, .inl (cI, P * P, .inl tw)), (aT, .inr (1, [.ref aS, .ref aW, .ref aM, .int (bI mk)])), (aW, .inl (cI, P * P, .inl w))] H := hP
  have hD : va_D A [(aR, .inr (3, [.ref aS, .ref aA, .ref aL, .ref aE, .int (bI pw), .int tn])), (aS, .inr (0, [.int (nI P), .int (nI (P - 2)), .int (nI (P - 1)), .int (nI (P * (P - 2)))])), (aE, .inr (2, [.ref aS, .ref aEW, .ref aEK, .int un])), (aEW, .inl (cI, P * P, .inl tw)), (aT, .inr (1, [.ref aS, .ref aW, .ref aM, .int (bI mk)])), (aW, .inl (cI, P * P, .inl w))] := hD
  have hp := hp5.le
  have hpp := dr_PP hp5
  have hpq := dr_PP2 hp5
  refine lv_iconst (v := nI 0) hx hb dX3_putDrive_0 (by decide) ?_
  refine lv_istore_n hx hb dX3_putDrive_1 rfl hl (by decide) rfl (fun ls hl => ?_)
  have hl : lv_has ls 4 [(3, .int (nI 0)), (0, .ref aR), (1, .ref aT), (2, .int (nI d))] := hl
  have lp2 : ∀ (n9 : Nat) (i : Nat) (x : dr_X) (ls : Array Slot) (H : Heap) (locs : List Loc), P - i < n9 → (i ≤ P) → (dr_pdr P tw d (w, pw, tn) i = (true, x)) → lv_has ls 4 [(3, .int (nI i)), (2, .int (nI d)), (1, .ref aT), (0, .ref aR)] → va_P (dC, dI) vwCl [(aR, .inr (3, [.ref aS, .ref aA, .ref aL, .ref aE, .int (bI x.2.1), .int x.2.2])), (aS, .inr (0, [.int (nI P), .int (nI (P - 2)), .int (nI (P - 1)), .int (nI (P * (P - 2)))])), (aE, .inr (2, [.ref aS, .ref aEW, .ref aEK, .int un])), (aEW, .inl (cI, P * P, .inl tw)), (aT, .inr (1, [.ref aS, .ref aW, .ref aM, .int (bI mk)])), (aW, .inl (cI, P * P, .inl x.1))] H → va_D A [(aR, .inr (3, [.ref aS, .ref aA, .ref aL, .ref aE, .int (bI x.2.1), .int x.2.2])), (aS, .inr (0, [.int (nI P), .int (nI (P - 2)), .int (nI (P - 1)), .int (nI (P * (P - 2)))])), (aE, .inr (2, [.ref aS, .ref aEW, .ref aEK, .int un])), (aEW, .inl (cI, P * P, .inl tw)), (aT, .inr (1, [.ref aS, .ref aW, .ref aM, .int (bI mk)])), (aW, .inl (cI, P * P, .inl x.1))] → va_S A s.heap H locs → W p l e rm_c_putDrive s m args below meth c H locs 0 0 Q (F0 m 2 ls []) := by
    intro n9
    induction n9 with
    | zero => intro i x ls H locs hn9; omega
    | succ n9 ih2 =>
      intro i x ls H locs hn9 hi hx9 hl hP hD hS
      refine lv_iload_n hx hb dX3_putDrive_2 rfl (lv_at hl 0 rfl) ?_
      refine lv_aload_n hx hb dX3_putDrive_3 rfl (lv_at hl 3 rfl) ?_
      refine va_get (D := (dC, dI)) (ci := 3) (v := .ref aS) (C := RX3) (T := TX3) (N := 6) hx hb hts inX3 hown hK hP 0 rfl rfl 0 (by decide) (hts _ t_fX3_32) (fun _ h9 => h9) rfl dX3_putDrive_4 ?_
      refine va_get (D := (dC, dI)) (ci := 0) (v := .int (nI P)) (C := RX0) (T := TX0) (N := 4) hx hb hts inX0 hown hK hP 1 rfl rfl 0 (by decide) (hts _ t_fX3_40) (fun _ h9 => h9) rfl dX3_putDrive_7 ?_
      refine x_cge (tgt := 48) hx hb dX3_putDrive_10 (by decide) (by omega) (by omega) (fun h10 => ?_) (fun h10 => ?_)
      · -- 10t
        have hie9 : i = P := by omega
        rw [hie9] at hx9
        refine lv_iconst (v := bI true) hx hb dX3_putDrive_48 (by decide) ?_
        have e1 : ((dr_pdr P tw d (w, pw, tn) P).2.2.1) = x.2.1 := by rw [hx9]
        have e2 : ((dr_pdr P tw d (w, pw, tn) P).2.2.2) = x.2.2 := by rw [hx9]
        have e3 : ((dr_pdr P tw d (w, pw, tn) P).2.1) = x.1 := by rw [hx9]
        exact x_zret (D := (dC, dI)) (cl := vwCl) (A := A) () hQ hx hb hr hlk (by rw [e1, e2, e3]; exact hP) (by rw [e1, e2, e3]; exact hD) hS dX3_putDrive_49 (by rw [hx9])
      · -- 10f
        refine lv_aload_n hx hb dX3_putDrive_13 rfl (lv_at hl 3 rfl) ?_
        refine lv_aload_n hx hb dX3_putDrive_14 rfl (lv_at hl 2 rfl) ?_
        refine lv_iload_n hx hb dX3_putDrive_15 rfl (lv_at hl 1 rfl) ?_
        refine lv_iload_n hx hb dX3_putDrive_16 rfl (lv_at hl 0 rfl) ?_
        refine lv_aload_n hx hb dX3_putDrive_17 rfl (lv_at hl 3 rfl) ?_
        refine va_get (D := (dC, dI)) (ci := 3) (v := .ref aE) (C := RX3) (T := TX3) (N := 6) hx hb hts inX3 hown hK hP 0 rfl rfl 3 (by decide) (hts _ t_fX3_51) (fun _ h9 => h9) rfl dX3_putDrive_18 ?_
        refine va_get (D := (dC, dI)) (ci := 2) (v := .ref aEW) (C := RX2) (T := TX2) (N := 4) hx hb hts inX2 hown hK hP 2 rfl rfl 1 (by decide) (hts _ t_fX3_173) (fun _ h9 => h9) rfl dX3_putDrive_21 ?_
        refine lv_aload_n hx hb dX3_putDrive_24 rfl (lv_at hl 3 rfl) ?_
        refine va_get (D := (dC, dI)) (ci := 3) (v := .ref aS) (C := RX3) (T := TX3) (N := 6) hx hb hts inX3 hown hK hP 0 rfl rfl 0 (by decide) (hts _ t_fX3_32) (fun _ h9 => h9) rfl dX3_putDrive_25 ?_
        refine lv_iload_n hx hb dX3_putDrive_28 rfl (lv_at hl 1 rfl) ?_
        refine lv_iload_n hx hb dX3_putDrive_29 rfl (lv_at hl 0 rfl) ?_
        refine gV (wr := [(aR, .inr (3, [.ref aS, .ref aA, .ref aL, .ref aE, .int (bI x.2.1), .int x.2.2])), (aE, .inr (2, [.ref aS, .ref aEW, .ref aEK, .int un])), (aEW, .inl (cI, P * P, .inl tw)), (aT, .inr (1, [.ref aS, .ref aW, .ref aM, .int (bI mk)])), (aW, .inl (cI, P * P, .inl x.1))]) (pre := [(aR, .inr (3, [.ref aS, .ref aA, .ref aL, .ref aE, .int (bI x.2.1), .int x.2.2])), (aS, .inr (0, [.int (nI P), .int (nI (P - 2)), .int (nI (P - 1)), .int (nI (P * (P - 2)))])), (aE, .inr (2, [.ref aS, .ref aEW, .ref aEK, .int un])), (aEW, .inl (cI, P * P, .inl tw)), (aT, .inr (1, [.ref aS, .ref aW, .ref aM, .int (bI mk)])), (aW, .inl (cI, P * P, .inl x.1))]) (tl := []) (G := fun (u : Unit) => [(aR, .inr (3, [.ref aS, .ref aA, .ref aL, .ref aE, .int (bI x.2.1), .int x.2.2])), (aS, .inr (0, [.int (nI P), .int (nI (P - 2)), .int (nI (P - 1)), .int (nI (P * (P - 2)))])), (aE, .inr (2, [.ref aS, .ref aEW, .ref aEK, .int un])), (aEW, .inl (cI, P * P, .inl tw)), (aT, .inr (1, [.ref aS, .ref aW, .ref aM, .int (bI mk)])), (aW, .inl (cI, P * P, .inl x.1))]) (b := aS) (As := [.int (nI d), .int (nI i)]) (rst := [.ref aEW, .int (nI i), .int (nI d), .ref aT, .ref aR]) ⟨hx, hb, hml, hown, hts⟩ (c_place l dC dI cI cB cQ cJ aS P d i ) (cwV 2 hts (gdV t_mX3_156 t_inst_X0_place t_sel_X0_place t_ini_X0 t_code_X0_place) rfl rfl rfl (by decide +kernel) ⟨Nat.le_of_ble_eq_true rfl, Nat.le_of_ble_eq_true rfl⟩) hK hP hD hS hA [1] [0, 2, 3, 4, 5] [1, 0, 2, 3, 4, 5] rfl (by decide) (fun _ => rfl) (by decide) (ci := 0) rfl rfl rfl rfl hl.1 rfl (Nat.le_of_ble_eq_true rfl) dX3_putDrive_30 ⟨Nat.zero_le _, Nat.zero_le _⟩ (fun r u H locs hu4 hP hD hS => ?_)
        have hr30 := hu4
        have hr30 : r = nI (d * P + i) := hr30
        subst hr30
        have hP : va_P (dC, dI) vwCl [(aR, .inr (3, [.ref aS, .ref aA, .ref aL, .ref aE, .int (bI x.2.1), .int x.2.2])), (aS, .inr (0, [.int (nI P), .int (nI (P - 2)), .int (nI (P - 1)), .int (nI (P * (P - 2)))])), (aE, .inr (2, [.ref aS, .ref aEW, .ref aEK, .int un])), (aEW, .inl (cI, P * P, .inl tw)), (aT, .inr (1, [.ref aS, .ref aW, .ref aM, .int (bI mk)])), (aW, .inl (cI, P * P, .inl x.1))] H := hP
        have hD : va_D A [(aR, .inr (3, [.ref aS, .ref aA, .ref aL, .ref aE, .int (bI x.2.1), .int x.2.2])), (aS, .inr (0, [.int (nI P), .int (nI (P - 2)), .int (nI (P - 1)), .int (nI (P * (P - 2)))])), (aE, .inr (2, [.ref aS, .ref aEW, .ref aEK, .int un])), (aEW, .inl (cI, P * P, .inl tw)), (aT, .inr (1, [.ref aS, .ref aW, .ref aM, .int (bI mk)])), (aW, .inl (cI, P * P, .inl x.1))] := hD
        refine x_iald (f := tw) hx hb hK hP 3 0 rfl rfl dX3_putDrive_33 (dr_pl hd (by omega)) (by omega) ?_
        refine gV (wr := [(aE, .inr (2, [.ref aS, .ref aEW, .ref aEK, .int un])), (aEW, .inl (cI, P * P, .inl tw))]) (pre := [(aR, .inr (3, [.ref aS, .ref aA, .ref aL, .ref aE, .int (bI x.2.1), .int x.2.2])), (aS, .inr (0, [.int (nI P), .int (nI (P - 2)), .int (nI (P - 1)), .int (nI (P * (P - 2)))])), (aE, .inr (2, [.ref aS, .ref aEW, .ref aEK, .int un])), (aEW, .inl (cI, P * P, .inl tw)), (aT, .inr (1, [.ref aS, .ref aW, .ref aM, .int (bI mk)])), (aW, .inl (cI, P * P, .inl x.1))]) (tl := []) (G := fun (u : Unit) => [(aR, .inr (3, [.ref aS, .ref aA, .ref aL, .ref aE, .int (bI ((dr_put P (x.1, x.2.1, x.2.2) d i (tw (d * P + i))).2.2.1)), .int ((dr_put P (x.1, x.2.1, x.2.2) d i (tw (d * P + i))).2.2.2)])), (aS, .inr (0, [.int (nI P), .int (nI (P - 2)), .int (nI (P - 1)), .int (nI (P * (P - 2)))])), (aE, .inr (2, [.ref aS, .ref aEW, .ref aEK, .int un])), (aEW, .inl (cI, P * P, .inl tw)), (aT, .inr (1, [.ref aS, .ref aW, .ref aM, .int (bI mk)])), (aW, .inl (cI, P * P, .inl ((dr_put P (x.1, x.2.1, x.2.2) d i (tw (d * P + i))).2.1)))]) (b := aR) (As := [.ref aT, .int (nI d), .int (nI i), .int (tw (d * P + i))]) (rst := []) ⟨hx, hb, hml, hown, hts⟩ (c_put l dC dI cI cB cQ cJ aR aS aA aL aE x.2.1 x.2.2 P aT aW aM x.1 mk d i (tw (d * P + i)) hp5 (by omega) (by omega)) (cwV 4 hts (gdV t_mX3_177 t_inst_X3_put t_sel_X3_put t_ini_X3 t_code_X3_put) rfl rfl rfl (by decide +kernel) ⟨Nat.le_of_ble_eq_true rfl, Nat.le_of_ble_eq_true rfl⟩) hK hP hD hS hA [0, 1, 4, 5] [2, 3] [0, 1, 4, 5, 2, 3] rfl (by decide) (fun _ => rfl) (by decide) (ci := 3) rfl rfl rfl rfl hl.1 rfl (Nat.le_of_ble_eq_true rfl) dX3_putDrive_34 ⟨Nat.zero_le _, Nat.zero_le _⟩ (fun r u H locs hu5 hP hD hS => ?_)
        have hr34 := hu5
        have hr34 : r = bI ((dr_put P (x.1, x.2.1, x.2.2) d i (tw (d * P + i))).1) := hr34
        subst hr34
        have hP : va_P (dC, dI) vwCl [(aR, .inr (3, [.ref aS, .ref aA, .ref aL, .ref aE, .int (bI ((dr_put P (x.1, x.2.1, x.2.2) d i (tw (d * P + i))).2.2.1)), .int ((dr_put P (x.1, x.2.1, x.2.2) d i (tw (d * P + i))).2.2.2)])), (aS, .inr (0, [.int (nI P), .int (nI (P - 2)), .int (nI (P - 1)), .int (nI (P * (P - 2)))])), (aE, .inr (2, [.ref aS, .ref aEW, .ref aEK, .int un])), (aEW, .inl (cI, P * P, .inl tw)), (aT, .inr (1, [.ref aS, .ref aW, .ref aM, .int (bI mk)])), (aW, .inl (cI, P * P, .inl ((dr_put P (x.1, x.2.1, x.2.2) d i (tw (d * P + i))).2.1)))] H := hP
        have hD : va_D A [(aR, .inr (3, [.ref aS, .ref aA, .ref aL, .ref aE, .int (bI ((dr_put P (x.1, x.2.1, x.2.2) d i (tw (d * P + i))).2.2.1)), .int ((dr_put P (x.1, x.2.1, x.2.2) d i (tw (d * P + i))).2.2.2)])), (aS, .inr (0, [.int (nI P), .int (nI (P - 2)), .int (nI (P - 1)), .int (nI (P * (P - 2)))])), (aE, .inr (2, [.ref aS, .ref aEW, .ref aEK, .int un])), (aEW, .inl (cI, P * P, .inl tw)), (aT, .inr (1, [.ref aS, .ref aW, .ref aM, .int (bI mk)])), (aW, .inl (cI, P * P, .inl ((dr_put P (x.1, x.2.1, x.2.2) d i (tw (d * P + i))).2.1)))] := hD
        refine x_ifT (tgt := 42) hx hb dX3_putDrive_37 (by decide) (fun h37 => ?_) (fun h37 => ?_)
        · -- 37t
          refine lv_iinc (v := nI (i + 1)) hx hb dX3_putDrive_42 hl (k := 0) rfl (x_inc _) (by decide) rfl (fun ls hl => ?_)
          have hl : lv_has ls 4 [(3, .int (nI (i + 1))), (2, .int (nI d)), (1, .ref aT), (0, .ref aR)] := hl
          refine lv_goto (tgt := 2) hx hb dX3_putDrive_45 (by decide) ?_
          have e6 : (((dr_put P x d i (tw (d * P + i))).2).2.1) = ((dr_put P (x.1, x.2.1, x.2.2) d i (tw (d * P + i))).2.2.1) := by first | rfl | (simp [h10, h37]; done) | (simp [h10, h37]; omega)
          have e7 : (((dr_put P x d i (tw (d * P + i))).2).2.2) = ((dr_put P (x.1, x.2.1, x.2.2) d i (tw (d * P + i))).2.2.2) := by first | rfl | (simp [h10, h37]; done) | (simp [h10, h37]; omega)
          have e8 : (((dr_put P x d i (tw (d * P + i))).2).1) = ((dr_put P (x.1, x.2.1, x.2.2) d i (tw (d * P + i))).2.1) := by first | rfl | (simp [h10, h37]; done) | (simp [h10, h37]; omega)
          exact ih2 (i + 1) ((dr_put P x d i (tw (d * P + i))).2) ls H locs (by omega) (by omega) (by first | rfl | (rw [dr_pdr, hx9, if_pos rfl]; exact Prod.ext h37 rfl)) (lv_sub hl [0, 1, 2, 3] rfl) (by rw [e6, e7, e8]; exact hP) (by rw [e6, e7, e8]; exact hD) hS
        · -- 37f
          refine lv_iconst (v := bI false) hx hb dX3_putDrive_40 (by decide) ?_
          have e9 : ((dr_pdr P tw d (w, pw, tn) P).2.2.1) = ((dr_put P (x.1, x.2.1, x.2.2) d i (tw (d * P + i))).2.2.1) := by rw [dr_pdr_false (show i < P by omega) hx9 h37]
          have e10 : ((dr_pdr P tw d (w, pw, tn) P).2.2.2) = ((dr_put P (x.1, x.2.1, x.2.2) d i (tw (d * P + i))).2.2.2) := by rw [dr_pdr_false (show i < P by omega) hx9 h37]
          have e11 : ((dr_pdr P tw d (w, pw, tn) P).2.1) = ((dr_put P (x.1, x.2.1, x.2.2) d i (tw (d * P + i))).2.1) := by rw [dr_pdr_false (show i < P by omega) hx9 h37]
          exact x_zret (D := (dC, dI)) (cl := vwCl) (A := A) () hQ hx hb hr hlk (by rw [e9, e10, e11]; exact hP) (by rw [e9, e10, e11]; exact hD) hS dX3_putDrive_41 (by rw [dr_pdr_false (show i < P by omega) hx9 h37]; exact congrArg bI h37.symm)
  have e12 : ((w, pw, tn).2.1) = pw := by first | rfl | (simp []; done) | (simp []; omega)
  have e13 : ((w, pw, tn).2.2) = tn := by first | rfl | (simp []; done) | (simp []; omega)
  have e14 : ((w, pw, tn).1) = w := by first | rfl | (simp []; done) | (simp []; omega)
  exact lp2 (P - 0 + 1) 0 (w, pw, tn) ls H locs (by omega) (by omega) (by first | rfl | (rw [dr_pdr, hx9, if_pos rfl]; exact Prod.ext h37 rfl)) (lv_sub hl [0, 3, 2, 1] rfl) (by rw [e12, e13, e14]; exact hP) (by rw [e12, e13, e14]; exact hD) hS

abbrev rm_c_rbs : Room := { frames := 4, cells := 0, slots := 0, locals := 97 }
set_option maxHeartbeats 4000000 in
set_option maxRecDepth 100000 in
theorem c_rbs (l : Launch) (dC : Nat → ClassId) (dI : Nat → Nat → Nat) (cI cB cQ cJ : ClassId) (aR : Nat) (aS : Nat) (aA : Nat) (aL : Nat) (aE : Nat) (pw : Bool) (tn : Int32) (P : Nat) (lo : Nat → Bool) (aEW : Nat) (aEK : Nat) (tw : Nat → Int32) (kn : Nat → Bool) (un : Int32) (aT : Nat) (aW : Nat) (aM : Nat) (w : Nat → Int32) (ms : Nat → Bool) (mk : Bool) (hp5 : dr_P P) : MG l yX3_rebuildStripe (Cond.code yX3_rebuildStripe cX3_rebuildStripe 3 (some .boolean) :: TB) rm_c_rbs (dC, dI) vwCl (TY cI cB cQ cJ) [.ref aR, .ref aT] [(aR, .inr (3, [.ref aS, .ref aA, .ref aL, .ref aE, .int (bI pw), .int tn])), (aS, .inr (0, [.int (nI P), .int (nI (P - 2)), .int (nI (P - 1)), .int (nI (P * (P - 2)))])), (aL, .inl (cB, P, .inl (fun z9 => bI (lo z9)))), (aE, .inr (2, [.ref aS, .ref aEW, .ref aEK, .int un])), (aEW, .inl (cI, P * P, .inl tw)), (aEK, .inl (cB, P * P, .inl (fun z9 => bI (kn z9)))), (aT, .inr (1, [.ref aS, .ref aW, .ref aM, .int (bI mk)])), (aW, .inl (cI, P * P, .inl w)), (aM, .inl (cB, P, .inl (fun z9 => bI (ms z9))))] (fun (r : Int32) (u : Unit) => r = bI ((dr_rbl P lo ms (dr_tell P ms w kn tw).2.1 (w, pw, tn) P).1)) (fun (u : Unit) => [(aR, .inr (3, [.ref aS, .ref aA, .ref aL, .ref aE, .int (bI ((dr_rbl P lo ms (dr_tell P ms w kn tw).2.1 (w, pw, tn) P).2.2.1)), .int ((dr_rbl P lo ms (dr_tell P ms w kn tw).2.1 (w, pw, tn) P).2.2.2)])), (aS, .inr (0, [.int (nI P), .int (nI (P - 2)), .int (nI (P - 1)), .int (nI (P * (P - 2)))])), (aL, .inl (cB, P, .inl (fun z9 => bI (lo z9)))), (aE, .inr (2, [.ref aS, .ref aEW, .ref aEK, .int ((dr_tell P ms w kn tw).2.2)])), (aEW, .inl (cI, P * P, .inl ((dr_tell P ms w kn tw).2.1))), (aEK, .inl (cB, P * P, .inl (fun z9 => bI (((dr_tell P ms w kn tw).1) z9)))), (aT, .inr (1, [.ref aS, .ref aW, .ref aM, .int (bI mk)])), (aW, .inl (cI, P * P, .inl ((dr_rbl P lo ms (dr_tell P ms w kn tw).2.1 (w, pw, tn) P).2.1))), (aM, .inl (cB, P, .inl (fun z9 => bI ((if (dr_rbl P lo ms (dr_tell P ms w kn tw).2.1 (w, pw, tn) P).1 = true then dr_mf lo ms P else ms) z9))))]) := by
  refine MG.ofW (cc := cX3_rebuildStripe) (maxL := 3) (rt := .boolean) (by decide +kernel) rfl (Nat.le_of_ble_eq_true rfl) ?_
  intro p e s m args below meth c A ls Q H locs hQ hx hb hml hr hlk hts hown hK hP hD hS hA hl
  have hts : ∀ w ∈ TB, w.before args s = true := fun w h => hts w (List.mem_cons_of_mem _ h)
  have hown : s.vm.findClass RX3 = some m.cls := hown
  have hl : lv_has ls 3 [(0, .ref aR), (1, .ref aT)] := hl
  have hP : va_P (dC, dI) vwCl [(aR, .inr (3, [.ref aS, .ref aA, .ref aL, .ref aE, .int (bI pw), .int tn])), (aS, .inr (0, [.int (nI P), .int (nI (P - 2)), .int (nI (P - 1)), .int (nI (P * (P - 2)))])), (aL, .inl (cB, P, .inl (fun z9 => bI (lo z9)))), (aE, .inr (2, [.ref aS, .ref aEW, .ref aEK, .int un])), (aEW, .inl (cI, P * P, .inl tw)), (aEK, .inl (cB, P * P, .inl (fun z9 => bI (kn z9)))), (aT, .inr (1, [.ref aS, .ref aW, .ref aM, .int (bI mk)])), (aW, .inl (cI, P * P, .inl w)), (aM, .inl (cB, P, .inl (fun z9 => bI (ms z9))))] H := hP
  have hD : va_D A [(aR, .inr (3, [.ref aS, .ref aA, .ref aL, .ref aE, .int (bI pw), .int tn])), (aS, .inr (0, [.int (nI P), .int (nI (P - 2)), .int (nI (P - 1)), .int (nI (P * (P - 2)))])), (aL, .inl (cB, P, .inl (fun z9 => bI (lo z9)))), (aE, .inr (2, [.ref aS, .ref aEW, .ref aEK, .int un])), (aEW, .inl (cI, P * P, .inl tw)), (aEK, .inl (cB, P * P, .inl (fun z9 => bI (kn z9)))), (aT, .inr (1, [.ref aS, .ref aW, .ref aM, .int (bI mk)])), (aW, .inl (cI, P * P, .inl w)), (aM, .inl (cB, P, .inl (fun z9 => bI (ms z9))))] := hD
  have hp := hp5.le
  have hpp := dr_PP hp5
  have hpq := dr_PP2 hp5
  refine lv_aload_n hx hb dX3_rebuildStripe_0 rfl (lv_at hl 0 rfl) ?_
  refine va_get (D := (dC, dI)) (ci := 3) (v := .ref aE) (C := RX3) (T := TX3) (N := 6) hx hb hts inX3 hown hK hP 0 rfl rfl 3 (by decide) (hts _ t_fX3_51) (fun _ h9 => h9) rfl dX3_rebuildStripe_1 ?_
  refine lv_aload_n hx hb dX3_rebuildStripe_4 rfl (lv_at hl 1 rfl) ?_
  refine gVv (wr := [(aR, .inr (3, [.ref aS, .ref aA, .ref aL, .ref aE, .int (bI pw), .int tn])), (aL, .inl (cB, P, .inl (fun z9 => bI (lo z9))))]) (pre := [(aR, .inr (3, [.ref aS, .ref aA, .ref aL, .ref aE, .int (bI pw), .int tn])), (aS, .inr (0, [.int (nI P), .int (nI (P - 2)), .int (nI (P - 1)), .int (nI (P * (P - 2)))])), (aL, .inl (cB, P, .inl (fun z9 => bI (lo z9)))), (aE, .inr (2, [.ref aS, .ref aEW, .ref aEK, .int un])), (aEW, .inl (cI, P * P, .inl tw)), (aEK, .inl (cB, P * P, .inl (fun z9 => bI (kn z9)))), (aT, .inr (1, [.ref aS, .ref aW, .ref aM, .int (bI mk)])), (aW, .inl (cI, P * P, .inl w)), (aM, .inl (cB, P, .inl (fun z9 => bI (ms z9))))]) (tl := []) (G := fun (u : Unit) => [(aR, .inr (3, [.ref aS, .ref aA, .ref aL, .ref aE, .int (bI pw), .int tn])), (aS, .inr (0, [.int (nI P), .int (nI (P - 2)), .int (nI (P - 1)), .int (nI (P * (P - 2)))])), (aL, .inl (cB, P, .inl (fun z9 => bI (lo z9)))), (aE, .inr (2, [.ref aS, .ref aEW, .ref aEK, .int ((dr_tell P ms w kn tw).2.2)])), (aEW, .inl (cI, P * P, .inl ((dr_tell P ms w kn tw).2.1))), (aEK, .inl (cB, P * P, .inl (fun z9 => bI (((dr_tell P ms w kn tw).1) z9)))), (aT, .inr (1, [.ref aS, .ref aW, .ref aM, .int (bI mk)])), (aW, .inl (cI, P * P, .inl w)), (aM, .inl (cB, P, .inl (fun z9 => bI (ms z9))))]) (b := aE) (As := [.ref aT]) (rst := []) ⟨hx, hb, hml, hown, hts⟩ (c_tell l dC dI cI cB cQ cJ aE aS aEW aEK P tw kn un aT aW aM w ms mk hp5) (cwV 1 hts (gdV t_mX3_169 t_inst_X2_tell t_sel_X2_tell t_ini_X2 t_code_X2_tell) rfl rfl rfl (by decide +kernel) ⟨Nat.le_of_ble_eq_true rfl, Nat.le_of_ble_eq_true rfl⟩) hK hP hD hS hA [3, 4, 5, 1, 6, 7, 8] [0, 2] [7, 3, 8, 0, 1, 2, 4, 5, 6] rfl (by decide) (fun _ => rfl) (by decide) (ci := 2) rfl rfl rfl rfl hl.1 rfl (Nat.le_of_ble_eq_true rfl) dX3_rebuildStripe_5 ⟨Nat.zero_le _, Nat.zero_le _⟩ (fun u H locs hu1 hP hD hS => ?_)
  have hP : va_P (dC, dI) vwCl [(aR, .inr (3, [.ref aS, .ref aA, .ref aL, .ref aE, .int (bI pw), .int tn])), (aS, .inr (0, [.int (nI P), .int (nI (P - 2)), .int (nI (P - 1)), .int (nI (P * (P - 2)))])), (aL, .inl (cB, P, .inl (fun z9 => bI (lo z9)))), (aE, .inr (2, [.ref aS, .ref aEW, .ref aEK, .int ((dr_tell P ms w kn tw).2.2)])), (aEW, .inl (cI, P * P, .inl ((dr_tell P ms w kn tw).2.1))), (aEK, .inl (cB, P * P, .inl (fun z9 => bI (((dr_tell P ms w kn tw).1) z9)))), (aT, .inr (1, [.ref aS, .ref aW, .ref aM, .int (bI mk)])), (aW, .inl (cI, P * P, .inl w)), (aM, .inl (cB, P, .inl (fun z9 => bI (ms z9))))] H := hP
  have hD : va_D A [(aR, .inr (3, [.ref aS, .ref aA, .ref aL, .ref aE, .int (bI pw), .int tn])), (aS, .inr (0, [.int (nI P), .int (nI (P - 2)), .int (nI (P - 1)), .int (nI (P * (P - 2)))])), (aL, .inl (cB, P, .inl (fun z9 => bI (lo z9)))), (aE, .inr (2, [.ref aS, .ref aEW, .ref aEK, .int ((dr_tell P ms w kn tw).2.2)])), (aEW, .inl (cI, P * P, .inl ((dr_tell P ms w kn tw).2.1))), (aEK, .inl (cB, P * P, .inl (fun z9 => bI (((dr_tell P ms w kn tw).1) z9)))), (aT, .inr (1, [.ref aS, .ref aW, .ref aM, .int (bI mk)])), (aW, .inl (cI, P * P, .inl w)), (aM, .inl (cB, P, .inl (fun z9 => bI (ms z9))))] := hD
  refine lv_iconst (v := nI 0) hx hb dX3_rebuildStripe_8 (by decide) ?_
  refine lv_istore_n hx hb dX3_rebuildStripe_9 rfl hl (by decide) rfl (fun ls hl => ?_)
  have hl : lv_has ls 3 [(2, .int (nI 0)), (0, .ref aR), (1, .ref aT)] := hl
  have lp10 : ∀ (n9 : Nat) (i : Nat) (x : dr_X) (ls : Array Slot) (H : Heap) (locs : List Loc), P - i < n9 → (i ≤ P) → (dr_rbl P lo ms (dr_tell P ms w kn tw).2.1 (w, pw, tn) i = (true, x)) → lv_has ls 3 [(2, .int (nI i)), (1, .ref aT), (0, .ref aR)] → va_P (dC, dI) vwCl [(aR, .inr (3, [.ref aS, .ref aA, .ref aL, .ref aE, .int (bI x.2.1), .int x.2.2])), (aS, .inr (0, [.int (nI P), .int (nI (P - 2)), .int (nI (P - 1)), .int (nI (P * (P - 2)))])), (aL, .inl (cB, P, .inl (fun z9 => bI (lo z9)))), (aE, .inr (2, [.ref aS, .ref aEW, .ref aEK, .int ((dr_tell P ms w kn tw).2.2)])), (aEW, .inl (cI, P * P, .inl ((dr_tell P ms w kn tw).2.1))), (aEK, .inl (cB, P * P, .inl (fun z9 => bI (((dr_tell P ms w kn tw).1) z9)))), (aT, .inr (1, [.ref aS, .ref aW, .ref aM, .int (bI mk)])), (aW, .inl (cI, P * P, .inl x.1)), (aM, .inl (cB, P, .inl (fun z9 => bI (ms z9))))] H → va_D A [(aR, .inr (3, [.ref aS, .ref aA, .ref aL, .ref aE, .int (bI x.2.1), .int x.2.2])), (aS, .inr (0, [.int (nI P), .int (nI (P - 2)), .int (nI (P - 1)), .int (nI (P * (P - 2)))])), (aL, .inl (cB, P, .inl (fun z9 => bI (lo z9)))), (aE, .inr (2, [.ref aS, .ref aEW, .ref aEK, .int ((dr_tell P ms w kn tw).2.2)])), (aEW, .inl (cI, P * P, .inl ((dr_tell P ms w kn tw).2.1))), (aEK, .inl (cB, P * P, .inl (fun z9 => bI (((dr_tell P ms w kn tw).1) z9)))), (aT, .inr (1, [.ref aS, .ref aW, .ref aM, .int (bI mk)])), (aW, .inl (cI, P * P, .inl x.1)), (aM, .inl (cB, P, .inl (fun z9 => bI (ms z9))))] → va_S A s.heap H locs → W p l e rm_c_rbs s m args below meth c H locs 0 0 Q (F0 m 10 ls []) := by
    intro n9
    induction n9 with
    | zero => intro i x ls H locs hn9; omega
    | succ n9 ih10 =>
      intro i x ls H locs hn9 hi hx9 hl hP hD hS
      refine lv_iload_n hx hb dX3_rebuildStripe_10 rfl (lv_at hl 0 rfl) ?_
      refine lv_aload_n hx hb dX3_rebuildStripe_11 rfl (lv_at hl 2 rfl) ?_
      refine va_get (D := (dC, dI)) (ci := 3) (v := .ref aS) (C := RX3) (T := TX3) (N := 6) hx hb hts inX3 hown hK hP 0 rfl rfl 0 (by decide) (hts _ t_fX3_32) (fun _ h9 => h9) rfl dX3_rebuildStripe_12 ?_
      refine va_get (D := (dC, dI)) (ci := 0) (v := .int (nI P)) (C := RX0) (T := TX0) (N := 4) hx hb hts inX0 hown hK hP 1 rfl rfl 0 (by decide) (hts _ t_fX3_40) (fun _ h9 => h9) rfl dX3_rebuildStripe_15 ?_
      refine x_cge (tgt := 47) hx hb dX3_rebuildStripe_18 (by decide) (by omega) (by omega) (fun h18 => ?_) (fun h18 => ?_)
      · -- 18t
        have hie9 : i = P := by omega
        rw [hie9] at hx9
        refine lv_iconst (v := nI 0) hx hb dX3_rebuildStripe_47 (by decide) ?_
        refine lv_istore_n hx hb dX3_rebuildStripe_48 rfl hl (by decide) rfl (fun ls hl => ?_)
        have hl : lv_has ls 3 [(2, .int (nI 0)), (1, .ref aT), (0, .ref aR)] := hl
        have lp49 : ∀ (n9 : Nat) (j : Nat) (ls : Array Slot) (H : Heap) (locs : List Loc), P - j < n9 → (j ≤ P) → lv_has ls 3 [(2, .int (nI j)), (1, .ref aT), (0, .ref aR)] → va_P (dC, dI) vwCl [(aR, .inr (3, [.ref aS, .ref aA, .ref aL, .ref aE, .int (bI x.2.1), .int x.2.2])), (aS, .inr (0, [.int (nI P), .int (nI (P - 2)), .int (nI (P - 1)), .int (nI (P * (P - 2)))])), (aL, .inl (cB, P, .inl (fun z9 => bI (lo z9)))), (aE, .inr (2, [.ref aS, .ref aEW, .ref aEK, .int ((dr_tell P ms w kn tw).2.2)])), (aEW, .inl (cI, P * P, .inl ((dr_tell P ms w kn tw).2.1))), (aEK, .inl (cB, P * P, .inl (fun z9 => bI (((dr_tell P ms w kn tw).1) z9)))), (aT, .inr (1, [.ref aS, .ref aW, .ref aM, .int (bI mk)])), (aW, .inl (cI, P * P, .inl x.1)), (aM, .inl (cB, P, .inl (fun z9 => bI ((dr_mf lo ms j) z9))))] H → va_D A [(aR, .inr (3, [.ref aS, .ref aA, .ref aL, .ref aE, .int (bI x.2.1), .int x.2.2])), (aS, .inr (0, [.int (nI P), .int (nI (P - 2)), .int (nI (P - 1)), .int (nI (P * (P - 2)))])), (aL, .inl (cB, P, .inl (fun z9 => bI (lo z9)))), (aE, .inr (2, [.ref aS, .ref aEW, .ref aEK, .int ((dr_tell P ms w kn tw).2.2)])), (aEW, .inl (cI, P * P, .inl ((dr_tell P ms w kn tw).2.1))), (aEK, .inl (cB, P * P, .inl (fun z9 => bI (((dr_tell P ms w kn tw).1) z9)))), (aT, .inr (1, [.ref aS, .ref aW, .ref aM, .int (bI mk)])), (aW, .inl (cI, P * P, .inl x.1)), (aM, .inl (cB, P, .inl (fun z9 => bI ((dr_mf lo ms j) z9))))] → va_S A s.heap H locs → W p l e rm_c_rbs s m args below meth c H locs 0 0 Q (F0 m 49 ls []) := by
          intro n9
          induction n9 with
          | zero => intro j ls H locs hn9; omega
          | succ n9 ih49 =>
            intro j ls H locs hn9 hj hl hP hD hS
            refine lv_iload_n hx hb dX3_rebuildStripe_49 rfl (lv_at hl 0 rfl) ?_
            refine lv_aload_n hx hb dX3_rebuildStripe_50 rfl (lv_at hl 2 rfl) ?_
            refine va_get (D := (dC, dI)) (ci := 3) (v := .ref aS) (C := RX3) (T := TX3) (N := 6) hx hb hts inX3 hown hK hP 0 rfl rfl 0 (by decide) (hts _ t_fX3_32) (fun _ h9 => h9) rfl dX3_rebuildStripe_51 ?_
            refine va_get (D := (dC, dI)) (ci := 0) (v := .int (nI P)) (C := RX0) (T := TX0) (N := 4) hx hb hts inX0 hown hK hP 1 rfl rfl 0 (by decide) (hts _ t_fX3_40) (fun _ h9 => h9) rfl dX3_rebuildStripe_54 ?_
            refine x_cge (tgt := 82) hx hb dX3_rebuildStripe_57 (by decide) (by omega) (by omega) (fun h57 => ?_) (fun h57 => ?_)
            · -- 57t
              have hie57 : j = P := by omega
              try rw [hie57] at hl
              try rw [hie57] at hP
              try rw [hie57] at hD
              have hl : lv_has ls 3 [(2, .int (nI P)), (1, .ref aT), (0, .ref aR)] := hl
              have hP : va_P (dC, dI) vwCl [(aR, .inr (3, [.ref aS, .ref aA, .ref aL, .ref aE, .int (bI x.2.1), .int x.2.2])), (aS, .inr (0, [.int (nI P), .int (nI (P - 2)), .int (nI (P - 1)), .int (nI (P * (P - 2)))])), (aL, .inl (cB, P, .inl (fun z9 => bI (lo z9)))), (aE, .inr (2, [.ref aS, .ref aEW, .ref aEK, .int ((dr_tell P ms w kn tw).2.2)])), (aEW, .inl (cI, P * P, .inl ((dr_tell P ms w kn tw).2.1))), (aEK, .inl (cB, P * P, .inl (fun z9 => bI (((dr_tell P ms w kn tw).1) z9)))), (aT, .inr (1, [.ref aS, .ref aW, .ref aM, .int (bI mk)])), (aW, .inl (cI, P * P, .inl x.1)), (aM, .inl (cB, P, .inl (fun z9 => bI ((dr_mf lo ms P) z9))))] H := hP
              have hD : va_D A [(aR, .inr (3, [.ref aS, .ref aA, .ref aL, .ref aE, .int (bI x.2.1), .int x.2.2])), (aS, .inr (0, [.int (nI P), .int (nI (P - 2)), .int (nI (P - 1)), .int (nI (P * (P - 2)))])), (aL, .inl (cB, P, .inl (fun z9 => bI (lo z9)))), (aE, .inr (2, [.ref aS, .ref aEW, .ref aEK, .int ((dr_tell P ms w kn tw).2.2)])), (aEW, .inl (cI, P * P, .inl ((dr_tell P ms w kn tw).2.1))), (aEK, .inl (cB, P * P, .inl (fun z9 => bI (((dr_tell P ms w kn tw).1) z9)))), (aT, .inr (1, [.ref aS, .ref aW, .ref aM, .int (bI mk)])), (aW, .inl (cI, P * P, .inl x.1)), (aM, .inl (cB, P, .inl (fun z9 => bI ((dr_mf lo ms P) z9))))] := hD
              refine lv_iconst (v := bI true) hx hb dX3_rebuildStripe_82 (by decide) ?_
              have e2 : ((dr_rbl P lo ms (dr_tell P ms w kn tw).2.1 (w, pw, tn) P).2.2.1) = x.2.1 := by first | (rw [hx9]; done) | (rw [hx9]; rfl)
              have e3 : ((dr_rbl P lo ms (dr_tell P ms w kn tw).2.1 (w, pw, tn) P).2.2.2) = x.2.2 := by first | (rw [hx9]; done) | (rw [hx9]; rfl)
              have e4 : ((dr_rbl P lo ms (dr_tell P ms w kn tw).2.1 (w, pw, tn) P).2.1) = x.1 := by first | (rw [hx9]; done) | (rw [hx9]; rfl)
              have e5 : (if (dr_rbl P lo ms (dr_tell P ms w kn tw).2.1 (w, pw, tn) P).1 = true then dr_mf lo ms P else ms) = (dr_mf lo ms P) := by first | (rw [hx9]; done) | (rw [hx9]; rfl)
              exact x_zret (D := (dC, dI)) (cl := vwCl) (A := A) () hQ hx hb hr hlk (by rw [e2, e3, e4, e5]; exact hP) (by rw [e2, e3, e4, e5]; exact hD) hS dX3_rebuildStripe_83 (by rw [hx9])
            · -- 57f
              refine lv_aload_n hx hb dX3_rebuildStripe_60 rfl (lv_at hl 2 rfl) ?_
              refine lv_aload_n hx hb dX3_rebuildStripe_61 rfl (lv_at hl 1 rfl) ?_
              refine lv_iload_n hx hb dX3_rebuildStripe_62 rfl (lv_at hl 0 rfl) ?_
              refine gV (wr := [(aS, .inr (0, [.int (nI P), .int (nI (P - 2)), .int (nI (P - 1)), .int (nI (P * (P - 2)))])), (aE, .inr (2, [.ref aS, .ref aEW, .ref aEK, .int ((dr_tell P ms w kn tw).2.2)])), (aEW, .inl (cI, P * P, .inl ((dr_tell P ms w kn tw).2.1))), (aEK, .inl (cB, P * P, .inl (fun z9 => bI (((dr_tell P ms w kn tw).1) z9)))), (aW, .inl (cI, P * P, .inl x.1))]) (pre := [(aR, .inr (3, [.ref aS, .ref aA, .ref aL, .ref aE, .int (bI x.2.1), .int x.2.2])), (aS, .inr (0, [.int (nI P), .int (nI (P - 2)), .int (nI (P - 1)), .int (nI (P * (P - 2)))])), (aL, .inl (cB, P, .inl (fun z9 => bI (lo z9)))), (aE, .inr (2, [.ref aS, .ref aEW, .ref aEK, .int ((dr_tell P ms w kn tw).2.2)])), (aEW, .inl (cI, P * P, .inl ((dr_tell P ms w kn tw).2.1))), (aEK, .inl (cB, P * P, .inl (fun z9 => bI (((dr_tell P ms w kn tw).1) z9)))), (aT, .inr (1, [.ref aS, .ref aW, .ref aM, .int (bI mk)])), (aW, .inl (cI, P * P, .inl x.1)), (aM, .inl (cB, P, .inl (fun z9 => bI ((dr_mf lo ms j) z9))))]) (tl := []) (G := fun (u : Unit) => [(aR, .inr (3, [.ref aS, .ref aA, .ref aL, .ref aE, .int (bI x.2.1), .int x.2.2])), (aS, .inr (0, [.int (nI P), .int (nI (P - 2)), .int (nI (P - 1)), .int (nI (P * (P - 2)))])), (aL, .inl (cB, P, .inl (fun z9 => bI (lo z9)))), (aE, .inr (2, [.ref aS, .ref aEW, .ref aEK, .int ((dr_tell P ms w kn tw).2.2)])), (aEW, .inl (cI, P * P, .inl ((dr_tell P ms w kn tw).2.1))), (aEK, .inl (cB, P * P, .inl (fun z9 => bI (((dr_tell P ms w kn tw).1) z9)))), (aT, .inr (1, [.ref aS, .ref aW, .ref aM, .int (bI mk)])), (aW, .inl (cI, P * P, .inl x.1)), (aM, .inl (cB, P, .inl (fun z9 => bI ((dr_mf lo ms j) z9))))]) (b := aR) (As := [.ref aT, .int (nI j)]) (rst := []) ⟨hx, hb, hml, hown, hts⟩ (c_isNewIn l dC dI cI cB cQ cJ aR aS aA aL aE x.2.1 x.2.2 P lo aT aW aM (dr_mf lo ms j) mk j hp5 (by omega)) (cwV 2 hts (gdV t_mX3_165 t_inst_X3_isNewIn t_sel_X3_isNewIn t_ini_X3 t_code_X3_isNewIn) rfl rfl rfl (by decide +kernel) ⟨Nat.le_of_ble_eq_true rfl, Nat.le_of_ble_eq_true rfl⟩) hK hP hD hS hA [0, 2, 6, 8] [1, 3, 4, 5, 7] [0, 4, 1, 5, 6, 7, 2, 8, 3] rfl (by decide) (fun _ => rfl) (by decide) (ci := 3) rfl rfl rfl rfl hl.1 rfl (Nat.le_of_ble_eq_true rfl) dX3_rebuildStripe_63 ⟨Nat.zero_le _, Nat.zero_le _⟩ (fun r u H locs hu6 hP hD hS => ?_)
              have hr63 := hu6
              have hr63 : r = bI ((dr_mf lo ms j) j && !lo j) := hr63
              subst hr63
              have hP : va_P (dC, dI) vwCl [(aR, .inr (3, [.ref aS, .ref aA, .ref aL, .ref aE, .int (bI x.2.1), .int x.2.2])), (aS, .inr (0, [.int (nI P), .int (nI (P - 2)), .int (nI (P - 1)), .int (nI (P * (P - 2)))])), (aL, .inl (cB, P, .inl (fun z9 => bI (lo z9)))), (aE, .inr (2, [.ref aS, .ref aEW, .ref aEK, .int ((dr_tell P ms w kn tw).2.2)])), (aEW, .inl (cI, P * P, .inl ((dr_tell P ms w kn tw).2.1))), (aEK, .inl (cB, P * P, .inl (fun z9 => bI (((dr_tell P ms w kn tw).1) z9)))), (aT, .inr (1, [.ref aS, .ref aW, .ref aM, .int (bI mk)])), (aW, .inl (cI, P * P, .inl x.1)), (aM, .inl (cB, P, .inl (fun z9 => bI ((dr_mf lo ms j) z9))))] H := hP
              have hD : va_D A [(aR, .inr (3, [.ref aS, .ref aA, .ref aL, .ref aE, .int (bI x.2.1), .int x.2.2])), (aS, .inr (0, [.int (nI P), .int (nI (P - 2)), .int (nI (P - 1)), .int (nI (P * (P - 2)))])), (aL, .inl (cB, P, .inl (fun z9 => bI (lo z9)))), (aE, .inr (2, [.ref aS, .ref aEW, .ref aEK, .int ((dr_tell P ms w kn tw).2.2)])), (aEW, .inl (cI, P * P, .inl ((dr_tell P ms w kn tw).2.1))), (aEK, .inl (cB, P * P, .inl (fun z9 => bI (((dr_tell P ms w kn tw).1) z9)))), (aT, .inr (1, [.ref aS, .ref aW, .ref aM, .int (bI mk)])), (aW, .inl (cI, P * P, .inl x.1)), (aM, .inl (cB, P, .inl (fun z9 => bI ((dr_mf lo ms j) z9))))] := hD
              refine x_ifF (tgt := 76) hx hb dX3_rebuildStripe_66 (by decide) (fun h66 => ?_) (fun h66 => ?_)
              · -- 66t
                refine lv_iinc (v := nI (j + 1)) hx hb dX3_rebuildStripe_76 hl (k := 0) rfl (x_inc _) (by decide) rfl (fun ls hl => ?_)
                have hl : lv_has ls 3 [(2, .int (nI (j + 1))), (1, .ref aT), (0, .ref aR)] := hl
                refine lv_goto (tgt := 49) hx hb dX3_rebuildStripe_79 (by decide) ?_
                have e7 : (dr_mf lo ms (j + 1)) = (dr_mf lo ms j) := by first | rfl | (simp [dr_mf, h57, h66]; done) | (simp [dr_mf, h57, h66]; omega)
                exact ih49 (j + 1) ls H locs (by omega) (by omega) (lv_sub hl [0, 1, 2] rfl) (by rw [e7]; exact hP) (by rw [e7]; exact hD) hS
              · -- 66f
                refine lv_aload_n hx hb dX3_rebuildStripe_69 rfl (lv_at hl 1 rfl) ?_
                refine va_get (D := (dC, dI)) (ci := 1) (v := .ref aM) (C := RX1) (T := TX1) (N := 4) hx hb hts inX1 hown hK hP 6 rfl rfl 2 (by decide) (hts _ t_fX3_122) (fun _ h9 => h9) rfl dX3_rebuildStripe_70 ?_
                refine lv_iload_n hx hb dX3_rebuildStripe_73 rfl (lv_at hl 0 rfl) ?_
                refine lv_iconst (v := bI false) hx hb dX3_rebuildStripe_74 (by decide) ?_
                refine x_zast (g := dr_mf lo ms j) hx hb hK hP hD hS 8 1 rfl rfl dX3_rebuildStripe_75 (by omega) (by omega) (fun H locs hP hD hS => ?_)
                have hP : va_P (dC, dI) vwCl [(aR, .inr (3, [.ref aS, .ref aA, .ref aL, .ref aE, .int (bI x.2.1), .int x.2.2])), (aS, .inr (0, [.int (nI P), .int (nI (P - 2)), .int (nI (P - 1)), .int (nI (P * (P - 2)))])), (aL, .inl (cB, P, .inl (fun z9 => bI (lo z9)))), (aE, .inr (2, [.ref aS, .ref aEW, .ref aEK, .int ((dr_tell P ms w kn tw).2.2)])), (aEW, .inl (cI, P * P, .inl ((dr_tell P ms w kn tw).2.1))), (aEK, .inl (cB, P * P, .inl (fun z9 => bI (((dr_tell P ms w kn tw).1) z9)))), (aT, .inr (1, [.ref aS, .ref aW, .ref aM, .int (bI mk)])), (aW, .inl (cI, P * P, .inl x.1)), (aM, .inl (cB, P, .inl (fun z9 => bI ((va_up (dr_mf lo ms j) j false) z9))))] H := hP
                have hD : va_D A [(aR, .inr (3, [.ref aS, .ref aA, .ref aL, .ref aE, .int (bI x.2.1), .int x.2.2])), (aS, .inr (0, [.int (nI P), .int (nI (P - 2)), .int (nI (P - 1)), .int (nI (P * (P - 2)))])), (aL, .inl (cB, P, .inl (fun z9 => bI (lo z9)))), (aE, .inr (2, [.ref aS, .ref aEW, .ref aEK, .int ((dr_tell P ms w kn tw).2.2)])), (aEW, .inl (cI, P * P, .inl ((dr_tell P ms w kn tw).2.1))), (aEK, .inl (cB, P * P, .inl (fun z9 => bI (((dr_tell P ms w kn tw).1) z9)))), (aT, .inr (1, [.ref aS, .ref aW, .ref aM, .int (bI mk)])), (aW, .inl (cI, P * P, .inl x.1)), (aM, .inl (cB, P, .inl (fun z9 => bI ((va_up (dr_mf lo ms j) j false) z9))))] := hD
                refine lv_iinc (v := nI (j + 1)) hx hb dX3_rebuildStripe_76 hl (k := 0) rfl (x_inc _) (by decide) rfl (fun ls hl => ?_)
                have hl : lv_has ls 3 [(2, .int (nI (j + 1))), (1, .ref aT), (0, .ref aR)] := hl
                refine lv_goto (tgt := 49) hx hb dX3_rebuildStripe_79 (by decide) ?_
                have e8 : (dr_mf lo ms (j + 1)) = (va_up (dr_mf lo ms j) j false) := by first | rfl | (simp [dr_mf, h57, h66]; done) | (simp [dr_mf, h57, h66]; omega)
                exact ih49 (j + 1) ls H locs (by omega) (by omega) (lv_sub hl [0, 1, 2] rfl) (by rw [e8]; exact hP) (by rw [e8]; exact hD) hS
        have e9 : (dr_mf lo ms 0) = ms := by first | rfl | (simp [dr_mf, h18]; done) | (simp [dr_mf, h18]; omega)
        exact lp49 (P - 0 + 1) 0 ls H locs (by omega) (by omega) (lv_sub hl [0, 1, 2] rfl) (by rw [e9]; exact hP) (by rw [e9]; exact hD) hS
      · -- 18f
        refine lv_aload_n hx hb dX3_rebuildStripe_21 rfl (lv_at hl 2 rfl) ?_
        refine lv_aload_n hx hb dX3_rebuildStripe_22 rfl (lv_at hl 1 rfl) ?_
        refine lv_iload_n hx hb dX3_rebuildStripe_23 rfl (lv_at hl 0 rfl) ?_
        refine gV (wr := [(aS, .inr (0, [.int (nI P), .int (nI (P - 2)), .int (nI (P - 1)), .int (nI (P * (P - 2)))])), (aE, .inr (2, [.ref aS, .ref aEW, .ref aEK, .int ((dr_tell P ms w kn tw).2.2)])), (aEW, .inl (cI, P * P, .inl ((dr_tell P ms w kn tw).2.1))), (aEK, .inl (cB, P * P, .inl (fun z9 => bI (((dr_tell P ms w kn tw).1) z9)))), (aW, .inl (cI, P * P, .inl x.1))]) (pre := [(aR, .inr (3, [.ref aS, .ref aA, .ref aL, .ref aE, .int (bI x.2.1), .int x.2.2])), (aS, .inr (0, [.int (nI P), .int (nI (P - 2)), .int (nI (P - 1)), .int (nI (P * (P - 2)))])), (aL, .inl (cB, P, .inl (fun z9 => bI (lo z9)))), (aE, .inr (2, [.ref aS, .ref aEW, .ref aEK, .int ((dr_tell P ms w kn tw).2.2)])), (aEW, .inl (cI, P * P, .inl ((dr_tell P ms w kn tw).2.1))), (aEK, .inl (cB, P * P, .inl (fun z9 => bI (((dr_tell P ms w kn tw).1) z9)))), (aT, .inr (1, [.ref aS, .ref aW, .ref aM, .int (bI mk)])), (aW, .inl (cI, P * P, .inl x.1)), (aM, .inl (cB, P, .inl (fun z9 => bI (ms z9))))]) (tl := []) (G := fun (u : Unit) => [(aR, .inr (3, [.ref aS, .ref aA, .ref aL, .ref aE, .int (bI x.2.1), .int x.2.2])), (aS, .inr (0, [.int (nI P), .int (nI (P - 2)), .int (nI (P - 1)), .int (nI (P * (P - 2)))])), (aL, .inl (cB, P, .inl (fun z9 => bI (lo z9)))), (aE, .inr (2, [.ref aS, .ref aEW, .ref aEK, .int ((dr_tell P ms w kn tw).2.2)])), (aEW, .inl (cI, P * P, .inl ((dr_tell P ms w kn tw).2.1))), (aEK, .inl (cB, P * P, .inl (fun z9 => bI (((dr_tell P ms w kn tw).1) z9)))), (aT, .inr (1, [.ref aS, .ref aW, .ref aM, .int (bI mk)])), (aW, .inl (cI, P * P, .inl x.1)), (aM, .inl (cB, P, .inl (fun z9 => bI (ms z9))))]) (b := aR) (As := [.ref aT, .int (nI i)]) (rst := []) ⟨hx, hb, hml, hown, hts⟩ (c_isNewIn l dC dI cI cB cQ cJ aR aS aA aL aE x.2.1 x.2.2 P lo aT aW aM ms mk i hp5 (by omega)) (cwV 2 hts (gdV t_mX3_165 t_inst_X3_isNewIn t_sel_X3_isNewIn t_ini_X3 t_code_X3_isNewIn) rfl rfl rfl (by decide +kernel) ⟨Nat.le_of_ble_eq_true rfl, Nat.le_of_ble_eq_true rfl⟩) hK hP hD hS hA [0, 2, 6, 8] [1, 3, 4, 5, 7] [0, 4, 1, 5, 6, 7, 2, 8, 3] rfl (by decide) (fun _ => rfl) (by decide) (ci := 3) rfl rfl rfl rfl hl.1 rfl (Nat.le_of_ble_eq_true rfl) dX3_rebuildStripe_24 ⟨Nat.zero_le _, Nat.zero_le _⟩ (fun r u H locs hu10 hP hD hS => ?_)
        have hr24 := hu10
        have hr24 : r = bI (ms i && !lo i) := hr24
        subst hr24
        have hP : va_P (dC, dI) vwCl [(aR, .inr (3, [.ref aS, .ref aA, .ref aL, .ref aE, .int (bI x.2.1), .int x.2.2])), (aS, .inr (0, [.int (nI P), .int (nI (P - 2)), .int (nI (P - 1)), .int (nI (P * (P - 2)))])), (aL, .inl (cB, P, .inl (fun z9 => bI (lo z9)))), (aE, .inr (2, [.ref aS, .ref aEW, .ref aEK, .int ((dr_tell P ms w kn tw).2.2)])), (aEW, .inl (cI, P * P, .inl ((dr_tell P ms w kn tw).2.1))), (aEK, .inl (cB, P * P, .inl (fun z9 => bI (((dr_tell P ms w kn tw).1) z9)))), (aT, .inr (1, [.ref aS, .ref aW, .ref aM, .int (bI mk)])), (aW, .inl (cI, P * P, .inl x.1)), (aM, .inl (cB, P, .inl (fun z9 => bI (ms z9))))] H := hP
        have hD : va_D A [(aR, .inr (3, [.ref aS, .ref aA, .ref aL, .ref aE, .int (bI x.2.1), .int x.2.2])), (aS, .inr (0, [.int (nI P), .int (nI (P - 2)), .int (nI (P - 1)), .int (nI (P * (P - 2)))])), (aL, .inl (cB, P, .inl (fun z9 => bI (lo z9)))), (aE, .inr (2, [.ref aS, .ref aEW, .ref aEK, .int ((dr_tell P ms w kn tw).2.2)])), (aEW, .inl (cI, P * P, .inl ((dr_tell P ms w kn tw).2.1))), (aEK, .inl (cB, P * P, .inl (fun z9 => bI (((dr_tell P ms w kn tw).1) z9)))), (aT, .inr (1, [.ref aS, .ref aW, .ref aM, .int (bI mk)])), (aW, .inl (cI, P * P, .inl x.1)), (aM, .inl (cB, P, .inl (fun z9 => bI (ms z9))))] := hD
        refine x_ifF (tgt := 41) hx hb dX3_rebuildStripe_27 (by decide) (fun h27 => ?_) (fun h27 => ?_)
        · -- 27t
          refine lv_iinc (v := nI (i + 1)) hx hb dX3_rebuildStripe_41 hl (k := 0) rfl (x_inc _) (by decide) rfl (fun ls hl => ?_)
          have hl : lv_has ls 3 [(2, .int (nI (i + 1))), (1, .ref aT), (0, .ref aR)] := hl
          refine lv_goto (tgt := 10) hx hb dX3_rebuildStripe_44 (by decide) ?_
          exact ih10 (i + 1) x ls H locs (by omega) (by omega) (by first | rfl | (rw [dr_rbl, hx9, if_pos rfl, if_neg (by rw [h27]; decide)]) | (rw [dr_rbl, hx9, if_pos rfl, if_pos h27]; exact Prod.ext h36 rfl)) (lv_sub hl [0, 1, 2] rfl) hP hD hS
        · -- 27f
          refine lv_aload_n hx hb dX3_rebuildStripe_30 rfl (lv_at hl 2 rfl) ?_
          refine lv_aload_n hx hb dX3_rebuildStripe_31 rfl (lv_at hl 1 rfl) ?_
          refine lv_iload_n hx hb dX3_rebuildStripe_32 rfl (lv_at hl 0 rfl) ?_
          refine gV (wr := [(aL, .inl (cB, P, .inl (fun z9 => bI (lo z9)))), (aEK, .inl (cB, P * P, .inl (fun z9 => bI (((dr_tell P ms w kn tw).1) z9)))), (aM, .inl (cB, P, .inl (fun z9 => bI (ms z9))))]) (pre := [(aR, .inr (3, [.ref aS, .ref aA, .ref aL, .ref aE, .int (bI x.2.1), .int x.2.2])), (aS, .inr (0, [.int (nI P), .int (nI (P - 2)), .int (nI (P - 1)), .int (nI (P * (P - 2)))])), (aL, .inl (cB, P, .inl (fun z9 => bI (lo z9)))), (aE, .inr (2, [.ref aS, .ref aEW, .ref aEK, .int ((dr_tell P ms w kn tw).2.2)])), (aEW, .inl (cI, P * P, .inl ((dr_tell P ms w kn tw).2.1))), (aEK, .inl (cB, P * P, .inl (fun z9 => bI (((dr_tell P ms w kn tw).1) z9)))), (aT, .inr (1, [.ref aS, .ref aW, .ref aM, .int (bI mk)])), (aW, .inl (cI, P * P, .inl x.1)), (aM, .inl (cB, P, .inl (fun z9 => bI (ms z9))))]) (tl := []) (G := fun (u : Unit) => [(aR, .inr (3, [.ref aS, .ref aA, .ref aL, .ref aE, .int (bI ((dr_pdr P ((dr_tell P ms w kn tw).2.1) i (x.1, x.2.1, x.2.2) P).2.2.1)), .int ((dr_pdr P ((dr_tell P ms w kn tw).2.1) i (x.1, x.2.1, x.2.2) P).2.2.2)])), (aS, .inr (0, [.int (nI P), .int (nI (P - 2)), .int (nI (P - 1)), .int (nI (P * (P - 2)))])), (aL, .inl (cB, P, .inl (fun z9 => bI (lo z9)))), (aE, .inr (2, [.ref aS, .ref aEW, .ref aEK, .int ((dr_tell P ms w kn tw).2.2)])), (aEW, .inl (cI, P * P, .inl ((dr_tell P ms w kn tw).2.1))), (aEK, .inl (cB, P * P, .inl (fun z9 => bI (((dr_tell P ms w kn tw).1) z9)))), (aT, .inr (1, [.ref aS, .ref aW, .ref aM, .int (bI mk)])), (aW, .inl (cI, P * P, .inl ((dr_pdr P ((dr_tell P ms w kn tw).2.1) i (x.1, x.2.1, x.2.2) P).2.1))), (aM, .inl (cB, P, .inl (fun z9 => bI (ms z9))))]) (b := aR) (As := [.ref aT, .int (nI i)]) (rst := []) ⟨hx, hb, hml, hown, hts⟩ (c_putDrive l dC dI cI cB cQ cJ aR aS aA aL aE x.2.1 x.2.2 P aEW aEK ((dr_tell P ms w kn tw).2.1) ((dr_tell P ms w kn tw).2.2) aT aW aM x.1 mk i hp5 (by omega)) (cwV 2 hts (gdV t_mX3_184 t_inst_X3_putDrive t_sel_X3_putDrive t_ini_X3 t_code_X3_putDrive) rfl rfl rfl (by decide +kernel) ⟨Nat.le_of_ble_eq_true rfl, Nat.le_of_ble_eq_true rfl⟩) hK hP hD hS hA [0, 1, 3, 4, 6, 7] [2, 5, 8] [0, 1, 6, 2, 3, 7, 4, 5, 8] rfl (by decide) (fun _ => rfl) (by decide) (ci := 3) rfl rfl rfl rfl hl.1 rfl (Nat.le_of_ble_eq_true rfl) dX3_rebuildStripe_33 ⟨Nat.zero_le _, Nat.zero_le _⟩ (fun r u H locs hu11 hP hD hS => ?_)
          have hr33 := hu11
          have hr33 : r = bI ((dr_pdr P ((dr_tell P ms w kn tw).2.1) i (x.1, x.2.1, x.2.2) P).1) := hr33
          subst hr33
          have hP : va_P (dC, dI) vwCl [(aR, .inr (3, [.ref aS, .ref aA, .ref aL, .ref aE, .int (bI ((dr_pdr P ((dr_tell P ms w kn tw).2.1) i (x.1, x.2.1, x.2.2) P).2.2.1)), .int ((dr_pdr P ((dr_tell P ms w kn tw).2.1) i (x.1, x.2.1, x.2.2) P).2.2.2)])), (aS, .inr (0, [.int (nI P), .int (nI (P - 2)), .int (nI (P - 1)), .int (nI (P * (P - 2)))])), (aL, .inl (cB, P, .inl (fun z9 => bI (lo z9)))), (aE, .inr (2, [.ref aS, .ref aEW, .ref aEK, .int ((dr_tell P ms w kn tw).2.2)])), (aEW, .inl (cI, P * P, .inl ((dr_tell P ms w kn tw).2.1))), (aEK, .inl (cB, P * P, .inl (fun z9 => bI (((dr_tell P ms w kn tw).1) z9)))), (aT, .inr (1, [.ref aS, .ref aW, .ref aM, .int (bI mk)])), (aW, .inl (cI, P * P, .inl ((dr_pdr P ((dr_tell P ms w kn tw).2.1) i (x.1, x.2.1, x.2.2) P).2.1))), (aM, .inl (cB, P, .inl (fun z9 => bI (ms z9))))] H := hP
          have hD : va_D A [(aR, .inr (3, [.ref aS, .ref aA, .ref aL, .ref aE, .int (bI ((dr_pdr P ((dr_tell P ms w kn tw).2.1) i (x.1, x.2.1, x.2.2) P).2.2.1)), .int ((dr_pdr P ((dr_tell P ms w kn tw).2.1) i (x.1, x.2.1, x.2.2) P).2.2.2)])), (aS, .inr (0, [.int (nI P), .int (nI (P - 2)), .int (nI (P - 1)), .int (nI (P * (P - 2)))])), (aL, .inl (cB, P, .inl (fun z9 => bI (lo z9)))), (aE, .inr (2, [.ref aS, .ref aEW, .ref aEK, .int ((dr_tell P ms w kn tw).2.2)])), (aEW, .inl (cI, P * P, .inl ((dr_tell P ms w kn tw).2.1))), (aEK, .inl (cB, P * P, .inl (fun z9 => bI (((dr_tell P ms w kn tw).1) z9)))), (aT, .inr (1, [.ref aS, .ref aW, .ref aM, .int (bI mk)])), (aW, .inl (cI, P * P, .inl ((dr_pdr P ((dr_tell P ms w kn tw).2.1) i (x.1, x.2.1, x.2.2) P).2.1))), (aM, .inl (cB, P, .inl (fun z9 => bI (ms z9))))] := hD
          refine x_ifT (tgt := 41) hx hb dX3_rebuildStripe_36 (by decide) (fun h36 => ?_) (fun h36 => ?_)
          · -- 36t
            refine lv_iinc (v := nI (i + 1)) hx hb dX3_rebuildStripe_41 hl (k := 0) rfl (x_inc _) (by decide) rfl (fun ls hl => ?_)
            have hl : lv_has ls 3 [(2, .int (nI (i + 1))), (1, .ref aT), (0, .ref aR)] := hl
            refine lv_goto (tgt := 10) hx hb dX3_rebuildStripe_44 (by decide) ?_
            have e12 : (((dr_pdr P (dr_tell P ms w kn tw).2.1 i x P).2).2.1) = ((dr_pdr P ((dr_tell P ms w kn tw).2.1) i (x.1, x.2.1, x.2.2) P).2.2.1) := by first | rfl | (simp [h18, h27, h36]; done) | (simp [h18, h27, h36]; omega)
            have e13 : (((dr_pdr P (dr_tell P ms w kn tw).2.1 i x P).2).2.2) = ((dr_pdr P ((dr_tell P ms w kn tw).2.1) i (x.1, x.2.1, x.2.2) P).2.2.2) := by first | rfl | (simp [h18, h27, h36]; done) | (simp [h18, h27, h36]; omega)
            have e14 : (((dr_pdr P (dr_tell P ms w kn tw).2.1 i x P).2).1) = ((dr_pdr P ((dr_tell P ms w kn tw).2.1) i (x.1, x.2.1, x.2.2) P).2.1) := by first | rfl | (simp [h18, h27, h36]; done) | (simp [h18, h27, h36]; omega)
            exact ih10 (i + 1) ((dr_pdr P (dr_tell P ms w kn tw).2.1 i x P).2) ls H locs (by omega) (by omega) (by first | rfl | (rw [dr_rbl, hx9, if_pos rfl, if_neg (by rw [h27]; decide)]) | (rw [dr_rbl, hx9, if_pos rfl, if_pos h27]; exact Prod.ext h36 rfl)) (lv_sub hl [0, 1, 2] rfl) (by rw [e12, e13, e14]; exact hP) (by rw [e12, e13, e14]; exact hD) hS
          · -- 36f
            refine lv_iconst (v := bI false) hx hb dX3_rebuildStripe_39 (by decide) ?_
            have e15 : ((dr_rbl P lo ms (dr_tell P ms w kn tw).2.1 (w, pw, tn) P).2.2.1) = ((dr_pdr P ((dr_tell P ms w kn tw).2.1) i (x.1, x.2.1, x.2.2) P).2.2.1) := by first | (rw [dr_rbl_false (show i < P by omega) hx9 h27 h36]; done) | (rw [dr_rbl_false (show i < P by omega) hx9 h27 h36]; exact if_neg (fun z => by cases z.symm.trans h36))
            have e16 : ((dr_rbl P lo ms (dr_tell P ms w kn tw).2.1 (w, pw, tn) P).2.2.2) = ((dr_pdr P ((dr_tell P ms w kn tw).2.1) i (x.1, x.2.1, x.2.2) P).2.2.2) := by first | (rw [dr_rbl_false (show i < P by omega) hx9 h27 h36]; done) | (rw [dr_rbl_false (show i < P by omega) hx9 h27 h36]; exact if_neg (fun z => by cases z.symm.trans h36))
            have e17 : ((dr_rbl P lo ms (dr_tell P ms w kn tw).2.1 (w, pw, tn) P).2.1) = ((dr_pdr P ((dr_tell P ms w kn tw).2.1) i (x.1, x.2.1, x.2.2) P).2.1) := by first | (rw [dr_rbl_false (show i < P by omega) hx9 h27 h36]; done) | (rw [dr_rbl_false (show i < P by omega) hx9 h27 h36]; exact if_neg (fun z => by cases z.symm.trans h36))
            have e18 : (if (dr_rbl P lo ms (dr_tell P ms w kn tw).2.1 (w, pw, tn) P).1 = true then dr_mf lo ms P else ms) = ms := by first | (rw [dr_rbl_false (show i < P by omega) hx9 h27 h36]; done) | (rw [dr_rbl_false (show i < P by omega) hx9 h27 h36]; exact if_neg (fun z => by cases z.symm.trans h36))
            exact x_zret (D := (dC, dI)) (cl := vwCl) (A := A) () hQ hx hb hr hlk (by rw [e15, e16, e17, e18]; exact hP) (by rw [e15, e16, e17, e18]; exact hD) hS dX3_rebuildStripe_40 (by rw [dr_rbl_false (show i < P by omega) hx9 h27 h36]; exact congrArg bI h36.symm)
  have e19 : ((w, pw, tn).2.1) = pw := by first | rfl | (simp []; done) | (simp []; omega)
  have e20 : ((w, pw, tn).2.2) = tn := by first | rfl | (simp []; done) | (simp []; omega)
  have e21 : ((w, pw, tn).1) = w := by first | rfl | (simp []; done) | (simp []; omega)
  exact lp10 (P - 0 + 1) 0 (w, pw, tn) ls H locs (by omega) (by omega) (by first | rfl | (rw [dr_rbl, hx9, if_pos rfl, if_neg (by rw [h27]; decide)]) | (rw [dr_rbl, hx9, if_pos rfl, if_pos h27]; exact Prod.ext h36 rfl)) (lv_sub hl [0, 2, 1] rfl) (by rw [e19, e20, e21]; exact hP) (by rw [e19, e20, e21]; exact hD) hS
