abbrev rm_c_at : Room := { frames := 0, cells := 0, slots := 0, locals := 0 }
set_option maxHeartbeats 4000000 in
set_option maxRecDepth 100000 in
theorem c_at (l : Launch) (dC : Nat → ClassId) (dI : Nat → Nat → Nat) (cI cB cQ cJ : ClassId) (sx : Nat) (d : Nat) (k : Nat)  : MG l yX4_at (Cond.code yX4_at cX4_at 3 (some .int) :: TB) rm_c_at (dC, dI) vwCl (TY cI cB cQ cJ) [.int (nI sx), .int (nI d), .int (nI k)] [] (fun (r : Int32) (u : Unit) => r = nI (169 * sx + 13 * d + k)) (fun (u : Unit) => []) := by
  refine MG.ofW (cc := cX4_at) (maxL := 3) (rt := .int) (by decide +kernel) rfl (Nat.le_of_ble_eq_true rfl) ?_
  intro p e s m args below meth c A ls Q H locs hQ hx hb hml hr hlk hts hown hK hP hD hS hA hl
  have hts : ∀ w ∈ TB, w.before args s = true := fun w h => hts w (List.mem_cons_of_mem _ h)
  have hown : s.vm.findClass RX4 = some m.cls := hown
  have hl : lv_has ls 3 [(0, .int (nI sx)), (1, .int (nI d)), (2, .int (nI k))] := hl
  have hP : va_P (dC, dI) vwCl [] H := hP
  have hD : va_D A [] := hD
  refine lv_sipush (v := nI 169) hx hb dX4_at_0 (by decide) ?_
  refine lv_iload_n hx hb dX4_at_3 rfl (lv_at hl 0 rfl) ?_
  refine x_mul hx hb dX4_at_4 ?_
  refine lv_bipush (v := nI 13) hx hb dX4_at_5 (by decide) ?_
  refine lv_iload_n hx hb dX4_at_7 rfl (lv_at hl 1 rfl) ?_
  refine x_mul hx hb dX4_at_8 ?_
  refine x_add hx hb dX4_at_9 ?_
  refine lv_iload_n hx hb dX4_at_10 rfl (lv_at hl 2 rfl) ?_
  refine x_add hx hb dX4_at_11 ?_
  exact x_iret (D := (dC, dI)) (cl := vwCl) (A := A) () hQ hx hb hr hlk hP hD hS dX4_at_12 (by first | rfl | (simp []; done) | (simp []; omega))

abbrev rm_c_mDrive : Room := { frames := 0, cells := 0, slots := 0, locals := 0 }
set_option maxHeartbeats 4000000 in
set_option maxRecDepth 100000 in
theorem c_mDrive (l : Launch) (dC : Nat → ClassId) (dI : Nat → Nat → Nat) (cI cB cQ cJ : ClassId) (aO : Nat) (bW : Nat) (bL : Nat) (bF : Nat) (bK : Nat) (bB : Nat) (bS : Nat) (bN : Nat) (bM : Nat) (th : Nat) (P : Nat) (n : Nat) (pw : Bool) (lf : Int32) (mz : Nat) (wd : Nat → Int32) (lo : Nat → Bool) (fr : Nat → Bool) (mk : Nat → Bool) (bt : Nat → Nat) (su : Nat → Int32) (kv : Nat → Int32) (mi : Nat → Nat) (x : Int32) (hp5 : dr_P P) (hn : n < 5) : MG l yX4_isDrive (Cond.code yX4_isDrive cX4_isDrive 2 (some .boolean) :: TB) rm_c_mDrive (dC, dI) vwCl (TY cI cB cQ cJ) [.ref aO, .int x] [(aO, .inr (4, [.int (nI th), .int (nI P), .int (nI n), .ref bW, .ref bL, .ref bF, .ref bK, .int (bI pw), .int lf, .ref bB, .ref bS, .ref bN, .ref bM, .int (nI mz)])), (bW, .inl (cI, 676, .inl wd)), (bL, .inl (cB, 13, .inl (fun z9 => bI (lo z9)))), (bF, .inl (cB, 52, .inl (fun z9 => bI (fr z9)))), (bK, .inl (cB, 4, .inl (fun z9 => bI (mk z9)))), (bB, .inl (cI, 26, .inl (fun z9 => nI (bt z9)))), (bS, .inl (cI, 26, .inl su)), (bN, .inl (cI, 26, .inl kv)), (bM, .inl (cI, 13, .inl (fun z9 => nI (mi z9))))] (fun (r : Int32) (u : Unit) => r = bI (dr_in x P)) (fun (u : Unit) => [(aO, .inr (4, [.int (nI th), .int (nI P), .int (nI n), .ref bW, .ref bL, .ref bF, .ref bK, .int (bI pw), .int lf, .ref bB, .ref bS, .ref bN, .ref bM, .int (nI mz)])), (bW, .inl (cI, 676, .inl wd)), (bL, .inl (cB, 13, .inl (fun z9 => bI (lo z9)))), (bF, .inl (cB, 52, .inl (fun z9 => bI (fr z9)))), (bK, .inl (cB, 4, .inl (fun z9 => bI (mk z9)))), (bB, .inl (cI, 26, .inl (fun z9 => nI (bt z9)))), (bS, .inl (cI, 26, .inl su)), (bN, .inl (cI, 26, .inl kv)), (bM, .inl (cI, 13, .inl (fun z9 => nI (mi z9))))]) := by
  refine MG.ofW (cc := cX4_isDrive) (maxL := 2) (rt := .boolean) (by decide +kernel) rfl (Nat.le_of_ble_eq_true rfl) ?_
  intro p e s m args below meth c A ls Q H locs hQ hx hb hml hr hlk hts hown hK hP hD hS hA hl
  have hts : ∀ w ∈ TB, w.before args s = true := fun w h => hts w (List.mem_cons_of_mem _ h)
  have hown : s.vm.findClass RX4 = some m.cls := hown
  have hl : lv_has ls 2 [(0, .ref aO), (1, .int x)] := hl
  have hP : va_P (dC, dI) vwCl [(aO, .inr (4, [.int (nI th), .int (nI P), .int (nI n), .ref bW, .ref bL, .ref bF, .ref bK, .int (bI pw), .int lf, .ref bB, .ref bS, .ref bN, .ref bM, .int (nI mz)])), (bW, .inl (cI, 676, .inl wd)), (bL, .inl (cB, 13, .inl (fun z9 => bI (lo z9)))), (bF, .inl (cB, 52, .inl (fun z9 => bI (fr z9)))), (bK, .inl (cB, 4, .inl (fun z9 => bI (mk z9)))), (bB, .inl (cI, 26, .inl (fun z9 => nI (bt z9)))), (bS, .inl (cI, 26, .inl su)), (bN, .inl (cI, 26, .inl kv)), (bM, .inl (cI, 13, .inl (fun z9 => nI (mi z9))))] H := hP
  have hD : va_D A [(aO, .inr (4, [.int (nI th), .int (nI P), .int (nI n), .ref bW, .ref bL, .ref bF, .ref bK, .int (bI pw), .int lf, .ref bB, .ref bS, .ref bN, .ref bM, .int (nI mz)])), (bW, .inl (cI, 676, .inl wd)), (bL, .inl (cB, 13, .inl (fun z9 => bI (lo z9)))), (bF, .inl (cB, 52, .inl (fun z9 => bI (fr z9)))), (bK, .inl (cB, 4, .inl (fun z9 => bI (mk z9)))), (bB, .inl (cI, 26, .inl (fun z9 => nI (bt z9)))), (bS, .inl (cI, 26, .inl su)), (bN, .inl (cI, 26, .inl kv)), (bM, .inl (cI, 13, .inl (fun z9 => nI (mi z9))))] := hD
  have hp := hp5.le
  have hpp := dr_PP hp5
  have hpq := dr_PP2 hp5
  refine lv_iload_n hx hb dX4_isDrive_0 rfl (lv_at hl 1 rfl) ?_
  refine lv_if_lt (tgt := 16) hx hb dX4_isDrive_1 (by decide) (fun h1 => ?_) (fun h1 => ?_)
  · -- 1t
    refine lv_iconst (v := bI false) hx hb dX4_isDrive_16 (by decide) ?_
    exact x_zret (D := (dC, dI)) (cl := vwCl) (A := A) () hQ hx hb hr hlk hP hD hS dX4_isDrive_17 (by first | rfl | (simp [dr_in, h1]; done) | (simp [dr_in, h1]; omega))
  · -- 1f
    refine lv_iload_n hx hb dX4_isDrive_4 rfl (lv_at hl 1 rfl) ?_
    refine lv_aload_n hx hb dX4_isDrive_5 rfl (lv_at hl 0 rfl) ?_
    refine va_get (D := (dC, dI)) (ci := 4) (v := .int (nI P)) (C := RX4) (T := TX4) (N := 14) hx hb hts inX4 hown hK hP 0 rfl rfl 1 (by decide) (hts _ t_fX4_43) (fun _ h9 => h9) rfl dX4_isDrive_6 ?_
    refine lv_icmp_ge (tgt := 16) hx hb dX4_isDrive_9 (by decide) (fun h9 => ?_) (fun h9 => ?_)
    · -- 9t
      refine lv_iconst (v := bI false) hx hb dX4_isDrive_16 (by decide) ?_
      exact x_zret (D := (dC, dI)) (cl := vwCl) (A := A) () hQ hx hb hr hlk hP hD hS dX4_isDrive_17 (by first | rfl | (simp [dr_in, h1, h9]; done) | (simp [dr_in, h1, h9]; omega))
    · -- 9f
      refine lv_iconst (v := bI true) hx hb dX4_isDrive_12 (by decide) ?_
      refine lv_goto (tgt := 17) hx hb dX4_isDrive_13 (by decide) ?_
      exact x_zret (D := (dC, dI)) (cl := vwCl) (A := A) () hQ hx hb hr hlk hP hD hS dX4_isDrive_17 (by first | rfl | (simp [dr_in, h1, h9]; done) | (simp [dr_in, h1, h9]; omega))

abbrev rm_c_mStripe : Room := { frames := 0, cells := 0, slots := 0, locals := 0 }
set_option maxHeartbeats 4000000 in
set_option maxRecDepth 100000 in
theorem c_mStripe (l : Launch) (dC : Nat → ClassId) (dI : Nat → Nat → Nat) (cI cB cQ cJ : ClassId) (aO : Nat) (bW : Nat) (bL : Nat) (bF : Nat) (bK : Nat) (bB : Nat) (bS : Nat) (bN : Nat) (bM : Nat) (th : Nat) (P : Nat) (n : Nat) (pw : Bool) (lf : Int32) (mz : Nat) (wd : Nat → Int32) (lo : Nat → Bool) (fr : Nat → Bool) (mk : Nat → Bool) (bt : Nat → Nat) (su : Nat → Int32) (kv : Nat → Int32) (mi : Nat → Nat) (x : Int32) (hp5 : dr_P P) (hn : n < 5) : MG l yX4_isStripe (Cond.code yX4_isStripe cX4_isStripe 2 (some .boolean) :: TB) rm_c_mStripe (dC, dI) vwCl (TY cI cB cQ cJ) [.ref aO, .int x] [(aO, .inr (4, [.int (nI th), .int (nI P), .int (nI n), .ref bW, .ref bL, .ref bF, .ref bK, .int (bI pw), .int lf, .ref bB, .ref bS, .ref bN, .ref bM, .int (nI mz)])), (bW, .inl (cI, 676, .inl wd)), (bL, .inl (cB, 13, .inl (fun z9 => bI (lo z9)))), (bF, .inl (cB, 52, .inl (fun z9 => bI (fr z9)))), (bK, .inl (cB, 4, .inl (fun z9 => bI (mk z9)))), (bB, .inl (cI, 26, .inl (fun z9 => nI (bt z9)))), (bS, .inl (cI, 26, .inl su)), (bN, .inl (cI, 26, .inl kv)), (bM, .inl (cI, 13, .inl (fun z9 => nI (mi z9))))] (fun (r : Int32) (u : Unit) => r = bI (dr_in x n)) (fun (u : Unit) => [(aO, .inr (4, [.int (nI th), .int (nI P), .int (nI n), .ref bW, .ref bL, .ref bF, .ref bK, .int (bI pw), .int lf, .ref bB, .ref bS, .ref bN, .ref bM, .int (nI mz)])), (bW, .inl (cI, 676, .inl wd)), (bL, .inl (cB, 13, .inl (fun z9 => bI (lo z9)))), (bF, .inl (cB, 52, .inl (fun z9 => bI (fr z9)))), (bK, .inl (cB, 4, .inl (fun z9 => bI (mk z9)))), (bB, .inl (cI, 26, .inl (fun z9 => nI (bt z9)))), (bS, .inl (cI, 26, .inl su)), (bN, .inl (cI, 26, .inl kv)), (bM, .inl (cI, 13, .inl (fun z9 => nI (mi z9))))]) := by
  refine MG.ofW (cc := cX4_isStripe) (maxL := 2) (rt := .boolean) (by decide +kernel) rfl (Nat.le_of_ble_eq_true rfl) ?_
  intro p e s m args below meth c A ls Q H locs hQ hx hb hml hr hlk hts hown hK hP hD hS hA hl
  have hts : ∀ w ∈ TB, w.before args s = true := fun w h => hts w (List.mem_cons_of_mem _ h)
  have hown : s.vm.findClass RX4 = some m.cls := hown
  have hl : lv_has ls 2 [(0, .ref aO), (1, .int x)] := hl
  have hP : va_P (dC, dI) vwCl [(aO, .inr (4, [.int (nI th), .int (nI P), .int (nI n), .ref bW, .ref bL, .ref bF, .ref bK, .int (bI pw), .int lf, .ref bB, .ref bS, .ref bN, .ref bM, .int (nI mz)])), (bW, .inl (cI, 676, .inl wd)), (bL, .inl (cB, 13, .inl (fun z9 => bI (lo z9)))), (bF, .inl (cB, 52, .inl (fun z9 => bI (fr z9)))), (bK, .inl (cB, 4, .inl (fun z9 => bI (mk z9)))), (bB, .inl (cI, 26, .inl (fun z9 => nI (bt z9)))), (bS, .inl (cI, 26, .inl su)), (bN, .inl (cI, 26, .inl kv)), (bM, .inl (cI, 13, .inl (fun z9 => nI (mi z9))))] H := hP
  have hD : va_D A [(aO, .inr (4, [.int (nI th), .int (nI P), .int (nI n), .ref bW, .ref bL, .ref bF, .ref bK, .int (bI pw), .int lf, .ref bB, .ref bS, .ref bN, .ref bM, .int (nI mz)])), (bW, .inl (cI, 676, .inl wd)), (bL, .inl (cB, 13, .inl (fun z9 => bI (lo z9)))), (bF, .inl (cB, 52, .inl (fun z9 => bI (fr z9)))), (bK, .inl (cB, 4, .inl (fun z9 => bI (mk z9)))), (bB, .inl (cI, 26, .inl (fun z9 => nI (bt z9)))), (bS, .inl (cI, 26, .inl su)), (bN, .inl (cI, 26, .inl kv)), (bM, .inl (cI, 13, .inl (fun z9 => nI (mi z9))))] := hD
  have hp := hp5.le
  have hpp := dr_PP hp5
  have hpq := dr_PP2 hp5
  refine lv_iload_n hx hb dX4_isStripe_0 rfl (lv_at hl 1 rfl) ?_
  refine lv_if_lt (tgt := 16) hx hb dX4_isStripe_1 (by decide) (fun h1 => ?_) (fun h1 => ?_)
  · -- 1t
    refine lv_iconst (v := bI false) hx hb dX4_isStripe_16 (by decide) ?_
    exact x_zret (D := (dC, dI)) (cl := vwCl) (A := A) () hQ hx hb hr hlk hP hD hS dX4_isStripe_17 (by first | rfl | (simp [dr_in, h1]; done) | (simp [dr_in, h1]; omega))
  · -- 1f
    refine lv_iload_n hx hb dX4_isStripe_4 rfl (lv_at hl 1 rfl) ?_
    refine lv_aload_n hx hb dX4_isStripe_5 rfl (lv_at hl 0 rfl) ?_
    refine va_get (D := (dC, dI)) (ci := 4) (v := .int (nI n)) (C := RX4) (T := TX4) (N := 14) hx hb hts inX4 hown hK hP 0 rfl rfl 2 (by decide) (hts _ t_fX4_46) (fun _ h9 => h9) rfl dX4_isStripe_6 ?_
    refine lv_icmp_ge (tgt := 16) hx hb dX4_isStripe_9 (by decide) (fun h9 => ?_) (fun h9 => ?_)
    · -- 9t
      refine lv_iconst (v := bI false) hx hb dX4_isStripe_16 (by decide) ?_
      exact x_zret (D := (dC, dI)) (cl := vwCl) (A := A) () hQ hx hb hr hlk hP hD hS dX4_isStripe_17 (by first | rfl | (simp [dr_in, h1, h9]; done) | (simp [dr_in, h1, h9]; omega))
    · -- 9f
      refine lv_iconst (v := bI true) hx hb dX4_isStripe_12 (by decide) ?_
      refine lv_goto (tgt := 17) hx hb dX4_isStripe_13 (by decide) ?_
      exact x_zret (D := (dC, dI)) (cl := vwCl) (A := A) () hQ hx hb hr hlk hP hD hS dX4_isStripe_17 (by first | rfl | (simp [dr_in, h1, h9]; done) | (simp [dr_in, h1, h9]; omega))

abbrev rm_c_mBlock : Room := { frames := 0, cells := 0, slots := 0, locals := 0 }
set_option maxHeartbeats 4000000 in
set_option maxRecDepth 100000 in
theorem c_mBlock (l : Launch) (dC : Nat → ClassId) (dI : Nat → Nat → Nat) (cI cB cQ cJ : ClassId) (aO : Nat) (bW : Nat) (bL : Nat) (bF : Nat) (bK : Nat) (bB : Nat) (bS : Nat) (bN : Nat) (bM : Nat) (th : Nat) (P : Nat) (n : Nat) (pw : Bool) (lf : Int32) (mz : Nat) (wd : Nat → Int32) (lo : Nat → Bool) (fr : Nat → Bool) (mk : Nat → Bool) (bt : Nat → Nat) (su : Nat → Int32) (kv : Nat → Int32) (mi : Nat → Nat) (x : Int32) (hp5 : dr_P P) (hn : n < 5) : MG l yX4_isBlock (Cond.code yX4_isBlock cX4_isBlock 2 (some .boolean) :: TB) rm_c_mBlock (dC, dI) vwCl (TY cI cB cQ cJ) [.ref aO, .int x] [(aO, .inr (4, [.int (nI th), .int (nI P), .int (nI n), .ref bW, .ref bL, .ref bF, .ref bK, .int (bI pw), .int lf, .ref bB, .ref bS, .ref bN, .ref bM, .int (nI mz)])), (bW, .inl (cI, 676, .inl wd)), (bL, .inl (cB, 13, .inl (fun z9 => bI (lo z9)))), (bF, .inl (cB, 52, .inl (fun z9 => bI (fr z9)))), (bK, .inl (cB, 4, .inl (fun z9 => bI (mk z9)))), (bB, .inl (cI, 26, .inl (fun z9 => nI (bt z9)))), (bS, .inl (cI, 26, .inl su)), (bN, .inl (cI, 26, .inl kv)), (bM, .inl (cI, 13, .inl (fun z9 => nI (mi z9))))] (fun (r : Int32) (u : Unit) => r = bI (dr_in x (n * (P - 2) * P))) (fun (u : Unit) => [(aO, .inr (4, [.int (nI th), .int (nI P), .int (nI n), .ref bW, .ref bL, .ref bF, .ref bK, .int (bI pw), .int lf, .ref bB, .ref bS, .ref bN, .ref bM, .int (nI mz)])), (bW, .inl (cI, 676, .inl wd)), (bL, .inl (cB, 13, .inl (fun z9 => bI (lo z9)))), (bF, .inl (cB, 52, .inl (fun z9 => bI (fr z9)))), (bK, .inl (cB, 4, .inl (fun z9 => bI (mk z9)))), (bB, .inl (cI, 26, .inl (fun z9 => nI (bt z9)))), (bS, .inl (cI, 26, .inl su)), (bN, .inl (cI, 26, .inl kv)), (bM, .inl (cI, 13, .inl (fun z9 => nI (mi z9))))]) := by
  refine MG.ofW (cc := cX4_isBlock) (maxL := 2) (rt := .boolean) (by decide +kernel) rfl (Nat.le_of_ble_eq_true rfl) ?_
  intro p e s m args below meth c A ls Q H locs hQ hx hb hml hr hlk hts hown hK hP hD hS hA hl
  have hts : ∀ w ∈ TB, w.before args s = true := fun w h => hts w (List.mem_cons_of_mem _ h)
  have hown : s.vm.findClass RX4 = some m.cls := hown
  have hl : lv_has ls 2 [(0, .ref aO), (1, .int x)] := hl
  have hP : va_P (dC, dI) vwCl [(aO, .inr (4, [.int (nI th), .int (nI P), .int (nI n), .ref bW, .ref bL, .ref bF, .ref bK, .int (bI pw), .int lf, .ref bB, .ref bS, .ref bN, .ref bM, .int (nI mz)])), (bW, .inl (cI, 676, .inl wd)), (bL, .inl (cB, 13, .inl (fun z9 => bI (lo z9)))), (bF, .inl (cB, 52, .inl (fun z9 => bI (fr z9)))), (bK, .inl (cB, 4, .inl (fun z9 => bI (mk z9)))), (bB, .inl (cI, 26, .inl (fun z9 => nI (bt z9)))), (bS, .inl (cI, 26, .inl su)), (bN, .inl (cI, 26, .inl kv)), (bM, .inl (cI, 13, .inl (fun z9 => nI (mi z9))))] H := hP
  have hD : va_D A [(aO, .inr (4, [.int (nI th), .int (nI P), .int (nI n), .ref bW, .ref bL, .ref bF, .ref bK, .int (bI pw), .int lf, .ref bB, .ref bS, .ref bN, .ref bM, .int (nI mz)])), (bW, .inl (cI, 676, .inl wd)), (bL, .inl (cB, 13, .inl (fun z9 => bI (lo z9)))), (bF, .inl (cB, 52, .inl (fun z9 => bI (fr z9)))), (bK, .inl (cB, 4, .inl (fun z9 => bI (mk z9)))), (bB, .inl (cI, 26, .inl (fun z9 => nI (bt z9)))), (bS, .inl (cI, 26, .inl su)), (bN, .inl (cI, 26, .inl kv)), (bM, .inl (cI, 13, .inl (fun z9 => nI (mi z9))))] := hD
  have hp := hp5.le
  have hpp := dr_PP hp5
  have hpq := dr_PP2 hp5
  refine lv_iload_n hx hb dX4_isBlock_0 rfl (lv_at hl 1 rfl) ?_
  refine lv_if_lt (tgt := 28) hx hb dX4_isBlock_1 (by decide) (fun h1 => ?_) (fun h1 => ?_)
  · -- 1t
    refine lv_iconst (v := bI false) hx hb dX4_isBlock_28 (by decide) ?_
    exact x_zret (D := (dC, dI)) (cl := vwCl) (A := A) () hQ hx hb hr hlk hP hD hS dX4_isBlock_29 (by first | rfl | (simp [dr_in, h1]; done) | (simp [dr_in, h1]; omega))
  · -- 1f
    refine lv_iload_n hx hb dX4_isBlock_4 rfl (lv_at hl 1 rfl) ?_
    refine lv_aload_n hx hb dX4_isBlock_5 rfl (lv_at hl 0 rfl) ?_
    refine va_get (D := (dC, dI)) (ci := 4) (v := .int (nI n)) (C := RX4) (T := TX4) (N := 14) hx hb hts inX4 hown hK hP 0 rfl rfl 2 (by decide) (hts _ t_fX4_46) (fun _ h9 => h9) rfl dX4_isBlock_6 ?_
    refine lv_aload_n hx hb dX4_isBlock_9 rfl (lv_at hl 0 rfl) ?_
    refine va_get (D := (dC, dI)) (ci := 4) (v := .int (nI P)) (C := RX4) (T := TX4) (N := 14) hx hb hts inX4 hown hK hP 0 rfl rfl 1 (by decide) (hts _ t_fX4_43) (fun _ h9 => h9) rfl dX4_isBlock_10 ?_
    refine lv_iconst (v := nI 2) hx hb dX4_isBlock_13 (by decide) ?_
    refine x_sub hx hb dX4_isBlock_14 (by omega) ?_
    refine x_mul hx hb dX4_isBlock_15 ?_
    refine lv_aload_n hx hb dX4_isBlock_16 rfl (lv_at hl 0 rfl) ?_
    refine va_get (D := (dC, dI)) (ci := 4) (v := .int (nI P)) (C := RX4) (T := TX4) (N := 14) hx hb hts inX4 hown hK hP 0 rfl rfl 1 (by decide) (hts _ t_fX4_43) (fun _ h9 => h9) rfl dX4_isBlock_17 ?_
    refine x_mul hx hb dX4_isBlock_20 ?_
    refine lv_icmp_ge (tgt := 28) hx hb dX4_isBlock_21 (by decide) (fun h21 => ?_) (fun h21 => ?_)
    · -- 21t
      refine lv_iconst (v := bI false) hx hb dX4_isBlock_28 (by decide) ?_
      exact x_zret (D := (dC, dI)) (cl := vwCl) (A := A) () hQ hx hb hr hlk hP hD hS dX4_isBlock_29 (by first | rfl | (simp [dr_in, h1, h21]; done) | (simp [dr_in, h1, h21]; omega))
    · -- 21f
      refine lv_iconst (v := bI true) hx hb dX4_isBlock_24 (by decide) ?_
      refine lv_goto (tgt := 29) hx hb dX4_isBlock_25 (by decide) ?_
      exact x_zret (D := (dC, dI)) (cl := vwCl) (A := A) () hQ hx hb hr hlk hP hD hS dX4_isBlock_29 (by first | rfl | (simp [dr_in, h1, h21]; done) | (simp [dr_in, h1, h21]; omega))

abbrev rm_c_isMiss : Room := { frames := 0, cells := 0, slots := 0, locals := 0 }
set_option maxHeartbeats 4000000 in
set_option maxRecDepth 100000 in
theorem c_isMiss (l : Launch) (dC : Nat → ClassId) (dI : Nat → Nat → Nat) (cI cB cQ cJ : ClassId) (aO : Nat) (bW : Nat) (bL : Nat) (bF : Nat) (bK : Nat) (bB : Nat) (bS : Nat) (bN : Nat) (bM : Nat) (th : Nat) (P : Nat) (n : Nat) (pw : Bool) (lf : Int32) (mz : Nat) (wd : Nat → Int32) (lo : Nat → Bool) (fr : Nat → Bool) (mk : Nat → Bool) (bt : Nat → Nat) (su : Nat → Int32) (kv : Nat → Int32) (mi : Nat → Nat) (d : Nat) (sx : Nat) (hp5 : dr_P P) (hn : n < 5) (hd : d < P) (hs : sx < n) : MG l yX4_isMissing (Cond.code yX4_isMissing cX4_isMissing 3 (some .boolean) :: TB) rm_c_isMiss (dC, dI) vwCl (TY cI cB cQ cJ) [.ref aO, .int (nI d), .int (nI sx)] [(aO, .inr (4, [.int (nI th), .int (nI P), .int (nI n), .ref bW, .ref bL, .ref bF, .ref bK, .int (bI pw), .int lf, .ref bB, .ref bS, .ref bN, .ref bM, .int (nI mz)])), (bW, .inl (cI, 676, .inl wd)), (bL, .inl (cB, 13, .inl (fun z9 => bI (lo z9)))), (bF, .inl (cB, 52, .inl (fun z9 => bI (fr z9)))), (bK, .inl (cB, 4, .inl (fun z9 => bI (mk z9)))), (bB, .inl (cI, 26, .inl (fun z9 => nI (bt z9)))), (bS, .inl (cI, 26, .inl su)), (bN, .inl (cI, 26, .inl kv)), (bM, .inl (cI, 13, .inl (fun z9 => nI (mi z9))))] (fun (r : Int32) (u : Unit) => r = bI (rf_g lo fr sx d)) (fun (u : Unit) => [(aO, .inr (4, [.int (nI th), .int (nI P), .int (nI n), .ref bW, .ref bL, .ref bF, .ref bK, .int (bI pw), .int lf, .ref bB, .ref bS, .ref bN, .ref bM, .int (nI mz)])), (bW, .inl (cI, 676, .inl wd)), (bL, .inl (cB, 13, .inl (fun z9 => bI (lo z9)))), (bF, .inl (cB, 52, .inl (fun z9 => bI (fr z9)))), (bK, .inl (cB, 4, .inl (fun z9 => bI (mk z9)))), (bB, .inl (cI, 26, .inl (fun z9 => nI (bt z9)))), (bS, .inl (cI, 26, .inl su)), (bN, .inl (cI, 26, .inl kv)), (bM, .inl (cI, 13, .inl (fun z9 => nI (mi z9))))]) := by
  refine MG.ofW (cc := cX4_isMissing) (maxL := 3) (rt := .boolean) (by decide +kernel) rfl (Nat.le_of_ble_eq_true rfl) ?_
  intro p e s m args below meth c A ls Q H locs hQ hx hb hml hr hlk hts hown hK hP hD hS hA hl
  have hts : ∀ w ∈ TB, w.before args s = true := fun w h => hts w (List.mem_cons_of_mem _ h)
  have hown : s.vm.findClass RX4 = some m.cls := hown
  have hl : lv_has ls 3 [(0, .ref aO), (1, .int (nI d)), (2, .int (nI sx))] := hl
  have hP : va_P (dC, dI) vwCl [(aO, .inr (4, [.int (nI th), .int (nI P), .int (nI n), .ref bW, .ref bL, .ref bF, .ref bK, .int (bI pw), .int lf, .ref bB, .ref bS, .ref bN, .ref bM, .int (nI mz)])), (bW, .inl (cI, 676, .inl wd)), (bL, .inl (cB, 13, .inl (fun z9 => bI (lo z9)))), (bF, .inl (cB, 52, .inl (fun z9 => bI (fr z9)))), (bK, .inl (cB, 4, .inl (fun z9 => bI (mk z9)))), (bB, .inl (cI, 26, .inl (fun z9 => nI (bt z9)))), (bS, .inl (cI, 26, .inl su)), (bN, .inl (cI, 26, .inl kv)), (bM, .inl (cI, 13, .inl (fun z9 => nI (mi z9))))] H := hP
  have hD : va_D A [(aO, .inr (4, [.int (nI th), .int (nI P), .int (nI n), .ref bW, .ref bL, .ref bF, .ref bK, .int (bI pw), .int lf, .ref bB, .ref bS, .ref bN, .ref bM, .int (nI mz)])), (bW, .inl (cI, 676, .inl wd)), (bL, .inl (cB, 13, .inl (fun z9 => bI (lo z9)))), (bF, .inl (cB, 52, .inl (fun z9 => bI (fr z9)))), (bK, .inl (cB, 4, .inl (fun z9 => bI (mk z9)))), (bB, .inl (cI, 26, .inl (fun z9 => nI (bt z9)))), (bS, .inl (cI, 26, .inl su)), (bN, .inl (cI, 26, .inl kv)), (bM, .inl (cI, 13, .inl (fun z9 => nI (mi z9))))] := hD
  have hp := hp5.le
  have hpp := dr_PP hp5
  have hpq := dr_PP2 hp5
  refine lv_aload_n hx hb dX4_isMissing_0 rfl (lv_at hl 0 rfl) ?_
  refine va_get (D := (dC, dI)) (ci := 4) (v := .ref bL) (C := RX4) (T := TX4) (N := 14) hx hb hts inX4 hown hK hP 0 rfl rfl 4 (by decide) (hts _ t_fX4_13) (fun _ h9 => h9) rfl dX4_isMissing_1 ?_
  refine lv_iload_n hx hb dX4_isMissing_4 rfl (lv_at hl 1 rfl) ?_
  refine x_zald (g := lo) hx hb hK hP 2 1 rfl rfl dX4_isMissing_5 (by omega) (by omega) ?_
  refine x_ifT (tgt := 22) hx hb dX4_isMissing_6 (by decide) (fun h6 => ?_) (fun h6 => ?_)
  · -- 6t
    refine lv_iconst (v := bI true) hx hb dX4_isMissing_22 (by decide) ?_
    refine lv_goto (tgt := 27) hx hb dX4_isMissing_23 (by decide) ?_
    exact x_zret (D := (dC, dI)) (cl := vwCl) (A := A) () hQ hx hb hr hlk hP hD hS dX4_isMissing_27 (by first | rfl | (simp [rf_g, h6]; done) | (simp [rf_g, h6]; omega))
  · -- 6f
    refine lv_aload_n hx hb dX4_isMissing_9 rfl (lv_at hl 0 rfl) ?_
    refine va_get (D := (dC, dI)) (ci := 4) (v := .ref bF) (C := RX4) (T := TX4) (N := 14) hx hb hts inX4 hown hK hP 0 rfl rfl 5 (by decide) (hts _ t_fX4_17) (fun _ h9 => h9) rfl dX4_isMissing_10 ?_
    refine lv_iconst (v := nI 4) hx hb dX4_isMissing_13 (by decide) ?_
    refine lv_iload_n hx hb dX4_isMissing_14 rfl (lv_at hl 1 rfl) ?_
    refine x_mul hx hb dX4_isMissing_15 ?_
    refine lv_iload_n hx hb dX4_isMissing_16 rfl (lv_at hl 2 rfl) ?_
    refine x_add hx hb dX4_isMissing_17 ?_
    refine x_zald (g := fr) hx hb hK hP 3 1 rfl rfl dX4_isMissing_18 (by omega) (by omega) ?_
    refine x_ifF (tgt := 26) hx hb dX4_isMissing_19 (by decide) (fun h19 => ?_) (fun h19 => ?_)
    · -- 19t
      refine lv_iconst (v := bI false) hx hb dX4_isMissing_26 (by decide) ?_
      exact x_zret (D := (dC, dI)) (cl := vwCl) (A := A) () hQ hx hb hr hlk hP hD hS dX4_isMissing_27 (by first | rfl | (simp [rf_g, h6, h19]; done) | (simp [rf_g, h6, h19]; omega))
    · -- 19f
      refine lv_iconst (v := bI true) hx hb dX4_isMissing_22 (by decide) ?_
      refine lv_goto (tgt := 27) hx hb dX4_isMissing_23 (by decide) ?_
      exact x_zret (D := (dC, dI)) (cl := vwCl) (A := A) () hQ hx hb hr hlk hP hD hS dX4_isMissing_27 (by first | rfl | (simp [rf_g, h6, h19]; done) | (simp [rf_g, h6, h19]; omega))

abbrev rm_c_thrown : Room := { frames := 0, cells := 0, slots := 0, locals := 0 }
set_option maxHeartbeats 4000000 in
set_option maxRecDepth 100000 in
theorem c_thrown (l : Launch) (dC : Nat → ClassId) (dI : Nat → Nat → Nat) (cI cB cQ cJ : ClassId) (aO : Nat) (bW : Nat) (bL : Nat) (bF : Nat) (bK : Nat) (bB : Nat) (bS : Nat) (bN : Nat) (bM : Nat) (th : Nat) (P : Nat) (n : Nat) (pw : Bool) (lf : Int32) (mz : Nat) (wd : Nat → Int32) (lo : Nat → Bool) (fr : Nat → Bool) (mk : Nat → Bool) (bt : Nat → Nat) (su : Nat → Int32) (kv : Nat → Int32) (mi : Nat → Nat) (hp5 : dr_P P) (hn : n < 5) : MG l yX4_thrown (Cond.code yX4_thrown cX4_thrown 1 (some .int) :: TB) rm_c_thrown (dC, dI) vwCl (TY cI cB cQ cJ) [.ref aO] [(aO, .inr (4, [.int (nI th), .int (nI P), .int (nI n), .ref bW, .ref bL, .ref bF, .ref bK, .int (bI pw), .int lf, .ref bB, .ref bS, .ref bN, .ref bM, .int (nI mz)])), (bW, .inl (cI, 676, .inl wd)), (bL, .inl (cB, 13, .inl (fun z9 => bI (lo z9)))), (bF, .inl (cB, 52, .inl (fun z9 => bI (fr z9)))), (bK, .inl (cB, 4, .inl (fun z9 => bI (mk z9)))), (bB, .inl (cI, 26, .inl (fun z9 => nI (bt z9)))), (bS, .inl (cI, 26, .inl su)), (bN, .inl (cI, 26, .inl kv)), (bM, .inl (cI, 13, .inl (fun z9 => nI (mi z9))))] (fun (r : Int32) (u : Unit) => r = nI th) (fun (u : Unit) => [(aO, .inr (4, [.int (nI th), .int (nI P), .int (nI n), .ref bW, .ref bL, .ref bF, .ref bK, .int (bI pw), .int lf, .ref bB, .ref bS, .ref bN, .ref bM, .int (nI mz)])), (bW, .inl (cI, 676, .inl wd)), (bL, .inl (cB, 13, .inl (fun z9 => bI (lo z9)))), (bF, .inl (cB, 52, .inl (fun z9 => bI (fr z9)))), (bK, .inl (cB, 4, .inl (fun z9 => bI (mk z9)))), (bB, .inl (cI, 26, .inl (fun z9 => nI (bt z9)))), (bS, .inl (cI, 26, .inl su)), (bN, .inl (cI, 26, .inl kv)), (bM, .inl (cI, 13, .inl (fun z9 => nI (mi z9))))]) := by
  refine MG.ofW (cc := cX4_thrown) (maxL := 1) (rt := .int) (by decide +kernel) rfl (Nat.le_of_ble_eq_true rfl) ?_
  intro p e s m args below meth c A ls Q H locs hQ hx hb hml hr hlk hts hown hK hP hD hS hA hl
  have hts : ∀ w ∈ TB, w.before args s = true := fun w h => hts w (List.mem_cons_of_mem _ h)
  have hown : s.vm.findClass RX4 = some m.cls := hown
  have hl : lv_has ls 1 [(0, .ref aO)] := hl
  have hP : va_P (dC, dI) vwCl [(aO, .inr (4, [.int (nI th), .int (nI P), .int (nI n), .ref bW, .ref bL, .ref bF, .ref bK, .int (bI pw), .int lf, .ref bB, .ref bS, .ref bN, .ref bM, .int (nI mz)])), (bW, .inl (cI, 676, .inl wd)), (bL, .inl (cB, 13, .inl (fun z9 => bI (lo z9)))), (bF, .inl (cB, 52, .inl (fun z9 => bI (fr z9)))), (bK, .inl (cB, 4, .inl (fun z9 => bI (mk z9)))), (bB, .inl (cI, 26, .inl (fun z9 => nI (bt z9)))), (bS, .inl (cI, 26, .inl su)), (bN, .inl (cI, 26, .inl kv)), (bM, .inl (cI, 13, .inl (fun z9 => nI (mi z9))))] H := hP
  have hD : va_D A [(aO, .inr (4, [.int (nI th), .int (nI P), .int (nI n), .ref bW, .ref bL, .ref bF, .ref bK, .int (bI pw), .int lf, .ref bB, .ref bS, .ref bN, .ref bM, .int (nI mz)])), (bW, .inl (cI, 676, .inl wd)), (bL, .inl (cB, 13, .inl (fun z9 => bI (lo z9)))), (bF, .inl (cB, 52, .inl (fun z9 => bI (fr z9)))), (bK, .inl (cB, 4, .inl (fun z9 => bI (mk z9)))), (bB, .inl (cI, 26, .inl (fun z9 => nI (bt z9)))), (bS, .inl (cI, 26, .inl su)), (bN, .inl (cI, 26, .inl kv)), (bM, .inl (cI, 13, .inl (fun z9 => nI (mi z9))))] := hD
  have hp := hp5.le
  have hpp := dr_PP hp5
  have hpq := dr_PP2 hp5
  refine lv_aload_n hx hb dX4_thrown_0 rfl (lv_at hl 0 rfl) ?_
  refine va_get (D := (dC, dI)) (ci := 4) (v := .int (nI th)) (C := RX4) (T := TX4) (N := 14) hx hb hts inX4 hown hK hP 0 rfl rfl 0 (by decide) (hts _ t_fX4_49) (fun _ h9 => h9) rfl dX4_thrown_1 ?_
  exact x_iret (D := (dC, dI)) (cl := vwCl) (A := A) () hQ hx hb hr hlk hP hD hS dX4_thrown_4 (by first | rfl | (simp []; done) | (simp []; omega))

abbrev rm_c_missing : Room := { frames := 1, cells := 0, slots := 0, locals := 22 }
set_option maxHeartbeats 4000000 in
set_option maxRecDepth 100000 in
theorem c_missing (l : Launch) (dC : Nat → ClassId) (dI : Nat → Nat → Nat) (cI cB cQ cJ : ClassId) (aO : Nat) (bW : Nat) (bL : Nat) (bF : Nat) (bK : Nat) (bB : Nat) (bS : Nat) (bN : Nat) (bM : Nat) (th : Nat) (P : Nat) (n : Nat) (pw : Bool) (lf : Int32) (mz : Nat) (wd : Nat → Int32) (lo : Nat → Bool) (fr : Nat → Bool) (mk : Nat → Bool) (bt : Nat → Nat) (su : Nat → Int32) (kv : Nat → Int32) (mi : Nat → Nat) (sx : Nat) (hp5 : dr_P P) (hn : n < 5) (hs : sx < n) : MG l yX4_missing (Cond.code yX4_missing cX4_missing 3 (some .int) :: TB) rm_c_missing (dC, dI) vwCl (TY cI cB cQ cJ) [.ref aO, .int (nI sx)] [(aO, .inr (4, [.int (nI th), .int (nI P), .int (nI n), .ref bW, .ref bL, .ref bF, .ref bK, .int (bI pw), .int lf, .ref bB, .ref bS, .ref bN, .ref bM, .int (nI mz)])), (bW, .inl (cI, 676, .inl wd)), (bL, .inl (cB, 13, .inl (fun z9 => bI (lo z9)))), (bF, .inl (cB, 52, .inl (fun z9 => bI (fr z9)))), (bK, .inl (cB, 4, .inl (fun z9 => bI (mk z9)))), (bB, .inl (cI, 26, .inl (fun z9 => nI (bt z9)))), (bS, .inl (cI, 26, .inl su)), (bN, .inl (cI, 26, .inl kv)), (bM, .inl (cI, 13, .inl (fun z9 => nI (mi z9))))] (fun (r : Int32) (u : Unit) => r = nI (dr_cnt (rf_g lo fr sx) P)) (fun (u : Unit) => [(aO, .inr (4, [.int (nI th), .int (nI P), .int (nI n), .ref bW, .ref bL, .ref bF, .ref bK, .int (bI pw), .int lf, .ref bB, .ref bS, .ref bN, .ref bM, .int (nI (dr_cnt (rf_g lo fr sx) P))])), (bW, .inl (cI, 676, .inl wd)), (bL, .inl (cB, 13, .inl (fun z9 => bI (lo z9)))), (bF, .inl (cB, 52, .inl (fun z9 => bI (fr z9)))), (bK, .inl (cB, 4, .inl (fun z9 => bI (mk z9)))), (bB, .inl (cI, 26, .inl (fun z9 => nI (bt z9)))), (bS, .inl (cI, 26, .inl su)), (bN, .inl (cI, 26, .inl kv)), (bM, .inl (cI, 13, .inl (fun z9 => nI ((rf_mi (rf_g lo fr sx) mi P) z9))))]) := by
  refine MG.ofW (cc := cX4_missing) (maxL := 3) (rt := .int) (by decide +kernel) rfl (Nat.le_of_ble_eq_true rfl) ?_
  intro p e s m args below meth c A ls Q H locs hQ hx hb hml hr hlk hts hown hK hP hD hS hA hl
  have hts : ∀ w ∈ TB, w.before args s = true := fun w h => hts w (List.mem_cons_of_mem _ h)
  have hown : s.vm.findClass RX4 = some m.cls := hown
  have hl : lv_has ls 3 [(0, .ref aO), (1, .int (nI sx))] := hl
  have hP : va_P (dC, dI) vwCl [(aO, .inr (4, [.int (nI th), .int (nI P), .int (nI n), .ref bW, .ref bL, .ref bF, .ref bK, .int (bI pw), .int lf, .ref bB, .ref bS, .ref bN, .ref bM, .int (nI mz)])), (bW, .inl (cI, 676, .inl wd)), (bL, .inl (cB, 13, .inl (fun z9 => bI (lo z9)))), (bF, .inl (cB, 52, .inl (fun z9 => bI (fr z9)))), (bK, .inl (cB, 4, .inl (fun z9 => bI (mk z9)))), (bB, .inl (cI, 26, .inl (fun z9 => nI (bt z9)))), (bS, .inl (cI, 26, .inl su)), (bN, .inl (cI, 26, .inl kv)), (bM, .inl (cI, 13, .inl (fun z9 => nI (mi z9))))] H := hP
  have hD : va_D A [(aO, .inr (4, [.int (nI th), .int (nI P), .int (nI n), .ref bW, .ref bL, .ref bF, .ref bK, .int (bI pw), .int lf, .ref bB, .ref bS, .ref bN, .ref bM, .int (nI mz)])), (bW, .inl (cI, 676, .inl wd)), (bL, .inl (cB, 13, .inl (fun z9 => bI (lo z9)))), (bF, .inl (cB, 52, .inl (fun z9 => bI (fr z9)))), (bK, .inl (cB, 4, .inl (fun z9 => bI (mk z9)))), (bB, .inl (cI, 26, .inl (fun z9 => nI (bt z9)))), (bS, .inl (cI, 26, .inl su)), (bN, .inl (cI, 26, .inl kv)), (bM, .inl (cI, 13, .inl (fun z9 => nI (mi z9))))] := hD
  have hp := hp5.le
  have hpp := dr_PP hp5
  have hpq := dr_PP2 hp5
  refine lv_aload_n hx hb dX4_missing_0 rfl (lv_at hl 0 rfl) ?_
  refine lv_iconst (v := nI 0) hx hb dX4_missing_1 (by decide) ?_
  refine va_put (D := (dC, dI)) (ci := 4) (v := .int (nI 0)) (ty := .int) (C := RX4) (T := TX4) (N := 14) hx hb hts inX4 tyX4 tyX4_ok nmX4 hown hK hP hD hS 0 rfl rfl 13 (by decide) (hts _ t_fX4_52) (fun _ h9 => h9) rfl (by decide +kernel) rfl rfl (Nat.le_of_ble_eq_true rfl) dX4_missing_2 (fun H locs hP hD hS => ?_)
  have hP : va_P (dC, dI) vwCl [(aO, .inr (4, [.int (nI th), .int (nI P), .int (nI n), .ref bW, .ref bL, .ref bF, .ref bK, .int (bI pw), .int lf, .ref bB, .ref bS, .ref bN, .ref bM, .int (nI 0)])), (bW, .inl (cI, 676, .inl wd)), (bL, .inl (cB, 13, .inl (fun z9 => bI (lo z9)))), (bF, .inl (cB, 52, .inl (fun z9 => bI (fr z9)))), (bK, .inl (cB, 4, .inl (fun z9 => bI (mk z9)))), (bB, .inl (cI, 26, .inl (fun z9 => nI (bt z9)))), (bS, .inl (cI, 26, .inl su)), (bN, .inl (cI, 26, .inl kv)), (bM, .inl (cI, 13, .inl (fun z9 => nI (mi z9))))] H := hP
  have hD : va_D A [(aO, .inr (4, [.int (nI th), .int (nI P), .int (nI n), .ref bW, .ref bL, .ref bF, .ref bK, .int (bI pw), .int lf, .ref bB, .ref bS, .ref bN, .ref bM, .int (nI 0)])), (bW, .inl (cI, 676, .inl wd)), (bL, .inl (cB, 13, .inl (fun z9 => bI (lo z9)))), (bF, .inl (cB, 52, .inl (fun z9 => bI (fr z9)))), (bK, .inl (cB, 4, .inl (fun z9 => bI (mk z9)))), (bB, .inl (cI, 26, .inl (fun z9 => nI (bt z9)))), (bS, .inl (cI, 26, .inl su)), (bN, .inl (cI, 26, .inl kv)), (bM, .inl (cI, 13, .inl (fun z9 => nI (mi z9))))] := hD
  refine lv_iconst (v := nI 0) hx hb dX4_missing_5 (by decide) ?_
  refine lv_istore_n hx hb dX4_missing_6 rfl hl (by decide) rfl (fun ls hl => ?_)
  have hl : lv_has ls 3 [(2, .int (nI 0)), (0, .ref aO), (1, .int (nI sx))] := hl
  have lp7 : ∀ (n9 : Nat) (i : Nat) (ls : Array Slot) (H : Heap) (locs : List Loc), P - i < n9 → (i ≤ P) → lv_has ls 3 [(2, .int (nI i)), (1, .int (nI sx)), (0, .ref aO)] → va_P (dC, dI) vwCl [(aO, .inr (4, [.int (nI th), .int (nI P), .int (nI n), .ref bW, .ref bL, .ref bF, .ref bK, .int (bI pw), .int lf, .ref bB, .ref bS, .ref bN, .ref bM, .int (nI (dr_cnt (rf_g lo fr sx) i))])), (bW, .inl (cI, 676, .inl wd)), (bL, .inl (cB, 13, .inl (fun z9 => bI (lo z9)))), (bF, .inl (cB, 52, .inl (fun z9 => bI (fr z9)))), (bK, .inl (cB, 4, .inl (fun z9 => bI (mk z9)))), (bB, .inl (cI, 26, .inl (fun z9 => nI (bt z9)))), (bS, .inl (cI, 26, .inl su)), (bN, .inl (cI, 26, .inl kv)), (bM, .inl (cI, 13, .inl (fun z9 => nI ((rf_mi (rf_g lo fr sx) mi i) z9))))] H → va_D A [(aO, .inr (4, [.int (nI th), .int (nI P), .int (nI n), .ref bW, .ref bL, .ref bF, .ref bK, .int (bI pw), .int lf, .ref bB, .ref bS, .ref bN, .ref bM, .int (nI (dr_cnt (rf_g lo fr sx) i))])), (bW, .inl (cI, 676, .inl wd)), (bL, .inl (cB, 13, .inl (fun z9 => bI (lo z9)))), (bF, .inl (cB, 52, .inl (fun z9 => bI (fr z9)))), (bK, .inl (cB, 4, .inl (fun z9 => bI (mk z9)))), (bB, .inl (cI, 26, .inl (fun z9 => nI (bt z9)))), (bS, .inl (cI, 26, .inl su)), (bN, .inl (cI, 26, .inl kv)), (bM, .inl (cI, 13, .inl (fun z9 => nI ((rf_mi (rf_g lo fr sx) mi i) z9))))] → va_S A s.heap H locs → W p l e rm_c_missing s m args below meth c H locs 0 0 Q (F0 m 7 ls []) := by
    intro n9
    induction n9 with
    | zero => intro i ls H locs hn9; omega
    | succ n9 ih7 =>
      intro i ls H locs hn9 hi hl hP hD hS
      refine lv_iload_n hx hb dX4_missing_7 rfl (lv_at hl 0 rfl) ?_
      refine lv_aload_n hx hb dX4_missing_8 rfl (lv_at hl 2 rfl) ?_
      refine va_get (D := (dC, dI)) (ci := 4) (v := .int (nI P)) (C := RX4) (T := TX4) (N := 14) hx hb hts inX4 hown hK hP 0 rfl rfl 1 (by decide) (hts _ t_fX4_43) (fun _ h9 => h9) rfl dX4_missing_9 ?_
      refine x_cge (tgt := 50) hx hb dX4_missing_12 (by decide) (by omega) (by omega) (fun h12 => ?_) (fun h12 => ?_)
      · -- 12t
        have hie12 : i = P := by omega
        try rw [hie12] at hl
        try rw [hie12] at hP
        try rw [hie12] at hD
        have hl : lv_has ls 3 [(2, .int (nI P)), (1, .int (nI sx)), (0, .ref aO)] := hl
        have hP : va_P (dC, dI) vwCl [(aO, .inr (4, [.int (nI th), .int (nI P), .int (nI n), .ref bW, .ref bL, .ref bF, .ref bK, .int (bI pw), .int lf, .ref bB, .ref bS, .ref bN, .ref bM, .int (nI (dr_cnt (rf_g lo fr sx) P))])), (bW, .inl (cI, 676, .inl wd)), (bL, .inl (cB, 13, .inl (fun z9 => bI (lo z9)))), (bF, .inl (cB, 52, .inl (fun z9 => bI (fr z9)))), (bK, .inl (cB, 4, .inl (fun z9 => bI (mk z9)))), (bB, .inl (cI, 26, .inl (fun z9 => nI (bt z9)))), (bS, .inl (cI, 26, .inl su)), (bN, .inl (cI, 26, .inl kv)), (bM, .inl (cI, 13, .inl (fun z9 => nI ((rf_mi (rf_g lo fr sx) mi P) z9))))] H := hP
        have hD : va_D A [(aO, .inr (4, [.int (nI th), .int (nI P), .int (nI n), .ref bW, .ref bL, .ref bF, .ref bK, .int (bI pw), .int lf, .ref bB, .ref bS, .ref bN, .ref bM, .int (nI (dr_cnt (rf_g lo fr sx) P))])), (bW, .inl (cI, 676, .inl wd)), (bL, .inl (cB, 13, .inl (fun z9 => bI (lo z9)))), (bF, .inl (cB, 52, .inl (fun z9 => bI (fr z9)))), (bK, .inl (cB, 4, .inl (fun z9 => bI (mk z9)))), (bB, .inl (cI, 26, .inl (fun z9 => nI (bt z9)))), (bS, .inl (cI, 26, .inl su)), (bN, .inl (cI, 26, .inl kv)), (bM, .inl (cI, 13, .inl (fun z9 => nI ((rf_mi (rf_g lo fr sx) mi P) z9))))] := hD
        refine lv_aload_n hx hb dX4_missing_50 rfl (lv_at hl 2 rfl) ?_
        refine va_get (D := (dC, dI)) (ci := 4) (v := .int (nI (dr_cnt (rf_g lo fr sx) P))) (C := RX4) (T := TX4) (N := 14) hx hb hts inX4 hown hK hP 0 rfl rfl 13 (by decide) (hts _ t_fX4_52) (fun _ h9 => h9) rfl dX4_missing_51 ?_
        exact x_iret (D := (dC, dI)) (cl := vwCl) (A := A) () hQ hx hb hr hlk hP hD hS dX4_missing_54 (by first | rfl | (simp [h12]; done) | (simp [h12]; omega))
      · -- 12f
        refine lv_aload_n hx hb dX4_missing_15 rfl (lv_at hl 2 rfl) ?_
        refine lv_iload_n hx hb dX4_missing_16 rfl (lv_at hl 0 rfl) ?_
        refine lv_iload_n hx hb dX4_missing_17 rfl (lv_at hl 1 rfl) ?_
        refine gV (wr := []) (pre := [(aO, .inr (4, [.int (nI th), .int (nI P), .int (nI n), .ref bW, .ref bL, .ref bF, .ref bK, .int (bI pw), .int lf, .ref bB, .ref bS, .ref bN, .ref bM, .int (nI (dr_cnt (rf_g lo fr sx) i))])), (bW, .inl (cI, 676, .inl wd)), (bL, .inl (cB, 13, .inl (fun z9 => bI (lo z9)))), (bF, .inl (cB, 52, .inl (fun z9 => bI (fr z9)))), (bK, .inl (cB, 4, .inl (fun z9 => bI (mk z9)))), (bB, .inl (cI, 26, .inl (fun z9 => nI (bt z9)))), (bS, .inl (cI, 26, .inl su)), (bN, .inl (cI, 26, .inl kv)), (bM, .inl (cI, 13, .inl (fun z9 => nI ((rf_mi (rf_g lo fr sx) mi i) z9))))]) (tl := []) (G := fun (u : Unit) => [(aO, .inr (4, [.int (nI th), .int (nI P), .int (nI n), .ref bW, .ref bL, .ref bF, .ref bK, .int (bI pw), .int lf, .ref bB, .ref bS, .ref bN, .ref bM, .int (nI (dr_cnt (rf_g lo fr sx) i))])), (bW, .inl (cI, 676, .inl wd)), (bL, .inl (cB, 13, .inl (fun z9 => bI (lo z9)))), (bF, .inl (cB, 52, .inl (fun z9 => bI (fr z9)))), (bK, .inl (cB, 4, .inl (fun z9 => bI (mk z9)))), (bB, .inl (cI, 26, .inl (fun z9 => nI (bt z9)))), (bS, .inl (cI, 26, .inl su)), (bN, .inl (cI, 26, .inl kv)), (bM, .inl (cI, 13, .inl (fun z9 => nI ((rf_mi (rf_g lo fr sx) mi i) z9))))]) (b := aO) (As := [.int (nI i), .int (nI sx)]) (rst := []) ⟨hx, hb, hml, hown, hts⟩ (c_isMiss l dC dI cI cB cQ cJ aO bW bL bF bK bB bS bN bM th P n pw lf (dr_cnt (rf_g lo fr sx) i) wd lo fr mk bt su kv (rf_mi (rf_g lo fr sx) mi i) i sx hp5 (by omega) (by omega) (by omega)) (cwV 2 hts (gdV t_mX4_55 t_inst_X4_isMissing t_sel_X4_isMissing t_ini_X4 t_code_X4_isMissing) rfl rfl rfl (by decide +kernel) ⟨Nat.le_of_ble_eq_true rfl, Nat.le_of_ble_eq_true rfl⟩) hK hP hD hS hA [0, 1, 2, 3, 4, 5, 6, 7, 8] [] [0, 1, 2, 3, 4, 5, 6, 7, 8] rfl (by decide) (fun _ => rfl) (by decide) (ci := 4) rfl rfl rfl rfl hl.1 rfl (Nat.le_of_ble_eq_true rfl) dX4_missing_18 ⟨Nat.zero_le _, Nat.zero_le _⟩ (fun r u H locs hu1 hP hD hS => ?_)
        have hr18 := hu1
        have hr18 : r = bI (rf_g lo fr sx i) := hr18
        subst hr18
        have hP : va_P (dC, dI) vwCl [(aO, .inr (4, [.int (nI th), .int (nI P), .int (nI n), .ref bW, .ref bL, .ref bF, .ref bK, .int (bI pw), .int lf, .ref bB, .ref bS, .ref bN, .ref bM, .int (nI (dr_cnt (rf_g lo fr sx) i))])), (bW, .inl (cI, 676, .inl wd)), (bL, .inl (cB, 13, .inl (fun z9 => bI (lo z9)))), (bF, .inl (cB, 52, .inl (fun z9 => bI (fr z9)))), (bK, .inl (cB, 4, .inl (fun z9 => bI (mk z9)))), (bB, .inl (cI, 26, .inl (fun z9 => nI (bt z9)))), (bS, .inl (cI, 26, .inl su)), (bN, .inl (cI, 26, .inl kv)), (bM, .inl (cI, 13, .inl (fun z9 => nI ((rf_mi (rf_g lo fr sx) mi i) z9))))] H := hP
        have hD : va_D A [(aO, .inr (4, [.int (nI th), .int (nI P), .int (nI n), .ref bW, .ref bL, .ref bF, .ref bK, .int (bI pw), .int lf, .ref bB, .ref bS, .ref bN, .ref bM, .int (nI (dr_cnt (rf_g lo fr sx) i))])), (bW, .inl (cI, 676, .inl wd)), (bL, .inl (cB, 13, .inl (fun z9 => bI (lo z9)))), (bF, .inl (cB, 52, .inl (fun z9 => bI (fr z9)))), (bK, .inl (cB, 4, .inl (fun z9 => bI (mk z9)))), (bB, .inl (cI, 26, .inl (fun z9 => nI (bt z9)))), (bS, .inl (cI, 26, .inl su)), (bN, .inl (cI, 26, .inl kv)), (bM, .inl (cI, 13, .inl (fun z9 => nI ((rf_mi (rf_g lo fr sx) mi i) z9))))] := hD
        refine x_ifF (tgt := 44) hx hb dX4_missing_21 (by decide) (fun h21 => ?_) (fun h21 => ?_)
        · -- 21t
          refine lv_iinc (v := nI (i + 1)) hx hb dX4_missing_44 hl (k := 0) rfl (x_inc _) (by decide) rfl (fun ls hl => ?_)
          have hl : lv_has ls 3 [(2, .int (nI (i + 1))), (1, .int (nI sx)), (0, .ref aO)] := hl
          refine lv_goto (tgt := 7) hx hb dX4_missing_47 (by decide) ?_
          have e2 : (dr_cnt (rf_g lo fr sx) (i + 1)) = (dr_cnt (rf_g lo fr sx) i) := by first | rfl | (simp [dr_cnt, rf_mi, h12, h21]; done) | (simp [dr_cnt, rf_mi, h12, h21]; omega)
          have e3 : (rf_mi (rf_g lo fr sx) mi (i + 1)) = (rf_mi (rf_g lo fr sx) mi i) := by first | rfl | (simp [dr_cnt, rf_mi, h12, h21]; done) | (simp [dr_cnt, rf_mi, h12, h21]; omega)
          exact ih7 (i + 1) ls H locs (by omega) (by omega) (lv_sub hl [0, 1, 2] rfl) (by rw [e2, e3]; exact hP) (by rw [e2, e3]; exact hD) hS
        · -- 21f
          have hcl := dr_cnt_le (g := rf_g lo fr sx) i
          refine lv_aload_n hx hb dX4_missing_24 rfl (lv_at hl 2 rfl) ?_
          refine va_get (D := (dC, dI)) (ci := 4) (v := .ref bM) (C := RX4) (T := TX4) (N := 14) hx hb hts inX4 hown hK hP 0 rfl rfl 12 (by decide) (hts _ t_fX4_40) (fun _ h9 => h9) rfl dX4_missing_25 ?_
          refine lv_aload_n hx hb dX4_missing_28 rfl (lv_at hl 2 rfl) ?_
          refine va_get (D := (dC, dI)) (ci := 4) (v := .int (nI (dr_cnt (rf_g lo fr sx) i))) (C := RX4) (T := TX4) (N := 14) hx hb hts inX4 hown hK hP 0 rfl rfl 13 (by decide) (hts _ t_fX4_52) (fun _ h9 => h9) rfl dX4_missing_29 ?_
          refine lv_iload_n hx hb dX4_missing_32 rfl (lv_at hl 0 rfl) ?_
          refine x_nast (g := rf_mi (rf_g lo fr sx) mi i) hx hb hK hP hD hS 8 0 rfl rfl dX4_missing_33 (by omega) (by omega) (fun H locs hP hD hS => ?_)
          have hP : va_P (dC, dI) vwCl [(aO, .inr (4, [.int (nI th), .int (nI P), .int (nI n), .ref bW, .ref bL, .ref bF, .ref bK, .int (bI pw), .int lf, .ref bB, .ref bS, .ref bN, .ref bM, .int (nI (dr_cnt (rf_g lo fr sx) i))])), (bW, .inl (cI, 676, .inl wd)), (bL, .inl (cB, 13, .inl (fun z9 => bI (lo z9)))), (bF, .inl (cB, 52, .inl (fun z9 => bI (fr z9)))), (bK, .inl (cB, 4, .inl (fun z9 => bI (mk z9)))), (bB, .inl (cI, 26, .inl (fun z9 => nI (bt z9)))), (bS, .inl (cI, 26, .inl su)), (bN, .inl (cI, 26, .inl kv)), (bM, .inl (cI, 13, .inl (fun z9 => nI ((va_up (rf_mi (rf_g lo fr sx) mi i) (dr_cnt (rf_g lo fr sx) i) i) z9))))] H := hP
          have hD : va_D A [(aO, .inr (4, [.int (nI th), .int (nI P), .int (nI n), .ref bW, .ref bL, .ref bF, .ref bK, .int (bI pw), .int lf, .ref bB, .ref bS, .ref bN, .ref bM, .int (nI (dr_cnt (rf_g lo fr sx) i))])), (bW, .inl (cI, 676, .inl wd)), (bL, .inl (cB, 13, .inl (fun z9 => bI (lo z9)))), (bF, .inl (cB, 52, .inl (fun z9 => bI (fr z9)))), (bK, .inl (cB, 4, .inl (fun z9 => bI (mk z9)))), (bB, .inl (cI, 26, .inl (fun z9 => nI (bt z9)))), (bS, .inl (cI, 26, .inl su)), (bN, .inl (cI, 26, .inl kv)), (bM, .inl (cI, 13, .inl (fun z9 => nI ((va_up (rf_mi (rf_g lo fr sx) mi i) (dr_cnt (rf_g lo fr sx) i) i) z9))))] := hD
          refine lv_aload_n hx hb dX4_missing_34 rfl (lv_at hl 2 rfl) ?_
          refine lv_dup hx hb dX4_missing_35 rfl ?_
          refine va_get (D := (dC, dI)) (ci := 4) (v := .int (nI (dr_cnt (rf_g lo fr sx) i))) (C := RX4) (T := TX4) (N := 14) hx hb hts inX4 hown hK hP 0 rfl rfl 13 (by decide) (hts _ t_fX4_52) (fun _ h9 => h9) rfl dX4_missing_36 ?_
          refine lv_iconst (v := nI 1) hx hb dX4_missing_39 (by decide) ?_
          refine x_add hx hb dX4_missing_40 ?_
          refine va_put (D := (dC, dI)) (ci := 4) (v := .int (nI ((dr_cnt (rf_g lo fr sx) i) + 1))) (ty := .int) (C := RX4) (T := TX4) (N := 14) hx hb hts inX4 tyX4 tyX4_ok nmX4 hown hK hP hD hS 0 rfl rfl 13 (by decide) (hts _ t_fX4_52) (fun _ h9 => h9) rfl (by decide +kernel) rfl rfl (Nat.le_of_ble_eq_true rfl) dX4_missing_41 (fun H locs hP hD hS => ?_)
          have hP : va_P (dC, dI) vwCl [(aO, .inr (4, [.int (nI th), .int (nI P), .int (nI n), .ref bW, .ref bL, .ref bF, .ref bK, .int (bI pw), .int lf, .ref bB, .ref bS, .ref bN, .ref bM, .int (nI ((dr_cnt (rf_g lo fr sx) i) + 1))])), (bW, .inl (cI, 676, .inl wd)), (bL, .inl (cB, 13, .inl (fun z9 => bI (lo z9)))), (bF, .inl (cB, 52, .inl (fun z9 => bI (fr z9)))), (bK, .inl (cB, 4, .inl (fun z9 => bI (mk z9)))), (bB, .inl (cI, 26, .inl (fun z9 => nI (bt z9)))), (bS, .inl (cI, 26, .inl su)), (bN, .inl (cI, 26, .inl kv)), (bM, .inl (cI, 13, .inl (fun z9 => nI ((va_up (rf_mi (rf_g lo fr sx) mi i) (dr_cnt (rf_g lo fr sx) i) i) z9))))] H := hP
          have hD : va_D A [(aO, .inr (4, [.int (nI th), .int (nI P), .int (nI n), .ref bW, .ref bL, .ref bF, .ref bK, .int (bI pw), .int lf, .ref bB, .ref bS, .ref bN, .ref bM, .int (nI ((dr_cnt (rf_g lo fr sx) i) + 1))])), (bW, .inl (cI, 676, .inl wd)), (bL, .inl (cB, 13, .inl (fun z9 => bI (lo z9)))), (bF, .inl (cB, 52, .inl (fun z9 => bI (fr z9)))), (bK, .inl (cB, 4, .inl (fun z9 => bI (mk z9)))), (bB, .inl (cI, 26, .inl (fun z9 => nI (bt z9)))), (bS, .inl (cI, 26, .inl su)), (bN, .inl (cI, 26, .inl kv)), (bM, .inl (cI, 13, .inl (fun z9 => nI ((va_up (rf_mi (rf_g lo fr sx) mi i) (dr_cnt (rf_g lo fr sx) i) i) z9))))] := hD
          refine lv_iinc (v := nI (i + 1)) hx hb dX4_missing_44 hl (k := 0) rfl (x_inc _) (by decide) rfl (fun ls hl => ?_)
          have hl : lv_has ls 3 [(2, .int (nI (i + 1))), (1, .int (nI sx)), (0, .ref aO)] := hl
          refine lv_goto (tgt := 7) hx hb dX4_missing_47 (by decide) ?_
          have e4 : (dr_cnt (rf_g lo fr sx) (i + 1)) = ((dr_cnt (rf_g lo fr sx) i) + 1) := by first | rfl | (simp [dr_cnt, rf_mi, h12, h21]; done) | (simp [dr_cnt, rf_mi, h12, h21]; omega)
          have e5 : (rf_mi (rf_g lo fr sx) mi (i + 1)) = (va_up (rf_mi (rf_g lo fr sx) mi i) (dr_cnt (rf_g lo fr sx) i) i) := by first | rfl | (simp [dr_cnt, rf_mi, h12, h21]; done) | (simp [dr_cnt, rf_mi, h12, h21]; omega)
          exact ih7 (i + 1) ls H locs (by omega) (by omega) (lv_sub hl [0, 1, 2] rfl) (by rw [e4, e5]; exact hP) (by rw [e4, e5]; exact hD) hS
  have e6 : (dr_cnt (rf_g lo fr sx) 0) = 0 := by first | rfl | (simp [dr_cnt, rf_mi]; done) | (simp [dr_cnt, rf_mi]; omega)
  have e7 : (rf_mi (rf_g lo fr sx) mi 0) = mi := by first | rfl | (simp [dr_cnt, rf_mi]; done) | (simp [dr_cnt, rf_mi]; omega)
  exact lp7 (P - 0 + 1) 0 ls H locs (by omega) (by omega) (lv_sub hl [0, 2, 1] rfl) (by rw [e6, e7]; exact hP) (by rw [e6, e7]; exact hD) hS

abbrev rm_c_partner : Room := { frames := 0, cells := 0, slots := 0, locals := 0 }
set_option maxHeartbeats 4000000 in
set_option maxRecDepth 100000 in
theorem c_partner (l : Launch) (dC : Nat → ClassId) (dI : Nat → Nat → Nat) (cI cB cQ cJ : ClassId) (aO : Nat) (bW : Nat) (bL : Nat) (bF : Nat) (bK : Nat) (bB : Nat) (bS : Nat) (bN : Nat) (bM : Nat) (th : Nat) (P : Nat) (n : Nat) (pw : Bool) (lf : Int32) (mz : Nat) (wd : Nat → Int32) (lo : Nat → Bool) (fr : Nat → Bool) (mk : Nat → Bool) (bt : Nat → Nat) (su : Nat → Int32) (kv : Nat → Int32) (mi : Nat → Nat) (o : Nat) (k : Nat) (sec : Bool) (hp5 : dr_P P) (hn : n < 5) (ho : o < P) (hk : k < P - 2) : MG l yX4_partner (Cond.code yX4_partner cX4_partner 4 (some .int) :: TB) rm_c_partner (dC, dI) vwCl (TY cI cB cQ cJ) [.ref aO, .int (nI o), .int (nI k), .int (bI sec)] [(aO, .inr (4, [.int (nI th), .int (nI P), .int (nI n), .ref bW, .ref bL, .ref bF, .ref bK, .int (bI pw), .int lf, .ref bB, .ref bS, .ref bN, .ref bM, .int (nI mz)])), (bW, .inl (cI, 676, .inl wd)), (bL, .inl (cB, 13, .inl (fun z9 => bI (lo z9)))), (bF, .inl (cB, 52, .inl (fun z9 => bI (fr z9)))), (bK, .inl (cB, 4, .inl (fun z9 => bI (mk z9)))), (bB, .inl (cI, 26, .inl (fun z9 => nI (bt z9)))), (bS, .inl (cI, 26, .inl su)), (bN, .inl (cI, 26, .inl kv)), (bM, .inl (cI, 13, .inl (fun z9 => nI (mi z9))))] (fun (r : Int32) (u : Unit) => r = nI (dr_dd P o k (rf_r P sec))) (fun (u : Unit) => [(aO, .inr (4, [.int (nI th), .int (nI P), .int (nI n), .ref bW, .ref bL, .ref bF, .ref bK, .int (bI pw), .int lf, .ref bB, .ref bS, .ref bN, .ref bM, .int (nI mz)])), (bW, .inl (cI, 676, .inl wd)), (bL, .inl (cB, 13, .inl (fun z9 => bI (lo z9)))), (bF, .inl (cB, 52, .inl (fun z9 => bI (fr z9)))), (bK, .inl (cB, 4, .inl (fun z9 => bI (mk z9)))), (bB, .inl (cI, 26, .inl (fun z9 => nI (bt z9)))), (bS, .inl (cI, 26, .inl su)), (bN, .inl (cI, 26, .inl kv)), (bM, .inl (cI, 13, .inl (fun z9 => nI (mi z9))))]) := by
  refine MG.ofW (cc := cX4_partner) (maxL := 4) (rt := .int) (by decide +kernel) rfl (Nat.le_of_ble_eq_true rfl) ?_
  intro p e s m args below meth c A ls Q H locs hQ hx hb hml hr hlk hts hown hK hP hD hS hA hl
  have hts : ∀ w ∈ TB, w.before args s = true := fun w h => hts w (List.mem_cons_of_mem _ h)
  have hown : s.vm.findClass RX4 = some m.cls := hown
  have hl : lv_has ls 4 [(0, .ref aO), (1, .int (nI o)), (2, .int (nI k)), (3, .int (bI sec))] := hl
  have hP : va_P (dC, dI) vwCl [(aO, .inr (4, [.int (nI th), .int (nI P), .int (nI n), .ref bW, .ref bL, .ref bF, .ref bK, .int (bI pw), .int lf, .ref bB, .ref bS, .ref bN, .ref bM, .int (nI mz)])), (bW, .inl (cI, 676, .inl wd)), (bL, .inl (cB, 13, .inl (fun z9 => bI (lo z9)))), (bF, .inl (cB, 52, .inl (fun z9 => bI (fr z9)))), (bK, .inl (cB, 4, .inl (fun z9 => bI (mk z9)))), (bB, .inl (cI, 26, .inl (fun z9 => nI (bt z9)))), (bS, .inl (cI, 26, .inl su)), (bN, .inl (cI, 26, .inl kv)), (bM, .inl (cI, 13, .inl (fun z9 => nI (mi z9))))] H := hP
  have hD : va_D A [(aO, .inr (4, [.int (nI th), .int (nI P), .int (nI n), .ref bW, .ref bL, .ref bF, .ref bK, .int (bI pw), .int lf, .ref bB, .ref bS, .ref bN, .ref bM, .int (nI mz)])), (bW, .inl (cI, 676, .inl wd)), (bL, .inl (cB, 13, .inl (fun z9 => bI (lo z9)))), (bF, .inl (cB, 52, .inl (fun z9 => bI (fr z9)))), (bK, .inl (cB, 4, .inl (fun z9 => bI (mk z9)))), (bB, .inl (cI, 26, .inl (fun z9 => nI (bt z9)))), (bS, .inl (cI, 26, .inl su)), (bN, .inl (cI, 26, .inl kv)), (bM, .inl (cI, 13, .inl (fun z9 => nI (mi z9))))] := hD
  have hp := hp5.le
  have hpp := dr_PP hp5
  have hpq := dr_PP2 hp5
  refine lv_iload_n hx hb dX4_partner_0 rfl (lv_at hl 3 rfl) ?_
  refine x_ifF (tgt := 24) hx hb dX4_partner_1 (by decide) (fun h1 => ?_) (fun h1 => ?_)
  · -- 1t
    refine lv_iload_n hx hb dX4_partner_24 rfl (lv_at hl 1 rfl) ?_
    refine lv_iload_n hx hb dX4_partner_25 rfl (lv_at hl 2 rfl) ?_
    refine x_add hx hb dX4_partner_26 ?_
    refine lv_iconst (v := nI 2) hx hb dX4_partner_27 (by decide) ?_
    refine x_add hx hb dX4_partner_28 ?_
    refine lv_aload_n hx hb dX4_partner_29 rfl (lv_at hl 0 rfl) ?_
    refine va_get (D := (dC, dI)) (ci := 4) (v := .int (nI P)) (C := RX4) (T := TX4) (N := 14) hx hb hts inX4 hown hK hP 0 rfl rfl 1 (by decide) (hts _ t_fX4_43) (fun _ h9 => h9) rfl dX4_partner_30 ?_
    refine x_rem hx hb dX4_partner_33 (by omega) (by omega) (by omega) ?_
    exact x_iret (D := (dC, dI)) (cl := vwCl) (A := A) () hQ hx hb hr hlk hP hD hS dX4_partner_34 (by first | (rw [rf_dd2 hp5 hk, rf_r, if_pos h1]; done) | (rw [rf_r, if_neg (by rw [h1]; decide), dr_dd, if_pos rfl]; done))
  · -- 1f
    refine lv_iload_n hx hb dX4_partner_4 rfl (lv_at hl 1 rfl) ?_
    refine lv_iload_n hx hb dX4_partner_5 rfl (lv_at hl 2 rfl) ?_
    refine lv_isub hx hb dX4_partner_6 ?_
    refine lv_iconst (v := nI 2) hx hb dX4_partner_7 (by decide) ?_
    refine lv_isub hx hb dX4_partner_8 ?_
    refine lv_iconst (v := nI 2) hx hb dX4_partner_9 (by decide) ?_
    refine lv_aload_n hx hb dX4_partner_10 rfl (lv_at hl 0 rfl) ?_
    refine va_get (D := (dC, dI)) (ci := 4) (v := .int (nI P)) (C := RX4) (T := TX4) (N := 14) hx hb hts inX4 hown hK hP 0 rfl rfl 1 (by decide) (hts _ t_fX4_43) (fun _ h9 => h9) rfl dX4_partner_11 ?_
    refine x_mul hx hb dX4_partner_14 ?_
    refine lv_iadd hx hb dX4_partner_15 ?_
    refine x_top (show (((nI o) - (nI k)) - (nI 2)) + (nI (2 * P)) = nI (o + 2 * P - (k + 2)) from (rf_pt_at hp5 ho (by omega))) ?_
    refine lv_aload_n hx hb dX4_partner_16 rfl (lv_at hl 0 rfl) ?_
    refine va_get (D := (dC, dI)) (ci := 4) (v := .int (nI P)) (C := RX4) (T := TX4) (N := 14) hx hb hts inX4 hown hK hP 0 rfl rfl 1 (by decide) (hts _ t_fX4_43) (fun _ h9 => h9) rfl dX4_partner_17 ?_
    refine x_rem hx hb dX4_partner_20 (by omega) (by omega) (by omega) ?_
    refine lv_goto (tgt := 34) hx hb dX4_partner_21 (by decide) ?_
    exact x_iret (D := (dC, dI)) (cl := vwCl) (A := A) () hQ hx hb hr hlk hP hD hS dX4_partner_34 (by first | (rw [rf_dd2 hp5 hk, rf_r, if_pos h1]; done) | (rw [rf_r, if_neg (by rw [h1]; decide), dr_dd, if_pos rfl]; done))

abbrev rm_c_puts : Room := { frames := 1, cells := 0, slots := 0, locals := 22 }
set_option maxHeartbeats 4000000 in
set_option maxRecDepth 100000 in
theorem c_puts (l : Launch) (dC : Nat → ClassId) (dI : Nat → Nat → Nat) (cI cB cQ cJ : ClassId) (aO : Nat) (bW : Nat) (bL : Nat) (bF : Nat) (bK : Nat) (bB : Nat) (bS : Nat) (bN : Nat) (bM : Nat) (th : Nat) (P : Nat) (n : Nat) (pw : Bool) (lf : Int32) (mz : Nat) (wd : Nat → Int32) (lo : Nat → Bool) (fr : Nat → Bool) (mk : Nat → Bool) (bt : Nat → Nat) (su : Nat → Int32) (kv : Nat → Int32) (mi : Nat → Nat) (sx : Nat) (d : Nat) (k : Nat) (v : Int32) (hp5 : dr_P P) (hn : n < 5) (hs : sx < n) (hd : d < P) (hk : k < P) : MG l yX4_puts (Cond.code yX4_puts cX4_puts 5 (some .boolean) :: TB) rm_c_puts (dC, dI) vwCl (TY cI cB cQ cJ) [.ref aO, .int (nI sx), .int (nI d), .int (nI k), .int v] [(aO, .inr (4, [.int (nI th), .int (nI P), .int (nI n), .ref bW, .ref bL, .ref bF, .ref bK, .int (bI true), .int lf, .ref bB, .ref bS, .ref bN, .ref bM, .int (nI mz)])), (bW, .inl (cI, 676, .inl wd)), (bL, .inl (cB, 13, .inl (fun z9 => bI (lo z9)))), (bF, .inl (cB, 52, .inl (fun z9 => bI (fr z9)))), (bK, .inl (cB, 4, .inl (fun z9 => bI (mk z9)))), (bB, .inl (cI, 26, .inl (fun z9 => nI (bt z9)))), (bS, .inl (cI, 26, .inl su)), (bN, .inl (cI, 26, .inl kv)), (bM, .inl (cI, 13, .inl (fun z9 => nI (mi z9))))] (fun (r : Int32) (u : Unit) => r = bI ((rf_put wd lf (169 * sx + 13 * d + k) v).1)) (fun (u : Unit) => [(aO, .inr (4, [.int (nI th), .int (nI P), .int (nI n), .ref bW, .ref bL, .ref bF, .ref bK, .int (bI ((rf_put wd lf (169 * sx + 13 * d + k) v).2.2.1)), .int ((rf_put wd lf (169 * sx + 13 * d + k) v).2.2.2), .ref bB, .ref bS, .ref bN, .ref bM, .int (nI mz)])), (bW, .inl (cI, 676, .inl ((rf_put wd lf (169 * sx + 13 * d + k) v).2.1))), (bL, .inl (cB, 13, .inl (fun z9 => bI (lo z9)))), (bF, .inl (cB, 52, .inl (fun z9 => bI (fr z9)))), (bK, .inl (cB, 4, .inl (fun z9 => bI (mk z9)))), (bB, .inl (cI, 26, .inl (fun z9 => nI (bt z9)))), (bS, .inl (cI, 26, .inl su)), (bN, .inl (cI, 26, .inl kv)), (bM, .inl (cI, 13, .inl (fun z9 => nI (mi z9))))]) := by
  refine MG.ofW (cc := cX4_puts) (maxL := 5) (rt := .boolean) (by decide +kernel) rfl (Nat.le_of_ble_eq_true rfl) ?_
  intro p e s m args below meth c A ls Q H locs hQ hx hb hml hr hlk hts hown hK hP hD hS hA hl
  have hts : ∀ w ∈ TB, w.before args s = true := fun w h => hts w (List.mem_cons_of_mem _ h)
  have hown : s.vm.findClass RX4 = some m.cls := hown
  have hl : lv_has ls 5 [(0, .ref aO), (1, .int (nI sx)), (2, .int (nI d)), (3, .int (nI k)), (4, .int v)] := hl
  have hP : va_P (dC, dI) vwCl [(aO, .inr (4, [.int (nI th), .int (nI P), .int (nI n), .ref bW, .ref bL, .ref bF, .ref bK, .int (bI true), .int lf, .ref bB, .ref bS, .ref bN, .ref bM, .int (nI mz)])), (bW, .inl (cI, 676, .inl wd)), (bL, .inl (cB, 13, .inl (fun z9 => bI (lo z9)))), (bF, .inl (cB, 52, .inl (fun z9 => bI (fr z9)))), (bK, .inl (cB, 4, .inl (fun z9 => bI (mk z9)))), (bB, .inl (cI, 26, .inl (fun z9 => nI (bt z9)))), (bS, .inl (cI, 26, .inl su)), (bN, .inl (cI, 26, .inl kv)), (bM, .inl (cI, 13, .inl (fun z9 => nI (mi z9))))] H := hP
  have hD : va_D A [(aO, .inr (4, [.int (nI th), .int (nI P), .int (nI n), .ref bW, .ref bL, .ref bF, .ref bK, .int (bI true), .int lf, .ref bB, .ref bS, .ref bN, .ref bM, .int (nI mz)])), (bW, .inl (cI, 676, .inl wd)), (bL, .inl (cB, 13, .inl (fun z9 => bI (lo z9)))), (bF, .inl (cB, 52, .inl (fun z9 => bI (fr z9)))), (bK, .inl (cB, 4, .inl (fun z9 => bI (mk z9)))), (bB, .inl (cI, 26, .inl (fun z9 => nI (bt z9)))), (bS, .inl (cI, 26, .inl su)), (bN, .inl (cI, 26, .inl kv)), (bM, .inl (cI, 13, .inl (fun z9 => nI (mi z9))))] := hD
  have hp := hp5.le
  have hpp := dr_PP hp5
  have hpq := dr_PP2 hp5
  refine lv_aload_n hx hb dX4_puts_0 rfl (lv_at hl 0 rfl) ?_
  refine va_get (D := (dC, dI)) (ci := 4) (v := .int lf) (C := RX4) (T := TX4) (N := 14) hx hb hts inX4 hown hK hP 0 rfl rfl 8 (by decide) (hts _ t_fX4_27) (fun _ h9 => h9) rfl dX4_puts_1 ?_
  refine lv_if_ne (tgt := 17) hx hb dX4_puts_4 (by decide) (fun h4 => ?_) (fun h4 => ?_)
  · -- 4t
    refine lv_aload_n hx hb dX4_puts_17 rfl (lv_at hl 0 rfl) ?_
    refine va_get (D := (dC, dI)) (ci := 4) (v := .int (bI true)) (C := RX4) (T := TX4) (N := 14) hx hb hts inX4 hown hK hP 0 rfl rfl 7 (by decide) (hts _ t_fX4_23) (fun _ h9 => h9) rfl dX4_puts_18 ?_
    refine x_ifT (tgt := 26) hx hb dX4_puts_21 (by decide) (fun _ => ?_) (fun z9 => by cases z9)
    refine lv_aload_n hx hb dX4_puts_26 rfl (lv_at hl 0 rfl) ?_
    refine lv_dup hx hb dX4_puts_27 rfl ?_
    refine va_get (D := (dC, dI)) (ci := 4) (v := .int lf) (C := RX4) (T := TX4) (N := 14) hx hb hts inX4 hown hK hP 0 rfl rfl 8 (by decide) (hts _ t_fX4_27) (fun _ h9 => h9) rfl dX4_puts_28 ?_
    refine lv_aload_n hx hb dX4_puts_31 rfl (lv_at hl 0 rfl) ?_
    refine va_get (D := (dC, dI)) (ci := 4) (v := .int lf) (C := RX4) (T := TX4) (N := 14) hx hb hts inX4 hown hK hP 0 rfl rfl 8 (by decide) (hts _ t_fX4_27) (fun _ h9 => h9) rfl dX4_puts_32 ?_
    refine lv_if_le (tgt := 42) hx hb dX4_puts_35 (by decide) (fun h35 => ?_) (fun h35 => ?_)
    · -- 35t
      have h35a : ¬ 0 < lf := Int32.not_lt.mpr h35
      refine lv_iconst (v := 0) hx hb dX4_puts_42 (by decide) ?_
      refine lv_isub hx hb dX4_puts_43 ?_
      refine va_put (D := (dC, dI)) (ci := 4) (v := .int (lf - 0)) (ty := .int) (C := RX4) (T := TX4) (N := 14) hx hb hts inX4 tyX4 tyX4_ok nmX4 hown hK hP hD hS 0 rfl rfl 8 (by decide) (hts _ t_fX4_27) (fun _ h9 => h9) rfl (by decide +kernel) rfl rfl (Nat.le_of_ble_eq_true rfl) dX4_puts_44 (fun H locs hP hD hS => ?_)
      have hP : va_P (dC, dI) vwCl [(aO, .inr (4, [.int (nI th), .int (nI P), .int (nI n), .ref bW, .ref bL, .ref bF, .ref bK, .int (bI true), .int (lf - 0), .ref bB, .ref bS, .ref bN, .ref bM, .int (nI mz)])), (bW, .inl (cI, 676, .inl wd)), (bL, .inl (cB, 13, .inl (fun z9 => bI (lo z9)))), (bF, .inl (cB, 52, .inl (fun z9 => bI (fr z9)))), (bK, .inl (cB, 4, .inl (fun z9 => bI (mk z9)))), (bB, .inl (cI, 26, .inl (fun z9 => nI (bt z9)))), (bS, .inl (cI, 26, .inl su)), (bN, .inl (cI, 26, .inl kv)), (bM, .inl (cI, 13, .inl (fun z9 => nI (mi z9))))] H := hP
      have hD : va_D A [(aO, .inr (4, [.int (nI th), .int (nI P), .int (nI n), .ref bW, .ref bL, .ref bF, .ref bK, .int (bI true), .int (lf - 0), .ref bB, .ref bS, .ref bN, .ref bM, .int (nI mz)])), (bW, .inl (cI, 676, .inl wd)), (bL, .inl (cB, 13, .inl (fun z9 => bI (lo z9)))), (bF, .inl (cB, 52, .inl (fun z9 => bI (fr z9)))), (bK, .inl (cB, 4, .inl (fun z9 => bI (mk z9)))), (bB, .inl (cI, 26, .inl (fun z9 => nI (bt z9)))), (bS, .inl (cI, 26, .inl su)), (bN, .inl (cI, 26, .inl kv)), (bM, .inl (cI, 13, .inl (fun z9 => nI (mi z9))))] := hD
      refine lv_aload_n hx hb dX4_puts_47 rfl (lv_at hl 0 rfl) ?_
      refine va_get (D := (dC, dI)) (ci := 4) (v := .ref bW) (C := RX4) (T := TX4) (N := 14) hx hb hts inX4 hown hK hP 0 rfl rfl 3 (by decide) (hts _ t_fX4_7) (fun _ h9 => h9) rfl dX4_puts_48 ?_
      refine lv_iload_n hx hb dX4_puts_51 rfl (lv_at hl 1 rfl) ?_
      refine lv_iload_n hx hb dX4_puts_52 rfl (lv_at hl 2 rfl) ?_
      refine lv_iload_n hx hb dX4_puts_53 rfl (lv_at hl 3 rfl) ?_
      refine gS (wr := [(aO, .inr (4, [.int (nI th), .int (nI P), .int (nI n), .ref bW, .ref bL, .ref bF, .ref bK, .int (bI true), .int (lf - 0), .ref bB, .ref bS, .ref bN, .ref bM, .int (nI mz)])), (bW, .inl (cI, 676, .inl wd)), (bL, .inl (cB, 13, .inl (fun z9 => bI (lo z9)))), (bF, .inl (cB, 52, .inl (fun z9 => bI (fr z9)))), (bK, .inl (cB, 4, .inl (fun z9 => bI (mk z9)))), (bB, .inl (cI, 26, .inl (fun z9 => nI (bt z9)))), (bS, .inl (cI, 26, .inl su)), (bN, .inl (cI, 26, .inl kv)), (bM, .inl (cI, 13, .inl (fun z9 => nI (mi z9))))]) (pre := [(aO, .inr (4, [.int (nI th), .int (nI P), .int (nI n), .ref bW, .ref bL, .ref bF, .ref bK, .int (bI true), .int (lf - 0), .ref bB, .ref bS, .ref bN, .ref bM, .int (nI mz)])), (bW, .inl (cI, 676, .inl wd)), (bL, .inl (cB, 13, .inl (fun z9 => bI (lo z9)))), (bF, .inl (cB, 52, .inl (fun z9 => bI (fr z9)))), (bK, .inl (cB, 4, .inl (fun z9 => bI (mk z9)))), (bB, .inl (cI, 26, .inl (fun z9 => nI (bt z9)))), (bS, .inl (cI, 26, .inl su)), (bN, .inl (cI, 26, .inl kv)), (bM, .inl (cI, 13, .inl (fun z9 => nI (mi z9))))]) (tl := []) (G := fun (u : Unit) => [(aO, .inr (4, [.int (nI th), .int (nI P), .int (nI n), .ref bW, .ref bL, .ref bF, .ref bK, .int (bI true), .int (lf - 0), .ref bB, .ref bS, .ref bN, .ref bM, .int (nI mz)])), (bW, .inl (cI, 676, .inl wd)), (bL, .inl (cB, 13, .inl (fun z9 => bI (lo z9)))), (bF, .inl (cB, 52, .inl (fun z9 => bI (fr z9)))), (bK, .inl (cB, 4, .inl (fun z9 => bI (mk z9)))), (bB, .inl (cI, 26, .inl (fun z9 => nI (bt z9)))), (bS, .inl (cI, 26, .inl su)), (bN, .inl (cI, 26, .inl kv)), (bM, .inl (cI, 13, .inl (fun z9 => nI (mi z9))))]) (As := [.int (nI sx), .int (nI d), .int (nI k)]) (rst := [.ref bW]) ⟨hx, hb, hml, hown, hts⟩ (c_at l dC dI cI cB cQ cJ sx d k ) (va_cwS 3 hts (gdS t_mX4_59 t_stat_X4_at t_ini_X4 t_code_X4_at) rfl rfl rfl (by decide +kernel) ⟨Nat.le_of_ble_eq_true rfl, Nat.le_of_ble_eq_true rfl⟩) hK hP hD hS hA [] [0, 1, 2, 3, 4, 5, 6, 7, 8] [0, 1, 2, 3, 4, 5, 6, 7, 8] rfl (by decide) (fun _ => rfl) (by decide) rfl hl.1 rfl (Nat.le_of_ble_eq_true rfl) dX4_puts_54 ⟨Nat.zero_le _, Nat.zero_le _⟩ (fun r u H locs hu1 hP hD hS => ?_)
      have hr54 := hu1
      have hr54 : r = nI (169 * sx + 13 * d + k) := hr54
      subst hr54
      have hP : va_P (dC, dI) vwCl [(aO, .inr (4, [.int (nI th), .int (nI P), .int (nI n), .ref bW, .ref bL, .ref bF, .ref bK, .int (bI true), .int (lf - 0), .ref bB, .ref bS, .ref bN, .ref bM, .int (nI mz)])), (bW, .inl (cI, 676, .inl wd)), (bL, .inl (cB, 13, .inl (fun z9 => bI (lo z9)))), (bF, .inl (cB, 52, .inl (fun z9 => bI (fr z9)))), (bK, .inl (cB, 4, .inl (fun z9 => bI (mk z9)))), (bB, .inl (cI, 26, .inl (fun z9 => nI (bt z9)))), (bS, .inl (cI, 26, .inl su)), (bN, .inl (cI, 26, .inl kv)), (bM, .inl (cI, 13, .inl (fun z9 => nI (mi z9))))] H := hP
      have hD : va_D A [(aO, .inr (4, [.int (nI th), .int (nI P), .int (nI n), .ref bW, .ref bL, .ref bF, .ref bK, .int (bI true), .int (lf - 0), .ref bB, .ref bS, .ref bN, .ref bM, .int (nI mz)])), (bW, .inl (cI, 676, .inl wd)), (bL, .inl (cB, 13, .inl (fun z9 => bI (lo z9)))), (bF, .inl (cB, 52, .inl (fun z9 => bI (fr z9)))), (bK, .inl (cB, 4, .inl (fun z9 => bI (mk z9)))), (bB, .inl (cI, 26, .inl (fun z9 => nI (bt z9)))), (bS, .inl (cI, 26, .inl su)), (bN, .inl (cI, 26, .inl kv)), (bM, .inl (cI, 13, .inl (fun z9 => nI (mi z9))))] := hD
      refine lv_iload hx hb dX4_puts_57 (lv_at hl 4 rfl) ?_
      refine x_iast (f := wd) hx hb hK hP hD hS 1 0 rfl rfl dX4_puts_59 (by omega) (by omega) (fun H locs hP hD hS => ?_)
      have hP : va_P (dC, dI) vwCl [(aO, .inr (4, [.int (nI th), .int (nI P), .int (nI n), .ref bW, .ref bL, .ref bF, .ref bK, .int (bI true), .int (lf - 0), .ref bB, .ref bS, .ref bN, .ref bM, .int (nI mz)])), (bW, .inl (cI, 676, .inl (va_up wd (169 * sx + 13 * d + k) v))), (bL, .inl (cB, 13, .inl (fun z9 => bI (lo z9)))), (bF, .inl (cB, 52, .inl (fun z9 => bI (fr z9)))), (bK, .inl (cB, 4, .inl (fun z9 => bI (mk z9)))), (bB, .inl (cI, 26, .inl (fun z9 => nI (bt z9)))), (bS, .inl (cI, 26, .inl su)), (bN, .inl (cI, 26, .inl kv)), (bM, .inl (cI, 13, .inl (fun z9 => nI (mi z9))))] H := hP
      have hD : va_D A [(aO, .inr (4, [.int (nI th), .int (nI P), .int (nI n), .ref bW, .ref bL, .ref bF, .ref bK, .int (bI true), .int (lf - 0), .ref bB, .ref bS, .ref bN, .ref bM, .int (nI mz)])), (bW, .inl (cI, 676, .inl (va_up wd (169 * sx + 13 * d + k) v))), (bL, .inl (cB, 13, .inl (fun z9 => bI (lo z9)))), (bF, .inl (cB, 52, .inl (fun z9 => bI (fr z9)))), (bK, .inl (cB, 4, .inl (fun z9 => bI (mk z9)))), (bB, .inl (cI, 26, .inl (fun z9 => nI (bt z9)))), (bS, .inl (cI, 26, .inl su)), (bN, .inl (cI, 26, .inl kv)), (bM, .inl (cI, 13, .inl (fun z9 => nI (mi z9))))] := hD
      refine lv_iconst (v := bI true) hx hb dX4_puts_60 (by decide) ?_
      have e2 : ((rf_put wd lf (169 * sx + 13 * d + k) v).2.2.1) = true := by simp [rf_put, h4, h35a]
      have e3 : ((rf_put wd lf (169 * sx + 13 * d + k) v).2.2.2) = (lf - 0) := by simp [rf_put, h4, h35a]
      have e4 : ((rf_put wd lf (169 * sx + 13 * d + k) v).2.1) = (va_up wd (169 * sx + 13 * d + k) v) := by simp [rf_put, h4, h35a]
      exact x_zret (D := (dC, dI)) (cl := vwCl) (A := A) () hQ hx hb hr hlk (by rw [e2, e3, e4]; exact hP) (by rw [e2, e3, e4]; exact hD) hS dX4_puts_61 (by simp [rf_put, h4])
    · -- 35f
      have h35a : 0 < lf := Int32.not_le.mp h35
      refine lv_iconst (v := 1) hx hb dX4_puts_38 (by decide) ?_
      refine lv_goto (tgt := 43) hx hb dX4_puts_39 (by decide) ?_
      refine lv_isub hx hb dX4_puts_43 ?_
      refine va_put (D := (dC, dI)) (ci := 4) (v := .int (lf - 1)) (ty := .int) (C := RX4) (T := TX4) (N := 14) hx hb hts inX4 tyX4 tyX4_ok nmX4 hown hK hP hD hS 0 rfl rfl 8 (by decide) (hts _ t_fX4_27) (fun _ h9 => h9) rfl (by decide +kernel) rfl rfl (Nat.le_of_ble_eq_true rfl) dX4_puts_44 (fun H locs hP hD hS => ?_)
      have hP : va_P (dC, dI) vwCl [(aO, .inr (4, [.int (nI th), .int (nI P), .int (nI n), .ref bW, .ref bL, .ref bF, .ref bK, .int (bI true), .int (lf - 1), .ref bB, .ref bS, .ref bN, .ref bM, .int (nI mz)])), (bW, .inl (cI, 676, .inl wd)), (bL, .inl (cB, 13, .inl (fun z9 => bI (lo z9)))), (bF, .inl (cB, 52, .inl (fun z9 => bI (fr z9)))), (bK, .inl (cB, 4, .inl (fun z9 => bI (mk z9)))), (bB, .inl (cI, 26, .inl (fun z9 => nI (bt z9)))), (bS, .inl (cI, 26, .inl su)), (bN, .inl (cI, 26, .inl kv)), (bM, .inl (cI, 13, .inl (fun z9 => nI (mi z9))))] H := hP
      have hD : va_D A [(aO, .inr (4, [.int (nI th), .int (nI P), .int (nI n), .ref bW, .ref bL, .ref bF, .ref bK, .int (bI true), .int (lf - 1), .ref bB, .ref bS, .ref bN, .ref bM, .int (nI mz)])), (bW, .inl (cI, 676, .inl wd)), (bL, .inl (cB, 13, .inl (fun z9 => bI (lo z9)))), (bF, .inl (cB, 52, .inl (fun z9 => bI (fr z9)))), (bK, .inl (cB, 4, .inl (fun z9 => bI (mk z9)))), (bB, .inl (cI, 26, .inl (fun z9 => nI (bt z9)))), (bS, .inl (cI, 26, .inl su)), (bN, .inl (cI, 26, .inl kv)), (bM, .inl (cI, 13, .inl (fun z9 => nI (mi z9))))] := hD
      refine lv_aload_n hx hb dX4_puts_47 rfl (lv_at hl 0 rfl) ?_
      refine va_get (D := (dC, dI)) (ci := 4) (v := .ref bW) (C := RX4) (T := TX4) (N := 14) hx hb hts inX4 hown hK hP 0 rfl rfl 3 (by decide) (hts _ t_fX4_7) (fun _ h9 => h9) rfl dX4_puts_48 ?_
      refine lv_iload_n hx hb dX4_puts_51 rfl (lv_at hl 1 rfl) ?_
      refine lv_iload_n hx hb dX4_puts_52 rfl (lv_at hl 2 rfl) ?_
      refine lv_iload_n hx hb dX4_puts_53 rfl (lv_at hl 3 rfl) ?_
      refine gS (wr := [(aO, .inr (4, [.int (nI th), .int (nI P), .int (nI n), .ref bW, .ref bL, .ref bF, .ref bK, .int (bI true), .int (lf - 1), .ref bB, .ref bS, .ref bN, .ref bM, .int (nI mz)])), (bW, .inl (cI, 676, .inl wd)), (bL, .inl (cB, 13, .inl (fun z9 => bI (lo z9)))), (bF, .inl (cB, 52, .inl (fun z9 => bI (fr z9)))), (bK, .inl (cB, 4, .inl (fun z9 => bI (mk z9)))), (bB, .inl (cI, 26, .inl (fun z9 => nI (bt z9)))), (bS, .inl (cI, 26, .inl su)), (bN, .inl (cI, 26, .inl kv)), (bM, .inl (cI, 13, .inl (fun z9 => nI (mi z9))))]) (pre := [(aO, .inr (4, [.int (nI th), .int (nI P), .int (nI n), .ref bW, .ref bL, .ref bF, .ref bK, .int (bI true), .int (lf - 1), .ref bB, .ref bS, .ref bN, .ref bM, .int (nI mz)])), (bW, .inl (cI, 676, .inl wd)), (bL, .inl (cB, 13, .inl (fun z9 => bI (lo z9)))), (bF, .inl (cB, 52, .inl (fun z9 => bI (fr z9)))), (bK, .inl (cB, 4, .inl (fun z9 => bI (mk z9)))), (bB, .inl (cI, 26, .inl (fun z9 => nI (bt z9)))), (bS, .inl (cI, 26, .inl su)), (bN, .inl (cI, 26, .inl kv)), (bM, .inl (cI, 13, .inl (fun z9 => nI (mi z9))))]) (tl := []) (G := fun (u : Unit) => [(aO, .inr (4, [.int (nI th), .int (nI P), .int (nI n), .ref bW, .ref bL, .ref bF, .ref bK, .int (bI true), .int (lf - 1), .ref bB, .ref bS, .ref bN, .ref bM, .int (nI mz)])), (bW, .inl (cI, 676, .inl wd)), (bL, .inl (cB, 13, .inl (fun z9 => bI (lo z9)))), (bF, .inl (cB, 52, .inl (fun z9 => bI (fr z9)))), (bK, .inl (cB, 4, .inl (fun z9 => bI (mk z9)))), (bB, .inl (cI, 26, .inl (fun z9 => nI (bt z9)))), (bS, .inl (cI, 26, .inl su)), (bN, .inl (cI, 26, .inl kv)), (bM, .inl (cI, 13, .inl (fun z9 => nI (mi z9))))]) (As := [.int (nI sx), .int (nI d), .int (nI k)]) (rst := [.ref bW]) ⟨hx, hb, hml, hown, hts⟩ (c_at l dC dI cI cB cQ cJ sx d k ) (va_cwS 3 hts (gdS t_mX4_59 t_stat_X4_at t_ini_X4 t_code_X4_at) rfl rfl rfl (by decide +kernel) ⟨Nat.le_of_ble_eq_true rfl, Nat.le_of_ble_eq_true rfl⟩) hK hP hD hS hA [] [0, 1, 2, 3, 4, 5, 6, 7, 8] [0, 1, 2, 3, 4, 5, 6, 7, 8] rfl (by decide) (fun _ => rfl) (by decide) rfl hl.1 rfl (Nat.le_of_ble_eq_true rfl) dX4_puts_54 ⟨Nat.zero_le _, Nat.zero_le _⟩ (fun r u H locs hu5 hP hD hS => ?_)
      have hr54 := hu5
      have hr54 : r = nI (169 * sx + 13 * d + k) := hr54
      subst hr54
      have hP : va_P (dC, dI) vwCl [(aO, .inr (4, [.int (nI th), .int (nI P), .int (nI n), .ref bW, .ref bL, .ref bF, .ref bK, .int (bI true), .int (lf - 1), .ref bB, .ref bS, .ref bN, .ref bM, .int (nI mz)])), (bW, .inl (cI, 676, .inl wd)), (bL, .inl (cB, 13, .inl (fun z9 => bI (lo z9)))), (bF, .inl (cB, 52, .inl (fun z9 => bI (fr z9)))), (bK, .inl (cB, 4, .inl (fun z9 => bI (mk z9)))), (bB, .inl (cI, 26, .inl (fun z9 => nI (bt z9)))), (bS, .inl (cI, 26, .inl su)), (bN, .inl (cI, 26, .inl kv)), (bM, .inl (cI, 13, .inl (fun z9 => nI (mi z9))))] H := hP
      have hD : va_D A [(aO, .inr (4, [.int (nI th), .int (nI P), .int (nI n), .ref bW, .ref bL, .ref bF, .ref bK, .int (bI true), .int (lf - 1), .ref bB, .ref bS, .ref bN, .ref bM, .int (nI mz)])), (bW, .inl (cI, 676, .inl wd)), (bL, .inl (cB, 13, .inl (fun z9 => bI (lo z9)))), (bF, .inl (cB, 52, .inl (fun z9 => bI (fr z9)))), (bK, .inl (cB, 4, .inl (fun z9 => bI (mk z9)))), (bB, .inl (cI, 26, .inl (fun z9 => nI (bt z9)))), (bS, .inl (cI, 26, .inl su)), (bN, .inl (cI, 26, .inl kv)), (bM, .inl (cI, 13, .inl (fun z9 => nI (mi z9))))] := hD
      refine lv_iload hx hb dX4_puts_57 (lv_at hl 4 rfl) ?_
      refine x_iast (f := wd) hx hb hK hP hD hS 1 0 rfl rfl dX4_puts_59 (by omega) (by omega) (fun H locs hP hD hS => ?_)
      have hP : va_P (dC, dI) vwCl [(aO, .inr (4, [.int (nI th), .int (nI P), .int (nI n), .ref bW, .ref bL, .ref bF, .ref bK, .int (bI true), .int (lf - 1), .ref bB, .ref bS, .ref bN, .ref bM, .int (nI mz)])), (bW, .inl (cI, 676, .inl (va_up wd (169 * sx + 13 * d + k) v))), (bL, .inl (cB, 13, .inl (fun z9 => bI (lo z9)))), (bF, .inl (cB, 52, .inl (fun z9 => bI (fr z9)))), (bK, .inl (cB, 4, .inl (fun z9 => bI (mk z9)))), (bB, .inl (cI, 26, .inl (fun z9 => nI (bt z9)))), (bS, .inl (cI, 26, .inl su)), (bN, .inl (cI, 26, .inl kv)), (bM, .inl (cI, 13, .inl (fun z9 => nI (mi z9))))] H := hP
      have hD : va_D A [(aO, .inr (4, [.int (nI th), .int (nI P), .int (nI n), .ref bW, .ref bL, .ref bF, .ref bK, .int (bI true), .int (lf - 1), .ref bB, .ref bS, .ref bN, .ref bM, .int (nI mz)])), (bW, .inl (cI, 676, .inl (va_up wd (169 * sx + 13 * d + k) v))), (bL, .inl (cB, 13, .inl (fun z9 => bI (lo z9)))), (bF, .inl (cB, 52, .inl (fun z9 => bI (fr z9)))), (bK, .inl (cB, 4, .inl (fun z9 => bI (mk z9)))), (bB, .inl (cI, 26, .inl (fun z9 => nI (bt z9)))), (bS, .inl (cI, 26, .inl su)), (bN, .inl (cI, 26, .inl kv)), (bM, .inl (cI, 13, .inl (fun z9 => nI (mi z9))))] := hD
      refine lv_iconst (v := bI true) hx hb dX4_puts_60 (by decide) ?_
      have e6 : ((rf_put wd lf (169 * sx + 13 * d + k) v).2.2.1) = true := by simp [rf_put, h4, h35a]
      have e7 : ((rf_put wd lf (169 * sx + 13 * d + k) v).2.2.2) = (lf - 1) := by simp [rf_put, h4, h35a]
      have e8 : ((rf_put wd lf (169 * sx + 13 * d + k) v).2.1) = (va_up wd (169 * sx + 13 * d + k) v) := by simp [rf_put, h4, h35a]
      exact x_zret (D := (dC, dI)) (cl := vwCl) (A := A) () hQ hx hb hr hlk (by rw [e6, e7, e8]; exact hP) (by rw [e6, e7, e8]; exact hD) hS dX4_puts_61 (by simp [rf_put, h4])
  · -- 4f
    refine lv_aload_n hx hb dX4_puts_7 rfl (lv_at hl 0 rfl) ?_
    refine lv_iconst (v := bI false) hx hb dX4_puts_8 (by decide) ?_
    refine va_put (D := (dC, dI)) (ci := 4) (v := .int (bI false)) (ty := .boolean) (C := RX4) (T := TX4) (N := 14) hx hb hts inX4 tyX4 tyX4_ok nmX4 hown hK hP hD hS 0 rfl rfl 7 (by decide) (hts _ t_fX4_23) (fun _ h9 => h9) rfl (by decide +kernel) (bI_narrow _) (bI_fits _) (Nat.le_of_ble_eq_true rfl) dX4_puts_9 (fun H locs hP hD hS => ?_)
    have hP : va_P (dC, dI) vwCl [(aO, .inr (4, [.int (nI th), .int (nI P), .int (nI n), .ref bW, .ref bL, .ref bF, .ref bK, .int (bI false), .int lf, .ref bB, .ref bS, .ref bN, .ref bM, .int (nI mz)])), (bW, .inl (cI, 676, .inl wd)), (bL, .inl (cB, 13, .inl (fun z9 => bI (lo z9)))), (bF, .inl (cB, 52, .inl (fun z9 => bI (fr z9)))), (bK, .inl (cB, 4, .inl (fun z9 => bI (mk z9)))), (bB, .inl (cI, 26, .inl (fun z9 => nI (bt z9)))), (bS, .inl (cI, 26, .inl su)), (bN, .inl (cI, 26, .inl kv)), (bM, .inl (cI, 13, .inl (fun z9 => nI (mi z9))))] H := hP
    have hD : va_D A [(aO, .inr (4, [.int (nI th), .int (nI P), .int (nI n), .ref bW, .ref bL, .ref bF, .ref bK, .int (bI false), .int lf, .ref bB, .ref bS, .ref bN, .ref bM, .int (nI mz)])), (bW, .inl (cI, 676, .inl wd)), (bL, .inl (cB, 13, .inl (fun z9 => bI (lo z9)))), (bF, .inl (cB, 52, .inl (fun z9 => bI (fr z9)))), (bK, .inl (cB, 4, .inl (fun z9 => bI (mk z9)))), (bB, .inl (cI, 26, .inl (fun z9 => nI (bt z9)))), (bS, .inl (cI, 26, .inl su)), (bN, .inl (cI, 26, .inl kv)), (bM, .inl (cI, 13, .inl (fun z9 => nI (mi z9))))] := hD
    refine lv_aload_n hx hb dX4_puts_12 rfl (lv_at hl 0 rfl) ?_
    refine lv_iconst (v := (-1)) hx hb dX4_puts_13 (by decide) ?_
    refine va_put (D := (dC, dI)) (ci := 4) (v := .int (-1)) (ty := .int) (C := RX4) (T := TX4) (N := 14) hx hb hts inX4 tyX4 tyX4_ok nmX4 hown hK hP hD hS 0 rfl rfl 8 (by decide) (hts _ t_fX4_27) (fun _ h9 => h9) rfl (by decide +kernel) rfl rfl (Nat.le_of_ble_eq_true rfl) dX4_puts_14 (fun H locs hP hD hS => ?_)
    have hP : va_P (dC, dI) vwCl [(aO, .inr (4, [.int (nI th), .int (nI P), .int (nI n), .ref bW, .ref bL, .ref bF, .ref bK, .int (bI false), .int (-1), .ref bB, .ref bS, .ref bN, .ref bM, .int (nI mz)])), (bW, .inl (cI, 676, .inl wd)), (bL, .inl (cB, 13, .inl (fun z9 => bI (lo z9)))), (bF, .inl (cB, 52, .inl (fun z9 => bI (fr z9)))), (bK, .inl (cB, 4, .inl (fun z9 => bI (mk z9)))), (bB, .inl (cI, 26, .inl (fun z9 => nI (bt z9)))), (bS, .inl (cI, 26, .inl su)), (bN, .inl (cI, 26, .inl kv)), (bM, .inl (cI, 13, .inl (fun z9 => nI (mi z9))))] H := hP
    have hD : va_D A [(aO, .inr (4, [.int (nI th), .int (nI P), .int (nI n), .ref bW, .ref bL, .ref bF, .ref bK, .int (bI false), .int (-1), .ref bB, .ref bS, .ref bN, .ref bM, .int (nI mz)])), (bW, .inl (cI, 676, .inl wd)), (bL, .inl (cB, 13, .inl (fun z9 => bI (lo z9)))), (bF, .inl (cB, 52, .inl (fun z9 => bI (fr z9)))), (bK, .inl (cB, 4, .inl (fun z9 => bI (mk z9)))), (bB, .inl (cI, 26, .inl (fun z9 => nI (bt z9)))), (bS, .inl (cI, 26, .inl su)), (bN, .inl (cI, 26, .inl kv)), (bM, .inl (cI, 13, .inl (fun z9 => nI (mi z9))))] := hD
    refine lv_aload_n hx hb dX4_puts_17 rfl (lv_at hl 0 rfl) ?_
    refine va_get (D := (dC, dI)) (ci := 4) (v := .int (bI false)) (C := RX4) (T := TX4) (N := 14) hx hb hts inX4 hown hK hP 0 rfl rfl 7 (by decide) (hts _ t_fX4_23) (fun _ h9 => h9) rfl dX4_puts_18 ?_
    refine x_ifT (tgt := 26) hx hb dX4_puts_21 (by decide) (fun z9 => by cases z9) (fun _ => ?_)
    refine lv_iconst (v := bI false) hx hb dX4_puts_24 (by decide) ?_
    have e9 : ((rf_put wd lf (169 * sx + 13 * d + k) v).2.2.1) = false := by simp [rf_put, h4]
    have e10 : ((rf_put wd lf (169 * sx + 13 * d + k) v).2.2.2) = (-1) := by simp [rf_put, h4]
    have e11 : ((rf_put wd lf (169 * sx + 13 * d + k) v).2.1) = wd := by simp [rf_put, h4]
    exact x_zret (D := (dC, dI)) (cl := vwCl) (A := A) () hQ hx hb hr hlk (by rw [e9, e10, e11]; exact hP) (by rw [e9, e10, e11]; exact hD) hS dX4_puts_25 (by simp [rf_put, h4])

abbrev rm_c_parity : Room := { frames := 1, cells := 0, slots := 0, locals := 23 }
set_option maxHeartbeats 4000000 in
set_option maxRecDepth 100000 in
theorem c_parity (l : Launch) (dC : Nat → ClassId) (dI : Nat → Nat → Nat) (cI cB cQ cJ : ClassId) (aO : Nat) (bW : Nat) (bL : Nat) (bF : Nat) (bK : Nat) (bB : Nat) (bS : Nat) (bN : Nat) (bM : Nat) (th : Nat) (P : Nat) (n : Nat) (pw : Bool) (lf : Int32) (mz : Nat) (wd : Nat → Int32) (lo : Nat → Bool) (fr : Nat → Bool) (mk : Nat → Bool) (bt : Nat → Nat) (su : Nat → Int32) (kv : Nat → Int32) (mi : Nat → Nat) (sx : Nat) (o : Nat) (sec : Bool) (hp5 : dr_P P) (hn : n < 5) (hs : sx < n) (ho : o < P) : MG l yX4_parity (Cond.code yX4_parity cX4_parity 6 (some .int) :: TB) rm_c_parity (dC, dI) vwCl (TY cI cB cQ cJ) [.ref aO, .int (nI sx), .int (nI o), .int (bI sec)] [(aO, .inr (4, [.int (nI th), .int (nI P), .int (nI n), .ref bW, .ref bL, .ref bF, .ref bK, .int (bI pw), .int lf, .ref bB, .ref bS, .ref bN, .ref bM, .int (nI mz)])), (bW, .inl (cI, 676, .inl wd)), (bL, .inl (cB, 13, .inl (fun z9 => bI (lo z9)))), (bF, .inl (cB, 52, .inl (fun z9 => bI (fr z9)))), (bK, .inl (cB, 4, .inl (fun z9 => bI (mk z9)))), (bB, .inl (cI, 26, .inl (fun z9 => nI (bt z9)))), (bS, .inl (cI, 26, .inl su)), (bN, .inl (cI, 26, .inl kv)), (bM, .inl (cI, 13, .inl (fun z9 => nI (mi z9))))] (fun (r : Int32) (u : Unit) => r = rf_pa P wd sx o (rf_r P sec) (P - 2)) (fun (u : Unit) => [(aO, .inr (4, [.int (nI th), .int (nI P), .int (nI n), .ref bW, .ref bL, .ref bF, .ref bK, .int (bI pw), .int lf, .ref bB, .ref bS, .ref bN, .ref bM, .int (nI mz)])), (bW, .inl (cI, 676, .inl wd)), (bL, .inl (cB, 13, .inl (fun z9 => bI (lo z9)))), (bF, .inl (cB, 52, .inl (fun z9 => bI (fr z9)))), (bK, .inl (cB, 4, .inl (fun z9 => bI (mk z9)))), (bB, .inl (cI, 26, .inl (fun z9 => nI (bt z9)))), (bS, .inl (cI, 26, .inl su)), (bN, .inl (cI, 26, .inl kv)), (bM, .inl (cI, 13, .inl (fun z9 => nI (mi z9))))]) := by
  refine MG.ofW (cc := cX4_parity) (maxL := 6) (rt := .int) (by decide +kernel) rfl (Nat.le_of_ble_eq_true rfl) ?_
  intro p e s m args below meth c A ls Q H locs hQ hx hb hml hr hlk hts hown hK hP hD hS hA hl
  have hts : ∀ w ∈ TB, w.before args s = true := fun w h => hts w (List.mem_cons_of_mem _ h)
  have hown : s.vm.findClass RX4 = some m.cls := hown
  have hl : lv_has ls 6 [(0, .ref aO), (1, .int (nI sx)), (2, .int (nI o)), (3, .int (bI sec))] := hl
  have hP : va_P (dC, dI) vwCl [(aO, .inr (4, [.int (nI th), .int (nI P), .int (nI n), .ref bW, .ref bL, .ref bF, .ref bK, .int (bI pw), .int lf, .ref bB, .ref bS, .ref bN, .ref bM, .int (nI mz)])), (bW, .inl (cI, 676, .inl wd)), (bL, .inl (cB, 13, .inl (fun z9 => bI (lo z9)))), (bF, .inl (cB, 52, .inl (fun z9 => bI (fr z9)))), (bK, .inl (cB, 4, .inl (fun z9 => bI (mk z9)))), (bB, .inl (cI, 26, .inl (fun z9 => nI (bt z9)))), (bS, .inl (cI, 26, .inl su)), (bN, .inl (cI, 26, .inl kv)), (bM, .inl (cI, 13, .inl (fun z9 => nI (mi z9))))] H := hP
  have hD : va_D A [(aO, .inr (4, [.int (nI th), .int (nI P), .int (nI n), .ref bW, .ref bL, .ref bF, .ref bK, .int (bI pw), .int lf, .ref bB, .ref bS, .ref bN, .ref bM, .int (nI mz)])), (bW, .inl (cI, 676, .inl wd)), (bL, .inl (cB, 13, .inl (fun z9 => bI (lo z9)))), (bF, .inl (cB, 52, .inl (fun z9 => bI (fr z9)))), (bK, .inl (cB, 4, .inl (fun z9 => bI (mk z9)))), (bB, .inl (cI, 26, .inl (fun z9 => nI (bt z9)))), (bS, .inl (cI, 26, .inl su)), (bN, .inl (cI, 26, .inl kv)), (bM, .inl (cI, 13, .inl (fun z9 => nI (mi z9))))] := hD
  have hp := hp5.le
  have hpp := dr_PP hp5
  have hpq := dr_PP2 hp5
  refine lv_iconst (v := 0) hx hb dX4_parity_0 (by decide) ?_
  refine lv_istore hx hb dX4_parity_1 hl (by decide) rfl (fun ls hl => ?_)
  have hl : lv_has ls 6 [(4, .int 0), (0, .ref aO), (1, .int (nI sx)), (2, .int (nI o)), (3, .int (bI sec))] := hl
  refine lv_iconst (v := nI 0) hx hb dX4_parity_3 (by decide) ?_
  refine lv_istore hx hb dX4_parity_4 hl (by decide) rfl (fun ls hl => ?_)
  have hl : lv_has ls 6 [(5, .int (nI 0)), (4, .int 0), (0, .ref aO), (1, .int (nI sx)), (2, .int (nI o)), (3, .int (bI sec))] := hl
  have lp6 : ∀ (n9 : Nat) (i : Nat) (ls : Array Slot) (H : Heap) (locs : List Loc), P - 2 - i < n9 → (i ≤ P - 2) → lv_has ls 6 [(5, .int (nI i)), (4, .int (rf_pa P wd sx o (rf_r P sec) i)), (3, .int (bI sec)), (2, .int (nI o)), (1, .int (nI sx)), (0, .ref aO)] → va_P (dC, dI) vwCl [(aO, .inr (4, [.int (nI th), .int (nI P), .int (nI n), .ref bW, .ref bL, .ref bF, .ref bK, .int (bI pw), .int lf, .ref bB, .ref bS, .ref bN, .ref bM, .int (nI mz)])), (bW, .inl (cI, 676, .inl wd)), (bL, .inl (cB, 13, .inl (fun z9 => bI (lo z9)))), (bF, .inl (cB, 52, .inl (fun z9 => bI (fr z9)))), (bK, .inl (cB, 4, .inl (fun z9 => bI (mk z9)))), (bB, .inl (cI, 26, .inl (fun z9 => nI (bt z9)))), (bS, .inl (cI, 26, .inl su)), (bN, .inl (cI, 26, .inl kv)), (bM, .inl (cI, 13, .inl (fun z9 => nI (mi z9))))] H → va_D A [(aO, .inr (4, [.int (nI th), .int (nI P), .int (nI n), .ref bW, .ref bL, .ref bF, .ref bK, .int (bI pw), .int lf, .ref bB, .ref bS, .ref bN, .ref bM, .int (nI mz)])), (bW, .inl (cI, 676, .inl wd)), (bL, .inl (cB, 13, .inl (fun z9 => bI (lo z9)))), (bF, .inl (cB, 52, .inl (fun z9 => bI (fr z9)))), (bK, .inl (cB, 4, .inl (fun z9 => bI (mk z9)))), (bB, .inl (cI, 26, .inl (fun z9 => nI (bt z9)))), (bS, .inl (cI, 26, .inl su)), (bN, .inl (cI, 26, .inl kv)), (bM, .inl (cI, 13, .inl (fun z9 => nI (mi z9))))] → va_S A s.heap H locs → W p l e rm_c_parity s m args below meth c H locs 0 0 Q (F0 m 6 ls []) := by
    intro n9
    induction n9 with
    | zero => intro i ls H locs hn9; omega
    | succ n9 ih6 =>
      intro i ls H locs hn9 hi hl hP hD hS
      refine lv_iload hx hb dX4_parity_6 (lv_at hl 0 rfl) ?_
      refine lv_aload_n hx hb dX4_parity_8 rfl (lv_at hl 5 rfl) ?_
      refine va_get (D := (dC, dI)) (ci := 4) (v := .int (nI P)) (C := RX4) (T := TX4) (N := 14) hx hb hts inX4 hown hK hP 0 rfl rfl 1 (by decide) (hts _ t_fX4_43) (fun _ h9 => h9) rfl dX4_parity_9 ?_
      refine lv_iconst (v := nI 2) hx hb dX4_parity_12 (by decide) ?_
      refine x_sub hx hb dX4_parity_13 (by omega) ?_
      refine x_cge (tgt := 47) hx hb dX4_parity_14 (by decide) (by omega) (by omega) (fun h14 => ?_) (fun h14 => ?_)
      · -- 14t
        have hie14 : i = P - 2 := by omega
        try rw [hie14] at hl
        try rw [hie14] at hP
        try rw [hie14] at hD
        have hl : lv_has ls 6 [(5, .int (nI (P - 2))), (4, .int (rf_pa P wd sx o (rf_r P sec) (P - 2))), (3, .int (bI sec)), (2, .int (nI o)), (1, .int (nI sx)), (0, .ref aO)] := hl
        have hP : va_P (dC, dI) vwCl [(aO, .inr (4, [.int (nI th), .int (nI P), .int (nI n), .ref bW, .ref bL, .ref bF, .ref bK, .int (bI pw), .int lf, .ref bB, .ref bS, .ref bN, .ref bM, .int (nI mz)])), (bW, .inl (cI, 676, .inl wd)), (bL, .inl (cB, 13, .inl (fun z9 => bI (lo z9)))), (bF, .inl (cB, 52, .inl (fun z9 => bI (fr z9)))), (bK, .inl (cB, 4, .inl (fun z9 => bI (mk z9)))), (bB, .inl (cI, 26, .inl (fun z9 => nI (bt z9)))), (bS, .inl (cI, 26, .inl su)), (bN, .inl (cI, 26, .inl kv)), (bM, .inl (cI, 13, .inl (fun z9 => nI (mi z9))))] H := hP
        have hD : va_D A [(aO, .inr (4, [.int (nI th), .int (nI P), .int (nI n), .ref bW, .ref bL, .ref bF, .ref bK, .int (bI pw), .int lf, .ref bB, .ref bS, .ref bN, .ref bM, .int (nI mz)])), (bW, .inl (cI, 676, .inl wd)), (bL, .inl (cB, 13, .inl (fun z9 => bI (lo z9)))), (bF, .inl (cB, 52, .inl (fun z9 => bI (fr z9)))), (bK, .inl (cB, 4, .inl (fun z9 => bI (mk z9)))), (bB, .inl (cI, 26, .inl (fun z9 => nI (bt z9)))), (bS, .inl (cI, 26, .inl su)), (bN, .inl (cI, 26, .inl kv)), (bM, .inl (cI, 13, .inl (fun z9 => nI (mi z9))))] := hD
        refine lv_iload hx hb dX4_parity_47 (lv_at hl 1 rfl) ?_
        exact x_iret (D := (dC, dI)) (cl := vwCl) (A := A) () hQ hx hb hr hlk hP hD hS dX4_parity_49 (by first | rfl | (simp [h14]; done) | (simp [h14]; omega))
      · -- 14f
        refine lv_iload hx hb dX4_parity_17 (lv_at hl 1 rfl) ?_
        refine lv_aload_n hx hb dX4_parity_19 rfl (lv_at hl 5 rfl) ?_
        refine va_get (D := (dC, dI)) (ci := 4) (v := .ref bW) (C := RX4) (T := TX4) (N := 14) hx hb hts inX4 hown hK hP 0 rfl rfl 3 (by decide) (hts _ t_fX4_7) (fun _ h9 => h9) rfl dX4_parity_20 ?_
        refine lv_iload_n hx hb dX4_parity_23 rfl (lv_at hl 4 rfl) ?_
        refine lv_aload_n hx hb dX4_parity_24 rfl (lv_at hl 5 rfl) ?_
        refine lv_iload_n hx hb dX4_parity_25 rfl (lv_at hl 3 rfl) ?_
        refine lv_iload hx hb dX4_parity_26 (lv_at hl 0 rfl) ?_
        refine lv_iload_n hx hb dX4_parity_28 rfl (lv_at hl 2 rfl) ?_
        refine gV (wr := []) (pre := [(aO, .inr (4, [.int (nI th), .int (nI P), .int (nI n), .ref bW, .ref bL, .ref bF, .ref bK, .int (bI pw), .int lf, .ref bB, .ref bS, .ref bN, .ref bM, .int (nI mz)])), (bW, .inl (cI, 676, .inl wd)), (bL, .inl (cB, 13, .inl (fun z9 => bI (lo z9)))), (bF, .inl (cB, 52, .inl (fun z9 => bI (fr z9)))), (bK, .inl (cB, 4, .inl (fun z9 => bI (mk z9)))), (bB, .inl (cI, 26, .inl (fun z9 => nI (bt z9)))), (bS, .inl (cI, 26, .inl su)), (bN, .inl (cI, 26, .inl kv)), (bM, .inl (cI, 13, .inl (fun z9 => nI (mi z9))))]) (tl := []) (G := fun (u : Unit) => [(aO, .inr (4, [.int (nI th), .int (nI P), .int (nI n), .ref bW, .ref bL, .ref bF, .ref bK, .int (bI pw), .int lf, .ref bB, .ref bS, .ref bN, .ref bM, .int (nI mz)])), (bW, .inl (cI, 676, .inl wd)), (bL, .inl (cB, 13, .inl (fun z9 => bI (lo z9)))), (bF, .inl (cB, 52, .inl (fun z9 => bI (fr z9)))), (bK, .inl (cB, 4, .inl (fun z9 => bI (mk z9)))), (bB, .inl (cI, 26, .inl (fun z9 => nI (bt z9)))), (bS, .inl (cI, 26, .inl su)), (bN, .inl (cI, 26, .inl kv)), (bM, .inl (cI, 13, .inl (fun z9 => nI (mi z9))))]) (b := aO) (As := [.int (nI o), .int (nI i), .int (bI sec)]) (rst := [.int (nI sx), .ref bW, .int (rf_pa P wd sx o (rf_r P sec) i)]) ⟨hx, hb, hml, hown, hts⟩ (c_partner l dC dI cI cB cQ cJ aO bW bL bF bK bB bS bN bM th P n pw lf mz wd lo fr mk bt su kv mi o i sec hp5 (by omega) ho (by omega)) (cwV 3 hts (gdV t_mX4_70 t_inst_X4_partner t_sel_X4_partner t_ini_X4 t_code_X4_partner) rfl rfl rfl (by decide +kernel) ⟨Nat.le_of_ble_eq_true rfl, Nat.le_of_ble_eq_true rfl⟩) hK hP hD hS hA [0, 1, 2, 3, 4, 5, 6, 7, 8] [] [0, 1, 2, 3, 4, 5, 6, 7, 8] rfl (by decide) (fun _ => rfl) (by decide) (ci := 4) rfl rfl rfl rfl hl.1 rfl (Nat.le_of_ble_eq_true rfl) dX4_parity_29 ⟨Nat.zero_le _, Nat.zero_le _⟩ (fun r u H locs hu1 hP hD hS => ?_)
        have hr29 := hu1
        have hr29 : r = nI (dr_dd P o i (rf_r P sec)) := hr29
        subst hr29
        have hP : va_P (dC, dI) vwCl [(aO, .inr (4, [.int (nI th), .int (nI P), .int (nI n), .ref bW, .ref bL, .ref bF, .ref bK, .int (bI pw), .int lf, .ref bB, .ref bS, .ref bN, .ref bM, .int (nI mz)])), (bW, .inl (cI, 676, .inl wd)), (bL, .inl (cB, 13, .inl (fun z9 => bI (lo z9)))), (bF, .inl (cB, 52, .inl (fun z9 => bI (fr z9)))), (bK, .inl (cB, 4, .inl (fun z9 => bI (mk z9)))), (bB, .inl (cI, 26, .inl (fun z9 => nI (bt z9)))), (bS, .inl (cI, 26, .inl su)), (bN, .inl (cI, 26, .inl kv)), (bM, .inl (cI, 13, .inl (fun z9 => nI (mi z9))))] H := hP
        have hD : va_D A [(aO, .inr (4, [.int (nI th), .int (nI P), .int (nI n), .ref bW, .ref bL, .ref bF, .ref bK, .int (bI pw), .int lf, .ref bB, .ref bS, .ref bN, .ref bM, .int (nI mz)])), (bW, .inl (cI, 676, .inl wd)), (bL, .inl (cB, 13, .inl (fun z9 => bI (lo z9)))), (bF, .inl (cB, 52, .inl (fun z9 => bI (fr z9)))), (bK, .inl (cB, 4, .inl (fun z9 => bI (mk z9)))), (bB, .inl (cI, 26, .inl (fun z9 => nI (bt z9)))), (bS, .inl (cI, 26, .inl su)), (bN, .inl (cI, 26, .inl kv)), (bM, .inl (cI, 13, .inl (fun z9 => nI (mi z9))))] := hD
        refine lv_iload hx hb dX4_parity_32 (lv_at hl 0 rfl) ?_
        refine gS (wr := [(aO, .inr (4, [.int (nI th), .int (nI P), .int (nI n), .ref bW, .ref bL, .ref bF, .ref bK, .int (bI pw), .int lf, .ref bB, .ref bS, .ref bN, .ref bM, .int (nI mz)])), (bW, .inl (cI, 676, .inl wd)), (bL, .inl (cB, 13, .inl (fun z9 => bI (lo z9)))), (bF, .inl (cB, 52, .inl (fun z9 => bI (fr z9)))), (bK, .inl (cB, 4, .inl (fun z9 => bI (mk z9)))), (bB, .inl (cI, 26, .inl (fun z9 => nI (bt z9)))), (bS, .inl (cI, 26, .inl su)), (bN, .inl (cI, 26, .inl kv)), (bM, .inl (cI, 13, .inl (fun z9 => nI (mi z9))))]) (pre := [(aO, .inr (4, [.int (nI th), .int (nI P), .int (nI n), .ref bW, .ref bL, .ref bF, .ref bK, .int (bI pw), .int lf, .ref bB, .ref bS, .ref bN, .ref bM, .int (nI mz)])), (bW, .inl (cI, 676, .inl wd)), (bL, .inl (cB, 13, .inl (fun z9 => bI (lo z9)))), (bF, .inl (cB, 52, .inl (fun z9 => bI (fr z9)))), (bK, .inl (cB, 4, .inl (fun z9 => bI (mk z9)))), (bB, .inl (cI, 26, .inl (fun z9 => nI (bt z9)))), (bS, .inl (cI, 26, .inl su)), (bN, .inl (cI, 26, .inl kv)), (bM, .inl (cI, 13, .inl (fun z9 => nI (mi z9))))]) (tl := []) (G := fun (u : Unit) => [(aO, .inr (4, [.int (nI th), .int (nI P), .int (nI n), .ref bW, .ref bL, .ref bF, .ref bK, .int (bI pw), .int lf, .ref bB, .ref bS, .ref bN, .ref bM, .int (nI mz)])), (bW, .inl (cI, 676, .inl wd)), (bL, .inl (cB, 13, .inl (fun z9 => bI (lo z9)))), (bF, .inl (cB, 52, .inl (fun z9 => bI (fr z9)))), (bK, .inl (cB, 4, .inl (fun z9 => bI (mk z9)))), (bB, .inl (cI, 26, .inl (fun z9 => nI (bt z9)))), (bS, .inl (cI, 26, .inl su)), (bN, .inl (cI, 26, .inl kv)), (bM, .inl (cI, 13, .inl (fun z9 => nI (mi z9))))]) (As := [.int (nI sx), .int (nI (dr_dd P o i (rf_r P sec))), .int (nI i)]) (rst := [.ref bW, .int (rf_pa P wd sx o (rf_r P sec) i)]) ⟨hx, hb, hml, hown, hts⟩ (c_at l dC dI cI cB cQ cJ sx (dr_dd P o i (rf_r P sec)) i ) (va_cwS 3 hts (gdS t_mX4_59 t_stat_X4_at t_ini_X4 t_code_X4_at) rfl rfl rfl (by decide +kernel) ⟨Nat.le_of_ble_eq_true rfl, Nat.le_of_ble_eq_true rfl⟩) hK hP hD hS hA [] [0, 1, 2, 3, 4, 5, 6, 7, 8] [0, 1, 2, 3, 4, 5, 6, 7, 8] rfl (by decide) (fun _ => rfl) (by decide) rfl hl.1 rfl (Nat.le_of_ble_eq_true rfl) dX4_parity_34 ⟨Nat.zero_le _, Nat.zero_le _⟩ (fun r u H locs hu2 hP hD hS => ?_)
        have hr34 := hu2
        have hr34 : r = nI (169 * sx + 13 * (dr_dd P o i (rf_r P sec)) + i) := hr34
        subst hr34
        have hP : va_P (dC, dI) vwCl [(aO, .inr (4, [.int (nI th), .int (nI P), .int (nI n), .ref bW, .ref bL, .ref bF, .ref bK, .int (bI pw), .int lf, .ref bB, .ref bS, .ref bN, .ref bM, .int (nI mz)])), (bW, .inl (cI, 676, .inl wd)), (bL, .inl (cB, 13, .inl (fun z9 => bI (lo z9)))), (bF, .inl (cB, 52, .inl (fun z9 => bI (fr z9)))), (bK, .inl (cB, 4, .inl (fun z9 => bI (mk z9)))), (bB, .inl (cI, 26, .inl (fun z9 => nI (bt z9)))), (bS, .inl (cI, 26, .inl su)), (bN, .inl (cI, 26, .inl kv)), (bM, .inl (cI, 13, .inl (fun z9 => nI (mi z9))))] H := hP
        have hD : va_D A [(aO, .inr (4, [.int (nI th), .int (nI P), .int (nI n), .ref bW, .ref bL, .ref bF, .ref bK, .int (bI pw), .int lf, .ref bB, .ref bS, .ref bN, .ref bM, .int (nI mz)])), (bW, .inl (cI, 676, .inl wd)), (bL, .inl (cB, 13, .inl (fun z9 => bI (lo z9)))), (bF, .inl (cB, 52, .inl (fun z9 => bI (fr z9)))), (bK, .inl (cB, 4, .inl (fun z9 => bI (mk z9)))), (bB, .inl (cI, 26, .inl (fun z9 => nI (bt z9)))), (bS, .inl (cI, 26, .inl su)), (bN, .inl (cI, 26, .inl kv)), (bM, .inl (cI, 13, .inl (fun z9 => nI (mi z9))))] := hD
        have hdl := dr_dd_lt (o := o) (k := i) (row := rf_r P sec) hp5
        refine x_iald (f := wd) hx hb hK hP 1 0 rfl rfl dX4_parity_37 (by omega) (by omega) ?_
        refine lv_ixor hx hb dX4_parity_38 ?_
        refine lv_istore hx hb dX4_parity_39 hl (by decide) rfl (fun ls hl => ?_)
        have hl : lv_has ls 6 [(4, .int ((rf_pa P wd sx o (rf_r P sec) i) ^^^ (wd (169 * sx + 13 * (dr_dd P o i (rf_r P sec)) + i)))), (5, .int (nI i)), (3, .int (bI sec)), (2, .int (nI o)), (1, .int (nI sx)), (0, .ref aO)] := hl
        refine lv_iinc (v := nI (i + 1)) hx hb dX4_parity_41 hl (k := 1) rfl (x_inc _) (by decide) rfl (fun ls hl => ?_)
        have hl : lv_has ls 6 [(5, .int (nI (i + 1))), (4, .int ((rf_pa P wd sx o (rf_r P sec) i) ^^^ (wd (169 * sx + 13 * (dr_dd P o i (rf_r P sec)) + i)))), (3, .int (bI sec)), (2, .int (nI o)), (1, .int (nI sx)), (0, .ref aO)] := hl
        refine lv_goto (tgt := 6) hx hb dX4_parity_44 (by decide) ?_
        have e3 : (rf_pa P wd sx o (rf_r P sec) (i + 1)) = ((rf_pa P wd sx o (rf_r P sec) i) ^^^ (wd (169 * sx + 13 * (dr_dd P o i (rf_r P sec)) + i))) := by first | rfl | (simp [h14]; done) | (simp [h14]; omega)
        exact ih6 (i + 1) ls H locs (by omega) (by omega) (by rw [e3]; exact lv_sub hl [0, 1, 2, 3, 4, 5] rfl) hP hD hS
  have e4 : (rf_pa P wd sx o (rf_r P sec) 0) = 0 := by first | rfl | (simp []; done) | (simp []; omega)
  exact lp6 (P - 2 - 0 + 1) 0 ls H locs (by omega) (by omega) (by rw [e4]; exact lv_sub hl [0, 1, 5, 4, 3, 2] rfl) hP hD hS

abbrev rm_c_isNew : Room := { frames := 0, cells := 0, slots := 0, locals := 0 }
set_option maxHeartbeats 4000000 in
set_option maxRecDepth 100000 in
theorem c_isNew (l : Launch) (dC : Nat → ClassId) (dI : Nat → Nat → Nat) (cI cB cQ cJ : ClassId) (aO : Nat) (bW : Nat) (bL : Nat) (bF : Nat) (bK : Nat) (bB : Nat) (bS : Nat) (bN : Nat) (bM : Nat) (th : Nat) (P : Nat) (n : Nat) (pw : Bool) (lf : Int32) (mz : Nat) (wd : Nat → Int32) (lo : Nat → Bool) (fr : Nat → Bool) (mk : Nat → Bool) (bt : Nat → Nat) (su : Nat → Int32) (kv : Nat → Int32) (mi : Nat → Nat) (sx : Nat) (hp5 : dr_P P) (hn : n < 5) (hs : sx < n) : MG l yX4_isNew (Cond.code yX4_isNew cX4_isNew 4 (some .boolean) :: TB) rm_c_isNew (dC, dI) vwCl (TY cI cB cQ cJ) [.ref aO, .int (nI sx)] [(aO, .inr (4, [.int (nI th), .int (nI P), .int (nI n), .ref bW, .ref bL, .ref bF, .ref bK, .int (bI pw), .int lf, .ref bB, .ref bS, .ref bN, .ref bM, .int (nI mz)])), (bW, .inl (cI, 676, .inl wd)), (bL, .inl (cB, 13, .inl (fun z9 => bI (lo z9)))), (bF, .inl (cB, 52, .inl (fun z9 => bI (fr z9)))), (bK, .inl (cB, 4, .inl (fun z9 => bI (mk z9)))), (bB, .inl (cI, 26, .inl (fun z9 => nI (bt z9)))), (bS, .inl (cI, 26, .inl su)), (bN, .inl (cI, 26, .inl kv)), (bM, .inl (cI, 13, .inl (fun z9 => nI (mi z9))))] (fun (r : Int32) (u : Unit) => r = bI (dr_any (fun d => fr (4 * d + sx)) P)) (fun (u : Unit) => [(aO, .inr (4, [.int (nI th), .int (nI P), .int (nI n), .ref bW, .ref bL, .ref bF, .ref bK, .int (bI pw), .int lf, .ref bB, .ref bS, .ref bN, .ref bM, .int (nI mz)])), (bW, .inl (cI, 676, .inl wd)), (bL, .inl (cB, 13, .inl (fun z9 => bI (lo z9)))), (bF, .inl (cB, 52, .inl (fun z9 => bI (fr z9)))), (bK, .inl (cB, 4, .inl (fun z9 => bI (mk z9)))), (bB, .inl (cI, 26, .inl (fun z9 => nI (bt z9)))), (bS, .inl (cI, 26, .inl su)), (bN, .inl (cI, 26, .inl kv)), (bM, .inl (cI, 13, .inl (fun z9 => nI (mi z9))))]) := by
  refine MG.ofW (cc := cX4_isNew) (maxL := 4) (rt := .boolean) (by decide +kernel) rfl (Nat.le_of_ble_eq_true rfl) ?_
  intro p e s m args below meth c A ls Q H locs hQ hx hb hml hr hlk hts hown hK hP hD hS hA hl
  have hts : ∀ w ∈ TB, w.before args s = true := fun w h => hts w (List.mem_cons_of_mem _ h)
  have hown : s.vm.findClass RX4 = some m.cls := hown
  have hl : lv_has ls 4 [(0, .ref aO), (1, .int (nI sx))] := hl
  have hP : va_P (dC, dI) vwCl [(aO, .inr (4, [.int (nI th), .int (nI P), .int (nI n), .ref bW, .ref bL, .ref bF, .ref bK, .int (bI pw), .int lf, .ref bB, .ref bS, .ref bN, .ref bM, .int (nI mz)])), (bW, .inl (cI, 676, .inl wd)), (bL, .inl (cB, 13, .inl (fun z9 => bI (lo z9)))), (bF, .inl (cB, 52, .inl (fun z9 => bI (fr z9)))), (bK, .inl (cB, 4, .inl (fun z9 => bI (mk z9)))), (bB, .inl (cI, 26, .inl (fun z9 => nI (bt z9)))), (bS, .inl (cI, 26, .inl su)), (bN, .inl (cI, 26, .inl kv)), (bM, .inl (cI, 13, .inl (fun z9 => nI (mi z9))))] H := hP
  have hD : va_D A [(aO, .inr (4, [.int (nI th), .int (nI P), .int (nI n), .ref bW, .ref bL, .ref bF, .ref bK, .int (bI pw), .int lf, .ref bB, .ref bS, .ref bN, .ref bM, .int (nI mz)])), (bW, .inl (cI, 676, .inl wd)), (bL, .inl (cB, 13, .inl (fun z9 => bI (lo z9)))), (bF, .inl (cB, 52, .inl (fun z9 => bI (fr z9)))), (bK, .inl (cB, 4, .inl (fun z9 => bI (mk z9)))), (bB, .inl (cI, 26, .inl (fun z9 => nI (bt z9)))), (bS, .inl (cI, 26, .inl su)), (bN, .inl (cI, 26, .inl kv)), (bM, .inl (cI, 13, .inl (fun z9 => nI (mi z9))))] := hD
  have hp := hp5.le
  have hpp := dr_PP hp5
  have hpq := dr_PP2 hp5
  refine lv_iconst (v := bI false) hx hb dX4_isNew_0 (by decide) ?_
  refine lv_istore_n hx hb dX4_isNew_1 rfl hl (by decide) rfl (fun ls hl => ?_)
  have hl : lv_has ls 4 [(2, .int (bI false)), (0, .ref aO), (1, .int (nI sx))] := hl
  refine lv_iconst (v := nI 0) hx hb dX4_isNew_2 (by decide) ?_
  refine lv_istore_n hx hb dX4_isNew_3 rfl hl (by decide) rfl (fun ls hl => ?_)
  have hl : lv_has ls 4 [(3, .int (nI 0)), (2, .int (bI false)), (0, .ref aO), (1, .int (nI sx))] := hl
  have lp4 : ∀ (n9 : Nat) (i : Nat) (ls : Array Slot) (H : Heap) (locs : List Loc), P - i < n9 → (i ≤ P) → lv_has ls 4 [(3, .int (nI i)), (2, .int (bI (dr_any (fun d => fr (4 * d + sx)) i))), (1, .int (nI sx)), (0, .ref aO)] → va_P (dC, dI) vwCl [(aO, .inr (4, [.int (nI th), .int (nI P), .int (nI n), .ref bW, .ref bL, .ref bF, .ref bK, .int (bI pw), .int lf, .ref bB, .ref bS, .ref bN, .ref bM, .int (nI mz)])), (bW, .inl (cI, 676, .inl wd)), (bL, .inl (cB, 13, .inl (fun z9 => bI (lo z9)))), (bF, .inl (cB, 52, .inl (fun z9 => bI (fr z9)))), (bK, .inl (cB, 4, .inl (fun z9 => bI (mk z9)))), (bB, .inl (cI, 26, .inl (fun z9 => nI (bt z9)))), (bS, .inl (cI, 26, .inl su)), (bN, .inl (cI, 26, .inl kv)), (bM, .inl (cI, 13, .inl (fun z9 => nI (mi z9))))] H → va_D A [(aO, .inr (4, [.int (nI th), .int (nI P), .int (nI n), .ref bW, .ref bL, .ref bF, .ref bK, .int (bI pw), .int lf, .ref bB, .ref bS, .ref bN, .ref bM, .int (nI mz)])), (bW, .inl (cI, 676, .inl wd)), (bL, .inl (cB, 13, .inl (fun z9 => bI (lo z9)))), (bF, .inl (cB, 52, .inl (fun z9 => bI (fr z9)))), (bK, .inl (cB, 4, .inl (fun z9 => bI (mk z9)))), (bB, .inl (cI, 26, .inl (fun z9 => nI (bt z9)))), (bS, .inl (cI, 26, .inl su)), (bN, .inl (cI, 26, .inl kv)), (bM, .inl (cI, 13, .inl (fun z9 => nI (mi z9))))] → va_S A s.heap H locs → W p l e rm_c_isNew s m args below meth c H locs 0 0 Q (F0 m 4 ls []) := by
    intro n9
    induction n9 with
    | zero => intro i ls H locs hn9; omega
    | succ n9 ih4 =>
      intro i ls H locs hn9 hi hl hP hD hS
      refine lv_iload_n hx hb dX4_isNew_4 rfl (lv_at hl 0 rfl) ?_
      refine lv_aload_n hx hb dX4_isNew_5 rfl (lv_at hl 3 rfl) ?_
      refine va_get (D := (dC, dI)) (ci := 4) (v := .int (nI P)) (C := RX4) (T := TX4) (N := 14) hx hb hts inX4 hown hK hP 0 rfl rfl 1 (by decide) (hts _ t_fX4_43) (fun _ h9 => h9) rfl dX4_isNew_6 ?_
      refine x_cge (tgt := 41) hx hb dX4_isNew_9 (by decide) (by omega) (by omega) (fun h9 => ?_) (fun h9 => ?_)
      · -- 9t
        have hie9 : i = P := by omega
        try rw [hie9] at hl
        try rw [hie9] at hP
        try rw [hie9] at hD
        have hl : lv_has ls 4 [(3, .int (nI P)), (2, .int (bI (dr_any (fun d => fr (4 * d + sx)) P))), (1, .int (nI sx)), (0, .ref aO)] := hl
        have hP : va_P (dC, dI) vwCl [(aO, .inr (4, [.int (nI th), .int (nI P), .int (nI n), .ref bW, .ref bL, .ref bF, .ref bK, .int (bI pw), .int lf, .ref bB, .ref bS, .ref bN, .ref bM, .int (nI mz)])), (bW, .inl (cI, 676, .inl wd)), (bL, .inl (cB, 13, .inl (fun z9 => bI (lo z9)))), (bF, .inl (cB, 52, .inl (fun z9 => bI (fr z9)))), (bK, .inl (cB, 4, .inl (fun z9 => bI (mk z9)))), (bB, .inl (cI, 26, .inl (fun z9 => nI (bt z9)))), (bS, .inl (cI, 26, .inl su)), (bN, .inl (cI, 26, .inl kv)), (bM, .inl (cI, 13, .inl (fun z9 => nI (mi z9))))] H := hP
        have hD : va_D A [(aO, .inr (4, [.int (nI th), .int (nI P), .int (nI n), .ref bW, .ref bL, .ref bF, .ref bK, .int (bI pw), .int lf, .ref bB, .ref bS, .ref bN, .ref bM, .int (nI mz)])), (bW, .inl (cI, 676, .inl wd)), (bL, .inl (cB, 13, .inl (fun z9 => bI (lo z9)))), (bF, .inl (cB, 52, .inl (fun z9 => bI (fr z9)))), (bK, .inl (cB, 4, .inl (fun z9 => bI (mk z9)))), (bB, .inl (cI, 26, .inl (fun z9 => nI (bt z9)))), (bS, .inl (cI, 26, .inl su)), (bN, .inl (cI, 26, .inl kv)), (bM, .inl (cI, 13, .inl (fun z9 => nI (mi z9))))] := hD
        refine lv_iload_n hx hb dX4_isNew_41 rfl (lv_at hl 1 rfl) ?_
        exact x_zret (D := (dC, dI)) (cl := vwCl) (A := A) () hQ hx hb hr hlk hP hD hS dX4_isNew_42 (by first | rfl | (simp [h9]; done) | (simp [h9]; omega))
      · -- 9f
        refine lv_iload_n hx hb dX4_isNew_12 rfl (lv_at hl 1 rfl) ?_
        refine x_ifT (tgt := 29) hx hb dX4_isNew_13 (by decide) (fun h13 => ?_) (fun h13 => ?_)
        · -- 13t
          refine lv_iconst (v := bI true) hx hb dX4_isNew_29 (by decide) ?_
          refine lv_goto (tgt := 34) hx hb dX4_isNew_30 (by decide) ?_
          refine lv_istore_n hx hb dX4_isNew_34 rfl hl (by decide) rfl (fun ls hl => ?_)
          have hl : lv_has ls 4 [(2, .int (bI true)), (3, .int (nI i)), (1, .int (nI sx)), (0, .ref aO)] := hl
          refine lv_iinc (v := nI (i + 1)) hx hb dX4_isNew_35 hl (k := 1) rfl (x_inc _) (by decide) rfl (fun ls hl => ?_)
          have hl : lv_has ls 4 [(3, .int (nI (i + 1))), (2, .int (bI true)), (1, .int (nI sx)), (0, .ref aO)] := hl
          refine lv_goto (tgt := 4) hx hb dX4_isNew_38 (by decide) ?_
          have e1 : (dr_any (fun d => fr (4 * d + sx)) (i + 1)) = true := by first | rfl | (simp [dr_any, h9, h13]; done) | (simp [dr_any, h9, h13]; omega)
          exact ih4 (i + 1) ls H locs (by omega) (by omega) (by rw [e1]; exact lv_sub hl [0, 1, 2, 3] rfl) hP hD hS
        · -- 13f
          refine lv_aload_n hx hb dX4_isNew_16 rfl (lv_at hl 3 rfl) ?_
          refine va_get (D := (dC, dI)) (ci := 4) (v := .ref bF) (C := RX4) (T := TX4) (N := 14) hx hb hts inX4 hown hK hP 0 rfl rfl 5 (by decide) (hts _ t_fX4_17) (fun _ h9 => h9) rfl dX4_isNew_17 ?_
          refine lv_iconst (v := nI 4) hx hb dX4_isNew_20 (by decide) ?_
          refine lv_iload_n hx hb dX4_isNew_21 rfl (lv_at hl 0 rfl) ?_
          refine x_mul hx hb dX4_isNew_22 ?_
          refine lv_iload_n hx hb dX4_isNew_23 rfl (lv_at hl 2 rfl) ?_
          refine x_add hx hb dX4_isNew_24 ?_
          refine x_zald (g := fr) hx hb hK hP 3 1 rfl rfl dX4_isNew_25 (by omega) (by omega) ?_
          refine x_ifF (tgt := 33) hx hb dX4_isNew_26 (by decide) (fun h26 => ?_) (fun h26 => ?_)
          · -- 26t
            refine lv_iconst (v := bI false) hx hb dX4_isNew_33 (by decide) ?_
            refine lv_istore_n hx hb dX4_isNew_34 rfl hl (by decide) rfl (fun ls hl => ?_)
            have hl : lv_has ls 4 [(2, .int (bI false)), (3, .int (nI i)), (1, .int (nI sx)), (0, .ref aO)] := hl
            refine lv_iinc (v := nI (i + 1)) hx hb dX4_isNew_35 hl (k := 1) rfl (x_inc _) (by decide) rfl (fun ls hl => ?_)
            have hl : lv_has ls 4 [(3, .int (nI (i + 1))), (2, .int (bI false)), (1, .int (nI sx)), (0, .ref aO)] := hl
            refine lv_goto (tgt := 4) hx hb dX4_isNew_38 (by decide) ?_
            have e2 : (dr_any (fun d => fr (4 * d + sx)) (i + 1)) = false := by first | rfl | (simp [dr_any, h9, h13, h26]; done) | (simp [dr_any, h9, h13, h26]; omega)
            exact ih4 (i + 1) ls H locs (by omega) (by omega) (by rw [e2]; exact lv_sub hl [0, 1, 2, 3] rfl) hP hD hS
          · -- 26f
            refine lv_iconst (v := bI true) hx hb dX4_isNew_29 (by decide) ?_
            refine lv_goto (tgt := 34) hx hb dX4_isNew_30 (by decide) ?_
            refine lv_istore_n hx hb dX4_isNew_34 rfl hl (by decide) rfl (fun ls hl => ?_)
            have hl : lv_has ls 4 [(2, .int (bI true)), (3, .int (nI i)), (1, .int (nI sx)), (0, .ref aO)] := hl
            refine lv_iinc (v := nI (i + 1)) hx hb dX4_isNew_35 hl (k := 1) rfl (x_inc _) (by decide) rfl (fun ls hl => ?_)
            have hl : lv_has ls 4 [(3, .int (nI (i + 1))), (2, .int (bI true)), (1, .int (nI sx)), (0, .ref aO)] := hl
            refine lv_goto (tgt := 4) hx hb dX4_isNew_38 (by decide) ?_
            have e3 : (dr_any (fun d => fr (4 * d + sx)) (i + 1)) = true := by first | rfl | (simp [dr_any, h9, h13, h26]; done) | (simp [dr_any, h9, h13, h26]; omega)
            exact ih4 (i + 1) ls H locs (by omega) (by omega) (by rw [e3]; exact lv_sub hl [0, 1, 2, 3] rfl) hP hD hS
  have e4 : (dr_any (fun d => fr (4 * d + sx)) 0) = false := by first | rfl | (simp [dr_any]; done) | (simp [dr_any]; omega)
  exact lp4 (P - 0 + 1) 0 ls H locs (by omega) (by omega) (by rw [e4]; exact lv_sub hl [0, 1, 3, 2] rfl) hP hD hS

abbrev rm_c_mcut0 : Room := { frames := 0, cells := 0, slots := 0, locals := 0 }
set_option maxHeartbeats 4000000 in
set_option maxRecDepth 100000 in
theorem c_mcut0 (l : Launch) (dC : Nat → ClassId) (dI : Nat → Nat → Nat) (cI cB cQ cJ : ClassId) (aO : Nat) (bW : Nat) (bL : Nat) (bF : Nat) (bK : Nat) (bB : Nat) (bS : Nat) (bN : Nat) (bM : Nat) (th : Nat) (P : Nat) (n : Nat) (pw : Bool) (lf : Int32) (mz : Nat) (wd : Nat → Int32) (lo : Nat → Bool) (fr : Nat → Bool) (mk : Nat → Bool) (bt : Nat → Nat) (su : Nat → Int32) (kv : Nat → Int32) (mi : Nat → Nat) (x : Int32) (hp5 : dr_P P) (hn : n < 5) (hc : pw = false ∨ x < 0) : MG l yX4_cut (Cond.code yX4_cut cX4_cut 2 (some .boolean) :: TB) rm_c_mcut0 (dC, dI) vwCl (TY cI cB cQ cJ) [.ref aO, .int x] [(aO, .inr (4, [.int (nI th), .int (nI P), .int (nI n), .ref bW, .ref bL, .ref bF, .ref bK, .int (bI pw), .int lf, .ref bB, .ref bS, .ref bN, .ref bM, .int (nI mz)])), (bW, .inl (cI, 676, .inl wd)), (bL, .inl (cB, 13, .inl (fun z9 => bI (lo z9)))), (bF, .inl (cB, 52, .inl (fun z9 => bI (fr z9)))), (bK, .inl (cB, 4, .inl (fun z9 => bI (mk z9)))), (bB, .inl (cI, 26, .inl (fun z9 => nI (bt z9)))), (bS, .inl (cI, 26, .inl su)), (bN, .inl (cI, 26, .inl kv)), (bM, .inl (cI, 13, .inl (fun z9 => nI (mi z9))))] (fun (r : Int32) (u : Unit) => r = bI false) (fun (u : Unit) => [(aO, .inr (4, [.int (nI 0), .int (nI P), .int (nI n), .ref bW, .ref bL, .ref bF, .ref bK, .int (bI pw), .int lf, .ref bB, .ref bS, .ref bN, .ref bM, .int (nI mz)])), (bW, .inl (cI, 676, .inl wd)), (bL, .inl (cB, 13, .inl (fun z9 => bI (lo z9)))), (bF, .inl (cB, 52, .inl (fun z9 => bI (fr z9)))), (bK, .inl (cB, 4, .inl (fun z9 => bI (mk z9)))), (bB, .inl (cI, 26, .inl (fun z9 => nI (bt z9)))), (bS, .inl (cI, 26, .inl su)), (bN, .inl (cI, 26, .inl kv)), (bM, .inl (cI, 13, .inl (fun z9 => nI (mi z9))))]) := by
  refine MG.ofW (cc := cX4_cut) (maxL := 2) (rt := .boolean) (by decide +kernel) rfl (Nat.le_of_ble_eq_true rfl) ?_
  intro p e s m args below meth c A ls Q H locs hQ hx hb hml hr hlk hts hown hK hP hD hS hA hl
  have hts : ∀ w ∈ TB, w.before args s = true := fun w h => hts w (List.mem_cons_of_mem _ h)
  have hown : s.vm.findClass RX4 = some m.cls := hown
  have hl : lv_has ls 2 [(0, .ref aO), (1, .int x)] := hl
  have hP : va_P (dC, dI) vwCl [(aO, .inr (4, [.int (nI th), .int (nI P), .int (nI n), .ref bW, .ref bL, .ref bF, .ref bK, .int (bI pw), .int lf, .ref bB, .ref bS, .ref bN, .ref bM, .int (nI mz)])), (bW, .inl (cI, 676, .inl wd)), (bL, .inl (cB, 13, .inl (fun z9 => bI (lo z9)))), (bF, .inl (cB, 52, .inl (fun z9 => bI (fr z9)))), (bK, .inl (cB, 4, .inl (fun z9 => bI (mk z9)))), (bB, .inl (cI, 26, .inl (fun z9 => nI (bt z9)))), (bS, .inl (cI, 26, .inl su)), (bN, .inl (cI, 26, .inl kv)), (bM, .inl (cI, 13, .inl (fun z9 => nI (mi z9))))] H := hP
  have hD : va_D A [(aO, .inr (4, [.int (nI th), .int (nI P), .int (nI n), .ref bW, .ref bL, .ref bF, .ref bK, .int (bI pw), .int lf, .ref bB, .ref bS, .ref bN, .ref bM, .int (nI mz)])), (bW, .inl (cI, 676, .inl wd)), (bL, .inl (cB, 13, .inl (fun z9 => bI (lo z9)))), (bF, .inl (cB, 52, .inl (fun z9 => bI (fr z9)))), (bK, .inl (cB, 4, .inl (fun z9 => bI (mk z9)))), (bB, .inl (cI, 26, .inl (fun z9 => nI (bt z9)))), (bS, .inl (cI, 26, .inl su)), (bN, .inl (cI, 26, .inl kv)), (bM, .inl (cI, 13, .inl (fun z9 => nI (mi z9))))] := hD
  have hp := hp5.le
  have hpp := dr_PP hp5
  have hpq := dr_PP2 hp5
  refine lv_aload_n hx hb dX4_cut_0 rfl (lv_at hl 0 rfl) ?_
  refine lv_iconst (v := nI 0) hx hb dX4_cut_1 (by decide) ?_
  refine va_put (D := (dC, dI)) (ci := 4) (v := .int (nI 0)) (ty := .int) (C := RX4) (T := TX4) (N := 14) hx hb hts inX4 tyX4 tyX4_ok nmX4 hown hK hP hD hS 0 rfl rfl 0 (by decide) (hts _ t_fX4_49) (fun _ h9 => h9) rfl (by decide +kernel) rfl rfl (Nat.le_of_ble_eq_true rfl) dX4_cut_2 (fun H locs hP hD hS => ?_)
  have hP : va_P (dC, dI) vwCl [(aO, .inr (4, [.int (nI 0), .int (nI P), .int (nI n), .ref bW, .ref bL, .ref bF, .ref bK, .int (bI pw), .int lf, .ref bB, .ref bS, .ref bN, .ref bM, .int (nI mz)])), (bW, .inl (cI, 676, .inl wd)), (bL, .inl (cB, 13, .inl (fun z9 => bI (lo z9)))), (bF, .inl (cB, 52, .inl (fun z9 => bI (fr z9)))), (bK, .inl (cB, 4, .inl (fun z9 => bI (mk z9)))), (bB, .inl (cI, 26, .inl (fun z9 => nI (bt z9)))), (bS, .inl (cI, 26, .inl su)), (bN, .inl (cI, 26, .inl kv)), (bM, .inl (cI, 13, .inl (fun z9 => nI (mi z9))))] H := hP
  have hD : va_D A [(aO, .inr (4, [.int (nI 0), .int (nI P), .int (nI n), .ref bW, .ref bL, .ref bF, .ref bK, .int (bI pw), .int lf, .ref bB, .ref bS, .ref bN, .ref bM, .int (nI mz)])), (bW, .inl (cI, 676, .inl wd)), (bL, .inl (cB, 13, .inl (fun z9 => bI (lo z9)))), (bF, .inl (cB, 52, .inl (fun z9 => bI (fr z9)))), (bK, .inl (cB, 4, .inl (fun z9 => bI (mk z9)))), (bB, .inl (cI, 26, .inl (fun z9 => nI (bt z9)))), (bS, .inl (cI, 26, .inl su)), (bN, .inl (cI, 26, .inl kv)), (bM, .inl (cI, 13, .inl (fun z9 => nI (mi z9))))] := hD
  refine lv_aload_n hx hb dX4_cut_5 rfl (lv_at hl 0 rfl) ?_
  refine va_get (D := (dC, dI)) (ci := 4) (v := .int (bI pw)) (C := RX4) (T := TX4) (N := 14) hx hb hts inX4 hown hK hP 0 rfl rfl 7 (by decide) (hts _ t_fX4_23) (fun _ h9 => h9) rfl dX4_cut_6 ?_
  refine x_ifF (tgt := 16) hx hb dX4_cut_9 (by decide) (fun h9 => ?_) (fun h9 => ?_)
  · -- 9t
    refine lv_iconst (v := bI false) hx hb dX4_cut_16 (by decide) ?_
    exact x_zret (D := (dC, dI)) (cl := vwCl) (A := A) () hQ hx hb hr hlk hP hD hS dX4_cut_17 (by first | rfl | (simp [h9]; done) | (simp [h9]; omega))
  · -- 9f
    refine lv_iload_n hx hb dX4_cut_12 rfl (lv_at hl 1 rfl) ?_
    refine lv_if_ge (tgt := 18) hx hb dX4_cut_13 (by decide) (fun h13 => ?_) (fun h13 => ?_)
    · -- 13t
      rcases hc with z | z <;> first | (rw [z] at h9; cases h9) | exact absurd z (Int32.not_lt.mpr h13)
    · -- 13f
      refine lv_iconst (v := bI false) hx hb dX4_cut_16 (by decide) ?_
      exact x_zret (D := (dC, dI)) (cl := vwCl) (A := A) () hQ hx hb hr hlk hP hD hS dX4_cut_17 (by first | rfl | (simp [h9, h13]; done) | (simp [h9, h13]; omega))

abbrev rm_c_mcut1 : Room := { frames := 0, cells := 0, slots := 0, locals := 0 }
set_option maxHeartbeats 4000000 in
set_option maxRecDepth 100000 in
theorem c_mcut1 (l : Launch) (dC : Nat → ClassId) (dI : Nat → Nat → Nat) (cI cB cQ cJ : ClassId) (aO : Nat) (bW : Nat) (bL : Nat) (bF : Nat) (bK : Nat) (bB : Nat) (bS : Nat) (bN : Nat) (bM : Nat) (th : Nat) (P : Nat) (n : Nat) (pw : Bool) (lf : Int32) (mz : Nat) (wd : Nat → Int32) (lo : Nat → Bool) (fr : Nat → Bool) (mk : Nat → Bool) (bt : Nat → Nat) (su : Nat → Int32) (kv : Nat → Int32) (mi : Nat → Nat) (x : Int32) (hp5 : dr_P P) (hn : n < 5) (hc : 0 ≤ x) : MG l yX4_cut (Cond.code yX4_cut cX4_cut 2 (some .boolean) :: TB) rm_c_mcut1 (dC, dI) vwCl (TY cI cB cQ cJ) [.ref aO, .int x] [(aO, .inr (4, [.int (nI th), .int (nI P), .int (nI n), .ref bW, .ref bL, .ref bF, .ref bK, .int (bI true), .int lf, .ref bB, .ref bS, .ref bN, .ref bM, .int (nI mz)])), (bW, .inl (cI, 676, .inl wd)), (bL, .inl (cB, 13, .inl (fun z9 => bI (lo z9)))), (bF, .inl (cB, 52, .inl (fun z9 => bI (fr z9)))), (bK, .inl (cB, 4, .inl (fun z9 => bI (mk z9)))), (bB, .inl (cI, 26, .inl (fun z9 => nI (bt z9)))), (bS, .inl (cI, 26, .inl su)), (bN, .inl (cI, 26, .inl kv)), (bM, .inl (cI, 13, .inl (fun z9 => nI (mi z9))))] (fun (r : Int32) (u : Unit) => r = bI true) (fun (u : Unit) => [(aO, .inr (4, [.int (nI 0), .int (nI P), .int (nI n), .ref bW, .ref bL, .ref bF, .ref bK, .int (bI true), .int x, .ref bB, .ref bS, .ref bN, .ref bM, .int (nI mz)])), (bW, .inl (cI, 676, .inl wd)), (bL, .inl (cB, 13, .inl (fun z9 => bI (lo z9)))), (bF, .inl (cB, 52, .inl (fun z9 => bI (fr z9)))), (bK, .inl (cB, 4, .inl (fun z9 => bI (mk z9)))), (bB, .inl (cI, 26, .inl (fun z9 => nI (bt z9)))), (bS, .inl (cI, 26, .inl su)), (bN, .inl (cI, 26, .inl kv)), (bM, .inl (cI, 13, .inl (fun z9 => nI (mi z9))))]) := by
  refine MG.ofW (cc := cX4_cut) (maxL := 2) (rt := .boolean) (by decide +kernel) rfl (Nat.le_of_ble_eq_true rfl) ?_
  intro p e s m args below meth c A ls Q H locs hQ hx hb hml hr hlk hts hown hK hP hD hS hA hl
  have hts : ∀ w ∈ TB, w.before args s = true := fun w h => hts w (List.mem_cons_of_mem _ h)
  have hown : s.vm.findClass RX4 = some m.cls := hown
  have hl : lv_has ls 2 [(0, .ref aO), (1, .int x)] := hl
  have hP : va_P (dC, dI) vwCl [(aO, .inr (4, [.int (nI th), .int (nI P), .int (nI n), .ref bW, .ref bL, .ref bF, .ref bK, .int (bI true), .int lf, .ref bB, .ref bS, .ref bN, .ref bM, .int (nI mz)])), (bW, .inl (cI, 676, .inl wd)), (bL, .inl (cB, 13, .inl (fun z9 => bI (lo z9)))), (bF, .inl (cB, 52, .inl (fun z9 => bI (fr z9)))), (bK, .inl (cB, 4, .inl (fun z9 => bI (mk z9)))), (bB, .inl (cI, 26, .inl (fun z9 => nI (bt z9)))), (bS, .inl (cI, 26, .inl su)), (bN, .inl (cI, 26, .inl kv)), (bM, .inl (cI, 13, .inl (fun z9 => nI (mi z9))))] H := hP
  have hD : va_D A [(aO, .inr (4, [.int (nI th), .int (nI P), .int (nI n), .ref bW, .ref bL, .ref bF, .ref bK, .int (bI true), .int lf, .ref bB, .ref bS, .ref bN, .ref bM, .int (nI mz)])), (bW, .inl (cI, 676, .inl wd)), (bL, .inl (cB, 13, .inl (fun z9 => bI (lo z9)))), (bF, .inl (cB, 52, .inl (fun z9 => bI (fr z9)))), (bK, .inl (cB, 4, .inl (fun z9 => bI (mk z9)))), (bB, .inl (cI, 26, .inl (fun z9 => nI (bt z9)))), (bS, .inl (cI, 26, .inl su)), (bN, .inl (cI, 26, .inl kv)), (bM, .inl (cI, 13, .inl (fun z9 => nI (mi z9))))] := hD
  have hp := hp5.le
  have hpp := dr_PP hp5
  have hpq := dr_PP2 hp5
  refine lv_aload_n hx hb dX4_cut_0 rfl (lv_at hl 0 rfl) ?_
  refine lv_iconst (v := nI 0) hx hb dX4_cut_1 (by decide) ?_
  refine va_put (D := (dC, dI)) (ci := 4) (v := .int (nI 0)) (ty := .int) (C := RX4) (T := TX4) (N := 14) hx hb hts inX4 tyX4 tyX4_ok nmX4 hown hK hP hD hS 0 rfl rfl 0 (by decide) (hts _ t_fX4_49) (fun _ h9 => h9) rfl (by decide +kernel) rfl rfl (Nat.le_of_ble_eq_true rfl) dX4_cut_2 (fun H locs hP hD hS => ?_)
  have hP : va_P (dC, dI) vwCl [(aO, .inr (4, [.int (nI 0), .int (nI P), .int (nI n), .ref bW, .ref bL, .ref bF, .ref bK, .int (bI true), .int lf, .ref bB, .ref bS, .ref bN, .ref bM, .int (nI mz)])), (bW, .inl (cI, 676, .inl wd)), (bL, .inl (cB, 13, .inl (fun z9 => bI (lo z9)))), (bF, .inl (cB, 52, .inl (fun z9 => bI (fr z9)))), (bK, .inl (cB, 4, .inl (fun z9 => bI (mk z9)))), (bB, .inl (cI, 26, .inl (fun z9 => nI (bt z9)))), (bS, .inl (cI, 26, .inl su)), (bN, .inl (cI, 26, .inl kv)), (bM, .inl (cI, 13, .inl (fun z9 => nI (mi z9))))] H := hP
  have hD : va_D A [(aO, .inr (4, [.int (nI 0), .int (nI P), .int (nI n), .ref bW, .ref bL, .ref bF, .ref bK, .int (bI true), .int lf, .ref bB, .ref bS, .ref bN, .ref bM, .int (nI mz)])), (bW, .inl (cI, 676, .inl wd)), (bL, .inl (cB, 13, .inl (fun z9 => bI (lo z9)))), (bF, .inl (cB, 52, .inl (fun z9 => bI (fr z9)))), (bK, .inl (cB, 4, .inl (fun z9 => bI (mk z9)))), (bB, .inl (cI, 26, .inl (fun z9 => nI (bt z9)))), (bS, .inl (cI, 26, .inl su)), (bN, .inl (cI, 26, .inl kv)), (bM, .inl (cI, 13, .inl (fun z9 => nI (mi z9))))] := hD
  refine lv_aload_n hx hb dX4_cut_5 rfl (lv_at hl 0 rfl) ?_
  refine va_get (D := (dC, dI)) (ci := 4) (v := .int (bI true)) (C := RX4) (T := TX4) (N := 14) hx hb hts inX4 hown hK hP 0 rfl rfl 7 (by decide) (hts _ t_fX4_23) (fun _ h9 => h9) rfl dX4_cut_6 ?_
  refine x_ifF (tgt := 16) hx hb dX4_cut_9 (by decide) (fun z9 => by cases z9) (fun _ => ?_)
  refine lv_iload_n hx hb dX4_cut_12 rfl (lv_at hl 1 rfl) ?_
  refine lv_if_ge (tgt := 18) hx hb dX4_cut_13 (by decide) (fun h13 => ?_) (fun h13 => ?_)
  · -- 13t
    refine lv_aload_n hx hb dX4_cut_18 rfl (lv_at hl 0 rfl) ?_
    refine lv_iload_n hx hb dX4_cut_19 rfl (lv_at hl 1 rfl) ?_
    refine va_put (D := (dC, dI)) (ci := 4) (v := .int x) (ty := .int) (C := RX4) (T := TX4) (N := 14) hx hb hts inX4 tyX4 tyX4_ok nmX4 hown hK hP hD hS 0 rfl rfl 8 (by decide) (hts _ t_fX4_27) (fun _ h9 => h9) rfl (by decide +kernel) rfl rfl (Nat.le_of_ble_eq_true rfl) dX4_cut_20 (fun H locs hP hD hS => ?_)
    have hP : va_P (dC, dI) vwCl [(aO, .inr (4, [.int (nI 0), .int (nI P), .int (nI n), .ref bW, .ref bL, .ref bF, .ref bK, .int (bI true), .int x, .ref bB, .ref bS, .ref bN, .ref bM, .int (nI mz)])), (bW, .inl (cI, 676, .inl wd)), (bL, .inl (cB, 13, .inl (fun z9 => bI (lo z9)))), (bF, .inl (cB, 52, .inl (fun z9 => bI (fr z9)))), (bK, .inl (cB, 4, .inl (fun z9 => bI (mk z9)))), (bB, .inl (cI, 26, .inl (fun z9 => nI (bt z9)))), (bS, .inl (cI, 26, .inl su)), (bN, .inl (cI, 26, .inl kv)), (bM, .inl (cI, 13, .inl (fun z9 => nI (mi z9))))] H := hP
    have hD : va_D A [(aO, .inr (4, [.int (nI 0), .int (nI P), .int (nI n), .ref bW, .ref bL, .ref bF, .ref bK, .int (bI true), .int x, .ref bB, .ref bS, .ref bN, .ref bM, .int (nI mz)])), (bW, .inl (cI, 676, .inl wd)), (bL, .inl (cB, 13, .inl (fun z9 => bI (lo z9)))), (bF, .inl (cB, 52, .inl (fun z9 => bI (fr z9)))), (bK, .inl (cB, 4, .inl (fun z9 => bI (mk z9)))), (bB, .inl (cI, 26, .inl (fun z9 => nI (bt z9)))), (bS, .inl (cI, 26, .inl su)), (bN, .inl (cI, 26, .inl kv)), (bM, .inl (cI, 13, .inl (fun z9 => nI (mi z9))))] := hD
    refine lv_iconst (v := bI true) hx hb dX4_cut_23 (by decide) ?_
    exact x_zret (D := (dC, dI)) (cl := vwCl) (A := A) () hQ hx hb hr hlk hP hD hS dX4_cut_24 (by first | rfl | (simp [h13]; done) | (simp [h13]; omega))
  · -- 13f
    exact absurd hc h13

abbrev rm_c_mon : Room := { frames := 0, cells := 0, slots := 0, locals := 0 }
set_option maxHeartbeats 4000000 in
set_option maxRecDepth 100000 in
theorem c_mon (l : Launch) (dC : Nat → ClassId) (dI : Nat → Nat → Nat) (cI cB cQ cJ : ClassId) (aO : Nat) (bW : Nat) (bL : Nat) (bF : Nat) (bK : Nat) (bB : Nat) (bS : Nat) (bN : Nat) (bM : Nat) (th : Nat) (P : Nat) (n : Nat) (pw : Bool) (lf : Int32) (mz : Nat) (wd : Nat → Int32) (lo : Nat → Bool) (fr : Nat → Bool) (mk : Nat → Bool) (bt : Nat → Nat) (su : Nat → Int32) (kv : Nat → Int32) (mi : Nat → Nat) (hp5 : dr_P P) (hn : n < 5) : MG l yX4_on (Cond.code yX4_on cX4_on 1 (some .boolean) :: TB) rm_c_mon (dC, dI) vwCl (TY cI cB cQ cJ) [.ref aO] [(aO, .inr (4, [.int (nI th), .int (nI P), .int (nI n), .ref bW, .ref bL, .ref bF, .ref bK, .int (bI pw), .int lf, .ref bB, .ref bS, .ref bN, .ref bM, .int (nI mz)])), (bW, .inl (cI, 676, .inl wd)), (bL, .inl (cB, 13, .inl (fun z9 => bI (lo z9)))), (bF, .inl (cB, 52, .inl (fun z9 => bI (fr z9)))), (bK, .inl (cB, 4, .inl (fun z9 => bI (mk z9)))), (bB, .inl (cI, 26, .inl (fun z9 => nI (bt z9)))), (bS, .inl (cI, 26, .inl su)), (bN, .inl (cI, 26, .inl kv)), (bM, .inl (cI, 13, .inl (fun z9 => nI (mi z9))))] (fun (r : Int32) (u : Unit) => r = bI pw) (fun (u : Unit) => [(aO, .inr (4, [.int (nI 0), .int (nI P), .int (nI n), .ref bW, .ref bL, .ref bF, .ref bK, .int (bI pw), .int lf, .ref bB, .ref bS, .ref bN, .ref bM, .int (nI mz)])), (bW, .inl (cI, 676, .inl wd)), (bL, .inl (cB, 13, .inl (fun z9 => bI (lo z9)))), (bF, .inl (cB, 52, .inl (fun z9 => bI (fr z9)))), (bK, .inl (cB, 4, .inl (fun z9 => bI (mk z9)))), (bB, .inl (cI, 26, .inl (fun z9 => nI (bt z9)))), (bS, .inl (cI, 26, .inl su)), (bN, .inl (cI, 26, .inl kv)), (bM, .inl (cI, 13, .inl (fun z9 => nI (mi z9))))]) := by
  refine MG.ofW (cc := cX4_on) (maxL := 1) (rt := .boolean) (by decide +kernel) rfl (Nat.le_of_ble_eq_true rfl) ?_
  intro p e s m args below meth c A ls Q H locs hQ hx hb hml hr hlk hts hown hK hP hD hS hA hl
  have hts : ∀ w ∈ TB, w.before args s = true := fun w h => hts w (List.mem_cons_of_mem _ h)
  have hown : s.vm.findClass RX4 = some m.cls := hown
  have hl : lv_has ls 1 [(0, .ref aO)] := hl
  have hP : va_P (dC, dI) vwCl [(aO, .inr (4, [.int (nI th), .int (nI P), .int (nI n), .ref bW, .ref bL, .ref bF, .ref bK, .int (bI pw), .int lf, .ref bB, .ref bS, .ref bN, .ref bM, .int (nI mz)])), (bW, .inl (cI, 676, .inl wd)), (bL, .inl (cB, 13, .inl (fun z9 => bI (lo z9)))), (bF, .inl (cB, 52, .inl (fun z9 => bI (fr z9)))), (bK, .inl (cB, 4, .inl (fun z9 => bI (mk z9)))), (bB, .inl (cI, 26, .inl (fun z9 => nI (bt z9)))), (bS, .inl (cI, 26, .inl su)), (bN, .inl (cI, 26, .inl kv)), (bM, .inl (cI, 13, .inl (fun z9 => nI (mi z9))))] H := hP
  have hD : va_D A [(aO, .inr (4, [.int (nI th), .int (nI P), .int (nI n), .ref bW, .ref bL, .ref bF, .ref bK, .int (bI pw), .int lf, .ref bB, .ref bS, .ref bN, .ref bM, .int (nI mz)])), (bW, .inl (cI, 676, .inl wd)), (bL, .inl (cB, 13, .inl (fun z9 => bI (lo z9)))), (bF, .inl (cB, 52, .inl (fun z9 => bI (fr z9)))), (bK, .inl (cB, 4, .inl (fun z9 => bI (mk z9)))), (bB, .inl (cI, 26, .inl (fun z9 => nI (bt z9)))), (bS, .inl (cI, 26, .inl su)), (bN, .inl (cI, 26, .inl kv)), (bM, .inl (cI, 13, .inl (fun z9 => nI (mi z9))))] := hD
  have hp := hp5.le
  have hpp := dr_PP hp5
  have hpq := dr_PP2 hp5
  refine lv_aload_n hx hb dX4_on_0 rfl (lv_at hl 0 rfl) ?_
  refine lv_iconst (v := nI 0) hx hb dX4_on_1 (by decide) ?_
  refine va_put (D := (dC, dI)) (ci := 4) (v := .int (nI 0)) (ty := .int) (C := RX4) (T := TX4) (N := 14) hx hb hts inX4 tyX4 tyX4_ok nmX4 hown hK hP hD hS 0 rfl rfl 0 (by decide) (hts _ t_fX4_49) (fun _ h9 => h9) rfl (by decide +kernel) rfl rfl (Nat.le_of_ble_eq_true rfl) dX4_on_2 (fun H locs hP hD hS => ?_)
  have hP : va_P (dC, dI) vwCl [(aO, .inr (4, [.int (nI 0), .int (nI P), .int (nI n), .ref bW, .ref bL, .ref bF, .ref bK, .int (bI pw), .int lf, .ref bB, .ref bS, .ref bN, .ref bM, .int (nI mz)])), (bW, .inl (cI, 676, .inl wd)), (bL, .inl (cB, 13, .inl (fun z9 => bI (lo z9)))), (bF, .inl (cB, 52, .inl (fun z9 => bI (fr z9)))), (bK, .inl (cB, 4, .inl (fun z9 => bI (mk z9)))), (bB, .inl (cI, 26, .inl (fun z9 => nI (bt z9)))), (bS, .inl (cI, 26, .inl su)), (bN, .inl (cI, 26, .inl kv)), (bM, .inl (cI, 13, .inl (fun z9 => nI (mi z9))))] H := hP
  have hD : va_D A [(aO, .inr (4, [.int (nI 0), .int (nI P), .int (nI n), .ref bW, .ref bL, .ref bF, .ref bK, .int (bI pw), .int lf, .ref bB, .ref bS, .ref bN, .ref bM, .int (nI mz)])), (bW, .inl (cI, 676, .inl wd)), (bL, .inl (cB, 13, .inl (fun z9 => bI (lo z9)))), (bF, .inl (cB, 52, .inl (fun z9 => bI (fr z9)))), (bK, .inl (cB, 4, .inl (fun z9 => bI (mk z9)))), (bB, .inl (cI, 26, .inl (fun z9 => nI (bt z9)))), (bS, .inl (cI, 26, .inl su)), (bN, .inl (cI, 26, .inl kv)), (bM, .inl (cI, 13, .inl (fun z9 => nI (mi z9))))] := hD
  refine lv_aload_n hx hb dX4_on_5 rfl (lv_at hl 0 rfl) ?_
  refine va_get (D := (dC, dI)) (ci := 4) (v := .int (bI pw)) (C := RX4) (T := TX4) (N := 14) hx hb hts inX4 hown hK hP 0 rfl rfl 7 (by decide) (hts _ t_fX4_23) (fun _ h9 => h9) rfl dX4_on_6 ?_
  exact x_zret (D := (dC, dI)) (cl := vwCl) (A := A) () hQ hx hb hr hlk hP hD hS dX4_on_9 (by first | rfl | (simp []; done) | (simp []; omega))

abbrev rm_c_mdrive0 : Room := { frames := 1, cells := 0, slots := 0, locals := 21 }
set_option maxHeartbeats 4000000 in
set_option maxRecDepth 100000 in
theorem c_mdrive0 (l : Launch) (dC : Nat → ClassId) (dI : Nat → Nat → Nat) (cI cB cQ cJ : ClassId) (aO : Nat) (bW : Nat) (bL : Nat) (bF : Nat) (bK : Nat) (bB : Nat) (bS : Nat) (bN : Nat) (bM : Nat) (th : Nat) (P : Nat) (n : Nat) (pw : Bool) (lf : Int32) (mz : Nat) (wd : Nat → Int32) (lo : Nat → Bool) (fr : Nat → Bool) (mk : Nat → Bool) (bt : Nat → Nat) (su : Nat → Int32) (kv : Nat → Int32) (mi : Nat → Nat) (x : Int32) (hp5 : dr_P P) (hn : n < 5) (hc : dr_in x P = false) : MG l yX4_drive (Cond.code yX4_drive cX4_drive 4 (some .int) :: TB) rm_c_mdrive0 (dC, dI) vwCl (TY cI cB cQ cJ) [.ref aO, .int x] [(aO, .inr (4, [.int (nI th), .int (nI P), .int (nI n), .ref bW, .ref bL, .ref bF, .ref bK, .int (bI pw), .int lf, .ref bB, .ref bS, .ref bN, .ref bM, .int (nI mz)])), (bW, .inl (cI, 676, .inl wd)), (bL, .inl (cB, 13, .inl (fun z9 => bI (lo z9)))), (bF, .inl (cB, 52, .inl (fun z9 => bI (fr z9)))), (bK, .inl (cB, 4, .inl (fun z9 => bI (mk z9)))), (bB, .inl (cI, 26, .inl (fun z9 => nI (bt z9)))), (bS, .inl (cI, 26, .inl su)), (bN, .inl (cI, 26, .inl kv)), (bM, .inl (cI, 13, .inl (fun z9 => nI (mi z9))))] (fun (r : Int32) (u : Unit) => r = (-1)) (fun (u : Unit) => [(aO, .inr (4, [.int (nI 0), .int (nI P), .int (nI n), .ref bW, .ref bL, .ref bF, .ref bK, .int (bI pw), .int lf, .ref bB, .ref bS, .ref bN, .ref bM, .int (nI mz)])), (bW, .inl (cI, 676, .inl wd)), (bL, .inl (cB, 13, .inl (fun z9 => bI (lo z9)))), (bF, .inl (cB, 52, .inl (fun z9 => bI (fr z9)))), (bK, .inl (cB, 4, .inl (fun z9 => bI (mk z9)))), (bB, .inl (cI, 26, .inl (fun z9 => nI (bt z9)))), (bS, .inl (cI, 26, .inl su)), (bN, .inl (cI, 26, .inl kv)), (bM, .inl (cI, 13, .inl (fun z9 => nI (mi z9))))]) := by
  refine MG.ofW (cc := cX4_drive) (maxL := 4) (rt := .int) (by decide +kernel) rfl (Nat.le_of_ble_eq_true rfl) ?_
  intro p e s m args below meth c A ls Q H locs hQ hx hb hml hr hlk hts hown hK hP hD hS hA hl
  have hts : ∀ w ∈ TB, w.before args s = true := fun w h => hts w (List.mem_cons_of_mem _ h)
  have hown : s.vm.findClass RX4 = some m.cls := hown
  have hl : lv_has ls 4 [(0, .ref aO), (1, .int x)] := hl
  have hP : va_P (dC, dI) vwCl [(aO, .inr (4, [.int (nI th), .int (nI P), .int (nI n), .ref bW, .ref bL, .ref bF, .ref bK, .int (bI pw), .int lf, .ref bB, .ref bS, .ref bN, .ref bM, .int (nI mz)])), (bW, .inl (cI, 676, .inl wd)), (bL, .inl (cB, 13, .inl (fun z9 => bI (lo z9)))), (bF, .inl (cB, 52, .inl (fun z9 => bI (fr z9)))), (bK, .inl (cB, 4, .inl (fun z9 => bI (mk z9)))), (bB, .inl (cI, 26, .inl (fun z9 => nI (bt z9)))), (bS, .inl (cI, 26, .inl su)), (bN, .inl (cI, 26, .inl kv)), (bM, .inl (cI, 13, .inl (fun z9 => nI (mi z9))))] H := hP
  have hD : va_D A [(aO, .inr (4, [.int (nI th), .int (nI P), .int (nI n), .ref bW, .ref bL, .ref bF, .ref bK, .int (bI pw), .int lf, .ref bB, .ref bS, .ref bN, .ref bM, .int (nI mz)])), (bW, .inl (cI, 676, .inl wd)), (bL, .inl (cB, 13, .inl (fun z9 => bI (lo z9)))), (bF, .inl (cB, 52, .inl (fun z9 => bI (fr z9)))), (bK, .inl (cB, 4, .inl (fun z9 => bI (mk z9)))), (bB, .inl (cI, 26, .inl (fun z9 => nI (bt z9)))), (bS, .inl (cI, 26, .inl su)), (bN, .inl (cI, 26, .inl kv)), (bM, .inl (cI, 13, .inl (fun z9 => nI (mi z9))))] := hD
  have hp := hp5.le
  have hpp := dr_PP hp5
  have hpq := dr_PP2 hp5
  refine lv_aload_n hx hb dX4_drive_0 rfl (lv_at hl 0 rfl) ?_
  refine lv_iconst (v := nI 0) hx hb dX4_drive_1 (by decide) ?_
  refine va_put (D := (dC, dI)) (ci := 4) (v := .int (nI 0)) (ty := .int) (C := RX4) (T := TX4) (N := 14) hx hb hts inX4 tyX4 tyX4_ok nmX4 hown hK hP hD hS 0 rfl rfl 0 (by decide) (hts _ t_fX4_49) (fun _ h9 => h9) rfl (by decide +kernel) rfl rfl (Nat.le_of_ble_eq_true rfl) dX4_drive_2 (fun H locs hP hD hS => ?_)
  have hP : va_P (dC, dI) vwCl [(aO, .inr (4, [.int (nI 0), .int (nI P), .int (nI n), .ref bW, .ref bL, .ref bF, .ref bK, .int (bI pw), .int lf, .ref bB, .ref bS, .ref bN, .ref bM, .int (nI mz)])), (bW, .inl (cI, 676, .inl wd)), (bL, .inl (cB, 13, .inl (fun z9 => bI (lo z9)))), (bF, .inl (cB, 52, .inl (fun z9 => bI (fr z9)))), (bK, .inl (cB, 4, .inl (fun z9 => bI (mk z9)))), (bB, .inl (cI, 26, .inl (fun z9 => nI (bt z9)))), (bS, .inl (cI, 26, .inl su)), (bN, .inl (cI, 26, .inl kv)), (bM, .inl (cI, 13, .inl (fun z9 => nI (mi z9))))] H := hP
  have hD : va_D A [(aO, .inr (4, [.int (nI 0), .int (nI P), .int (nI n), .ref bW, .ref bL, .ref bF, .ref bK, .int (bI pw), .int lf, .ref bB, .ref bS, .ref bN, .ref bM, .int (nI mz)])), (bW, .inl (cI, 676, .inl wd)), (bL, .inl (cB, 13, .inl (fun z9 => bI (lo z9)))), (bF, .inl (cB, 52, .inl (fun z9 => bI (fr z9)))), (bK, .inl (cB, 4, .inl (fun z9 => bI (mk z9)))), (bB, .inl (cI, 26, .inl (fun z9 => nI (bt z9)))), (bS, .inl (cI, 26, .inl su)), (bN, .inl (cI, 26, .inl kv)), (bM, .inl (cI, 13, .inl (fun z9 => nI (mi z9))))] := hD
  refine lv_aload_n hx hb dX4_drive_5 rfl (lv_at hl 0 rfl) ?_
  refine lv_iload_n hx hb dX4_drive_6 rfl (lv_at hl 1 rfl) ?_
  refine gV (wr := []) (pre := [(aO, .inr (4, [.int (nI 0), .int (nI P), .int (nI n), .ref bW, .ref bL, .ref bF, .ref bK, .int (bI pw), .int lf, .ref bB, .ref bS, .ref bN, .ref bM, .int (nI mz)])), (bW, .inl (cI, 676, .inl wd)), (bL, .inl (cB, 13, .inl (fun z9 => bI (lo z9)))), (bF, .inl (cB, 52, .inl (fun z9 => bI (fr z9)))), (bK, .inl (cB, 4, .inl (fun z9 => bI (mk z9)))), (bB, .inl (cI, 26, .inl (fun z9 => nI (bt z9)))), (bS, .inl (cI, 26, .inl su)), (bN, .inl (cI, 26, .inl kv)), (bM, .inl (cI, 13, .inl (fun z9 => nI (mi z9))))]) (tl := []) (G := fun (u : Unit) => [(aO, .inr (4, [.int (nI 0), .int (nI P), .int (nI n), .ref bW, .ref bL, .ref bF, .ref bK, .int (bI pw), .int lf, .ref bB, .ref bS, .ref bN, .ref bM, .int (nI mz)])), (bW, .inl (cI, 676, .inl wd)), (bL, .inl (cB, 13, .inl (fun z9 => bI (lo z9)))), (bF, .inl (cB, 52, .inl (fun z9 => bI (fr z9)))), (bK, .inl (cB, 4, .inl (fun z9 => bI (mk z9)))), (bB, .inl (cI, 26, .inl (fun z9 => nI (bt z9)))), (bS, .inl (cI, 26, .inl su)), (bN, .inl (cI, 26, .inl kv)), (bM, .inl (cI, 13, .inl (fun z9 => nI (mi z9))))]) (b := aO) (As := [.int x]) (rst := []) ⟨hx, hb, hml, hown, hts⟩ (c_mDrive l dC dI cI cB cQ cJ aO bW bL bF bK bB bS bN bM 0 P n pw lf mz wd lo fr mk bt su kv mi x (by omega) (by omega)) (cwV 1 hts (gdV t_mX4_93 t_inst_X4_isDrive t_sel_X4_isDrive t_ini_X4 t_code_X4_isDrive) rfl rfl rfl (by decide +kernel) ⟨Nat.le_of_ble_eq_true rfl, Nat.le_of_ble_eq_true rfl⟩) hK hP hD hS hA [0, 1, 2, 3, 4, 5, 6, 7, 8] [] [0, 1, 2, 3, 4, 5, 6, 7, 8] rfl (by decide) (fun _ => rfl) (by decide) (ci := 4) rfl rfl rfl rfl hl.1 rfl (Nat.le_of_ble_eq_true rfl) dX4_drive_7 ⟨Nat.zero_le _, Nat.zero_le _⟩ (fun r u H locs hu1 hP hD hS => ?_)
  have hr7 := hu1
  have hr7 : r = bI (dr_in x P) := hr7
  subst hr7
  have hP : va_P (dC, dI) vwCl [(aO, .inr (4, [.int (nI 0), .int (nI P), .int (nI n), .ref bW, .ref bL, .ref bF, .ref bK, .int (bI pw), .int lf, .ref bB, .ref bS, .ref bN, .ref bM, .int (nI mz)])), (bW, .inl (cI, 676, .inl wd)), (bL, .inl (cB, 13, .inl (fun z9 => bI (lo z9)))), (bF, .inl (cB, 52, .inl (fun z9 => bI (fr z9)))), (bK, .inl (cB, 4, .inl (fun z9 => bI (mk z9)))), (bB, .inl (cI, 26, .inl (fun z9 => nI (bt z9)))), (bS, .inl (cI, 26, .inl su)), (bN, .inl (cI, 26, .inl kv)), (bM, .inl (cI, 13, .inl (fun z9 => nI (mi z9))))] H := hP
  have hD : va_D A [(aO, .inr (4, [.int (nI 0), .int (nI P), .int (nI n), .ref bW, .ref bL, .ref bF, .ref bK, .int (bI pw), .int lf, .ref bB, .ref bS, .ref bN, .ref bM, .int (nI mz)])), (bW, .inl (cI, 676, .inl wd)), (bL, .inl (cB, 13, .inl (fun z9 => bI (lo z9)))), (bF, .inl (cB, 52, .inl (fun z9 => bI (fr z9)))), (bK, .inl (cB, 4, .inl (fun z9 => bI (mk z9)))), (bB, .inl (cI, 26, .inl (fun z9 => nI (bt z9)))), (bS, .inl (cI, 26, .inl su)), (bN, .inl (cI, 26, .inl kv)), (bM, .inl (cI, 13, .inl (fun z9 => nI (mi z9))))] := hD
  refine x_top (show bI (dr_in x P) = bI false from (congrArg bI hc)) ?_
  refine x_ifT (tgt := 15) hx hb dX4_drive_10 (by decide) (fun z9 => by cases z9) (fun _ => ?_)
  refine lv_iconst (v := (-1)) hx hb dX4_drive_13 (by decide) ?_
  exact x_iret (D := (dC, dI)) (cl := vwCl) (A := A) () hQ hx hb hr hlk hP hD hS dX4_drive_14 (by first | rfl | (simp []; done) | (simp []; omega))

abbrev rm_c_mdrive1 : Room := { frames := 1, cells := 0, slots := 0, locals := 21 }
set_option maxHeartbeats 4000000 in
set_option maxRecDepth 100000 in
theorem c_mdrive1 (l : Launch) (dC : Nat → ClassId) (dI : Nat → Nat → Nat) (cI cB cQ cJ : ClassId) (aO : Nat) (bW : Nat) (bL : Nat) (bF : Nat) (bK : Nat) (bB : Nat) (bS : Nat) (bN : Nat) (bM : Nat) (th : Nat) (P : Nat) (n : Nat) (pw : Bool) (lf : Int32) (mz : Nat) (wd : Nat → Int32) (lo : Nat → Bool) (fr : Nat → Bool) (mk : Nat → Bool) (bt : Nat → Nat) (su : Nat → Int32) (kv : Nat → Int32) (mi : Nat → Nat) (d : Nat) (hp5 : dr_P P) (hn : n < 5) (hd : d < P) : MG l yX4_drive (Cond.code yX4_drive cX4_drive 4 (some .int) :: TB) rm_c_mdrive1 (dC, dI) vwCl (TY cI cB cQ cJ) [.ref aO, .int (nI d)] [(aO, .inr (4, [.int (nI th), .int (nI P), .int (nI n), .ref bW, .ref bL, .ref bF, .ref bK, .int (bI pw), .int lf, .ref bB, .ref bS, .ref bN, .ref bM, .int (nI mz)])), (bW, .inl (cI, 676, .inl wd)), (bL, .inl (cB, 13, .inl (fun z9 => bI (lo z9)))), (bF, .inl (cB, 52, .inl (fun z9 => bI (fr z9)))), (bK, .inl (cB, 4, .inl (fun z9 => bI (mk z9)))), (bB, .inl (cI, 26, .inl (fun z9 => nI (bt z9)))), (bS, .inl (cI, 26, .inl su)), (bN, .inl (cI, 26, .inl kv)), (bM, .inl (cI, 13, .inl (fun z9 => nI (mi z9))))] (fun (r : Int32) (u : Unit) => r = nI (rf_dv lo fr n d)) (fun (u : Unit) => [(aO, .inr (4, [.int (nI 0), .int (nI P), .int (nI n), .ref bW, .ref bL, .ref bF, .ref bK, .int (bI pw), .int lf, .ref bB, .ref bS, .ref bN, .ref bM, .int (nI mz)])), (bW, .inl (cI, 676, .inl wd)), (bL, .inl (cB, 13, .inl (fun z9 => bI (lo z9)))), (bF, .inl (cB, 52, .inl (fun z9 => bI (fr z9)))), (bK, .inl (cB, 4, .inl (fun z9 => bI (mk z9)))), (bB, .inl (cI, 26, .inl (fun z9 => nI (bt z9)))), (bS, .inl (cI, 26, .inl su)), (bN, .inl (cI, 26, .inl kv)), (bM, .inl (cI, 13, .inl (fun z9 => nI (mi z9))))]) := by
  refine MG.ofW (cc := cX4_drive) (maxL := 4) (rt := .int) (by decide +kernel) rfl (Nat.le_of_ble_eq_true rfl) ?_
  intro p e s m args below meth c A ls Q H locs hQ hx hb hml hr hlk hts hown hK hP hD hS hA hl
  have hts : ∀ w ∈ TB, w.before args s = true := fun w h => hts w (List.mem_cons_of_mem _ h)
  have hown : s.vm.findClass RX4 = some m.cls := hown
  have hl : lv_has ls 4 [(0, .ref aO), (1, .int (nI d))] := hl
  have hP : va_P (dC, dI) vwCl [(aO, .inr (4, [.int (nI th), .int (nI P), .int (nI n), .ref bW, .ref bL, .ref bF, .ref bK, .int (bI pw), .int lf, .ref bB, .ref bS, .ref bN, .ref bM, .int (nI mz)])), (bW, .inl (cI, 676, .inl wd)), (bL, .inl (cB, 13, .inl (fun z9 => bI (lo z9)))), (bF, .inl (cB, 52, .inl (fun z9 => bI (fr z9)))), (bK, .inl (cB, 4, .inl (fun z9 => bI (mk z9)))), (bB, .inl (cI, 26, .inl (fun z9 => nI (bt z9)))), (bS, .inl (cI, 26, .inl su)), (bN, .inl (cI, 26, .inl kv)), (bM, .inl (cI, 13, .inl (fun z9 => nI (mi z9))))] H := hP
  have hD : va_D A [(aO, .inr (4, [.int (nI th), .int (nI P), .int (nI n), .ref bW, .ref bL, .ref bF, .ref bK, .int (bI pw), .int lf, .ref bB, .ref bS, .ref bN, .ref bM, .int (nI mz)])), (bW, .inl (cI, 676, .inl wd)), (bL, .inl (cB, 13, .inl (fun z9 => bI (lo z9)))), (bF, .inl (cB, 52, .inl (fun z9 => bI (fr z9)))), (bK, .inl (cB, 4, .inl (fun z9 => bI (mk z9)))), (bB, .inl (cI, 26, .inl (fun z9 => nI (bt z9)))), (bS, .inl (cI, 26, .inl su)), (bN, .inl (cI, 26, .inl kv)), (bM, .inl (cI, 13, .inl (fun z9 => nI (mi z9))))] := hD
  have hp := hp5.le
  have hpp := dr_PP hp5
  have hpq := dr_PP2 hp5
  refine lv_aload_n hx hb dX4_drive_0 rfl (lv_at hl 0 rfl) ?_
  refine lv_iconst (v := nI 0) hx hb dX4_drive_1 (by decide) ?_
  refine va_put (D := (dC, dI)) (ci := 4) (v := .int (nI 0)) (ty := .int) (C := RX4) (T := TX4) (N := 14) hx hb hts inX4 tyX4 tyX4_ok nmX4 hown hK hP hD hS 0 rfl rfl 0 (by decide) (hts _ t_fX4_49) (fun _ h9 => h9) rfl (by decide +kernel) rfl rfl (Nat.le_of_ble_eq_true rfl) dX4_drive_2 (fun H locs hP hD hS => ?_)
  have hP : va_P (dC, dI) vwCl [(aO, .inr (4, [.int (nI 0), .int (nI P), .int (nI n), .ref bW, .ref bL, .ref bF, .ref bK, .int (bI pw), .int lf, .ref bB, .ref bS, .ref bN, .ref bM, .int (nI mz)])), (bW, .inl (cI, 676, .inl wd)), (bL, .inl (cB, 13, .inl (fun z9 => bI (lo z9)))), (bF, .inl (cB, 52, .inl (fun z9 => bI (fr z9)))), (bK, .inl (cB, 4, .inl (fun z9 => bI (mk z9)))), (bB, .inl (cI, 26, .inl (fun z9 => nI (bt z9)))), (bS, .inl (cI, 26, .inl su)), (bN, .inl (cI, 26, .inl kv)), (bM, .inl (cI, 13, .inl (fun z9 => nI (mi z9))))] H := hP
  have hD : va_D A [(aO, .inr (4, [.int (nI 0), .int (nI P), .int (nI n), .ref bW, .ref bL, .ref bF, .ref bK, .int (bI pw), .int lf, .ref bB, .ref bS, .ref bN, .ref bM, .int (nI mz)])), (bW, .inl (cI, 676, .inl wd)), (bL, .inl (cB, 13, .inl (fun z9 => bI (lo z9)))), (bF, .inl (cB, 52, .inl (fun z9 => bI (fr z9)))), (bK, .inl (cB, 4, .inl (fun z9 => bI (mk z9)))), (bB, .inl (cI, 26, .inl (fun z9 => nI (bt z9)))), (bS, .inl (cI, 26, .inl su)), (bN, .inl (cI, 26, .inl kv)), (bM, .inl (cI, 13, .inl (fun z9 => nI (mi z9))))] := hD
  refine lv_aload_n hx hb dX4_drive_5 rfl (lv_at hl 0 rfl) ?_
  refine lv_iload_n hx hb dX4_drive_6 rfl (lv_at hl 1 rfl) ?_
  refine gV (wr := []) (pre := [(aO, .inr (4, [.int (nI 0), .int (nI P), .int (nI n), .ref bW, .ref bL, .ref bF, .ref bK, .int (bI pw), .int lf, .ref bB, .ref bS, .ref bN, .ref bM, .int (nI mz)])), (bW, .inl (cI, 676, .inl wd)), (bL, .inl (cB, 13, .inl (fun z9 => bI (lo z9)))), (bF, .inl (cB, 52, .inl (fun z9 => bI (fr z9)))), (bK, .inl (cB, 4, .inl (fun z9 => bI (mk z9)))), (bB, .inl (cI, 26, .inl (fun z9 => nI (bt z9)))), (bS, .inl (cI, 26, .inl su)), (bN, .inl (cI, 26, .inl kv)), (bM, .inl (cI, 13, .inl (fun z9 => nI (mi z9))))]) (tl := []) (G := fun (u : Unit) => [(aO, .inr (4, [.int (nI 0), .int (nI P), .int (nI n), .ref bW, .ref bL, .ref bF, .ref bK, .int (bI pw), .int lf, .ref bB, .ref bS, .ref bN, .ref bM, .int (nI mz)])), (bW, .inl (cI, 676, .inl wd)), (bL, .inl (cB, 13, .inl (fun z9 => bI (lo z9)))), (bF, .inl (cB, 52, .inl (fun z9 => bI (fr z9)))), (bK, .inl (cB, 4, .inl (fun z9 => bI (mk z9)))), (bB, .inl (cI, 26, .inl (fun z9 => nI (bt z9)))), (bS, .inl (cI, 26, .inl su)), (bN, .inl (cI, 26, .inl kv)), (bM, .inl (cI, 13, .inl (fun z9 => nI (mi z9))))]) (b := aO) (As := [.int (nI d)]) (rst := []) ⟨hx, hb, hml, hown, hts⟩ (c_mDrive l dC dI cI cB cQ cJ aO bW bL bF bK bB bS bN bM 0 P n pw lf mz wd lo fr mk bt su kv mi (nI d) (by omega) (by omega)) (cwV 1 hts (gdV t_mX4_93 t_inst_X4_isDrive t_sel_X4_isDrive t_ini_X4 t_code_X4_isDrive) rfl rfl rfl (by decide +kernel) ⟨Nat.le_of_ble_eq_true rfl, Nat.le_of_ble_eq_true rfl⟩) hK hP hD hS hA [0, 1, 2, 3, 4, 5, 6, 7, 8] [] [0, 1, 2, 3, 4, 5, 6, 7, 8] rfl (by decide) (fun _ => rfl) (by decide) (ci := 4) rfl rfl rfl rfl hl.1 rfl (Nat.le_of_ble_eq_true rfl) dX4_drive_7 ⟨Nat.zero_le _, Nat.zero_le _⟩ (fun r u H locs hu1 hP hD hS => ?_)
  have hr7 := hu1
  have hr7 : r = bI (dr_in (nI d) P) := hr7
  subst hr7
  have hP : va_P (dC, dI) vwCl [(aO, .inr (4, [.int (nI 0), .int (nI P), .int (nI n), .ref bW, .ref bL, .ref bF, .ref bK, .int (bI pw), .int lf, .ref bB, .ref bS, .ref bN, .ref bM, .int (nI mz)])), (bW, .inl (cI, 676, .inl wd)), (bL, .inl (cB, 13, .inl (fun z9 => bI (lo z9)))), (bF, .inl (cB, 52, .inl (fun z9 => bI (fr z9)))), (bK, .inl (cB, 4, .inl (fun z9 => bI (mk z9)))), (bB, .inl (cI, 26, .inl (fun z9 => nI (bt z9)))), (bS, .inl (cI, 26, .inl su)), (bN, .inl (cI, 26, .inl kv)), (bM, .inl (cI, 13, .inl (fun z9 => nI (mi z9))))] H := hP
  have hD : va_D A [(aO, .inr (4, [.int (nI 0), .int (nI P), .int (nI n), .ref bW, .ref bL, .ref bF, .ref bK, .int (bI pw), .int lf, .ref bB, .ref bS, .ref bN, .ref bM, .int (nI mz)])), (bW, .inl (cI, 676, .inl wd)), (bL, .inl (cB, 13, .inl (fun z9 => bI (lo z9)))), (bF, .inl (cB, 52, .inl (fun z9 => bI (fr z9)))), (bK, .inl (cB, 4, .inl (fun z9 => bI (mk z9)))), (bB, .inl (cI, 26, .inl (fun z9 => nI (bt z9)))), (bS, .inl (cI, 26, .inl su)), (bN, .inl (cI, 26, .inl kv)), (bM, .inl (cI, 13, .inl (fun z9 => nI (mi z9))))] := hD
  refine x_top (show bI (dr_in (nI d) P) = bI true from (congrArg bI (dr_in_of (by omega) hd))) ?_
  refine x_ifT (tgt := 15) hx hb dX4_drive_10 (by decide) (fun _ => ?_) (fun z9 => by cases z9)
  refine lv_iconst (v := bI false) hx hb dX4_drive_15 (by decide) ?_
  refine lv_istore_n hx hb dX4_drive_16 rfl hl (by decide) rfl (fun ls hl => ?_)
  have hl : lv_has ls 4 [(2, .int (bI false)), (0, .ref aO), (1, .int (nI d))] := hl
  refine lv_iconst (v := nI 0) hx hb dX4_drive_17 (by decide) ?_
  refine lv_istore_n hx hb dX4_drive_18 rfl hl (by decide) rfl (fun ls hl => ?_)
  have hl : lv_has ls 4 [(3, .int (nI 0)), (2, .int (bI false)), (0, .ref aO), (1, .int (nI d))] := hl
  have lp19 : ∀ (n9 : Nat) (i : Nat) (ls : Array Slot) (H : Heap) (locs : List Loc), n - i < n9 → (i ≤ n) → lv_has ls 4 [(3, .int (nI i)), (2, .int (bI (dr_any (fun s9 => fr (4 * d + s9)) i))), (1, .int (nI d)), (0, .ref aO)] → va_P (dC, dI) vwCl [(aO, .inr (4, [.int (nI 0), .int (nI P), .int (nI n), .ref bW, .ref bL, .ref bF, .ref bK, .int (bI pw), .int lf, .ref bB, .ref bS, .ref bN, .ref bM, .int (nI mz)])), (bW, .inl (cI, 676, .inl wd)), (bL, .inl (cB, 13, .inl (fun z9 => bI (lo z9)))), (bF, .inl (cB, 52, .inl (fun z9 => bI (fr z9)))), (bK, .inl (cB, 4, .inl (fun z9 => bI (mk z9)))), (bB, .inl (cI, 26, .inl (fun z9 => nI (bt z9)))), (bS, .inl (cI, 26, .inl su)), (bN, .inl (cI, 26, .inl kv)), (bM, .inl (cI, 13, .inl (fun z9 => nI (mi z9))))] H → va_D A [(aO, .inr (4, [.int (nI 0), .int (nI P), .int (nI n), .ref bW, .ref bL, .ref bF, .ref bK, .int (bI pw), .int lf, .ref bB, .ref bS, .ref bN, .ref bM, .int (nI mz)])), (bW, .inl (cI, 676, .inl wd)), (bL, .inl (cB, 13, .inl (fun z9 => bI (lo z9)))), (bF, .inl (cB, 52, .inl (fun z9 => bI (fr z9)))), (bK, .inl (cB, 4, .inl (fun z9 => bI (mk z9)))), (bB, .inl (cI, 26, .inl (fun z9 => nI (bt z9)))), (bS, .inl (cI, 26, .inl su)), (bN, .inl (cI, 26, .inl kv)), (bM, .inl (cI, 13, .inl (fun z9 => nI (mi z9))))] → va_S A s.heap H locs → W p l e rm_c_mdrive1 s m args below meth c H locs 0 0 Q (F0 m 19 ls []) := by
    intro n9
    induction n9 with
    | zero => intro i ls H locs hn9; omega
    | succ n9 ih19 =>
      intro i ls H locs hn9 hi hl hP hD hS
      refine lv_iload_n hx hb dX4_drive_19 rfl (lv_at hl 0 rfl) ?_
      refine lv_aload_n hx hb dX4_drive_20 rfl (lv_at hl 3 rfl) ?_
      refine va_get (D := (dC, dI)) (ci := 4) (v := .int (nI n)) (C := RX4) (T := TX4) (N := 14) hx hb hts inX4 hown hK hP 0 rfl rfl 2 (by decide) (hts _ t_fX4_46) (fun _ h9 => h9) rfl dX4_drive_21 ?_
      refine x_cge (tgt := 56) hx hb dX4_drive_24 (by decide) (by omega) (by omega) (fun h24 => ?_) (fun h24 => ?_)
      · -- 24t
        have hie24 : i = n := by omega
        try rw [hie24] at hl
        try rw [hie24] at hP
        try rw [hie24] at hD
        have hl : lv_has ls 4 [(3, .int (nI n)), (2, .int (bI (dr_any (fun s9 => fr (4 * d + s9)) n))), (1, .int (nI d)), (0, .ref aO)] := hl
        have hP : va_P (dC, dI) vwCl [(aO, .inr (4, [.int (nI 0), .int (nI P), .int (nI n), .ref bW, .ref bL, .ref bF, .ref bK, .int (bI pw), .int lf, .ref bB, .ref bS, .ref bN, .ref bM, .int (nI mz)])), (bW, .inl (cI, 676, .inl wd)), (bL, .inl (cB, 13, .inl (fun z9 => bI (lo z9)))), (bF, .inl (cB, 52, .inl (fun z9 => bI (fr z9)))), (bK, .inl (cB, 4, .inl (fun z9 => bI (mk z9)))), (bB, .inl (cI, 26, .inl (fun z9 => nI (bt z9)))), (bS, .inl (cI, 26, .inl su)), (bN, .inl (cI, 26, .inl kv)), (bM, .inl (cI, 13, .inl (fun z9 => nI (mi z9))))] H := hP
        have hD : va_D A [(aO, .inr (4, [.int (nI 0), .int (nI P), .int (nI n), .ref bW, .ref bL, .ref bF, .ref bK, .int (bI pw), .int lf, .ref bB, .ref bS, .ref bN, .ref bM, .int (nI mz)])), (bW, .inl (cI, 676, .inl wd)), (bL, .inl (cB, 13, .inl (fun z9 => bI (lo z9)))), (bF, .inl (cB, 52, .inl (fun z9 => bI (fr z9)))), (bK, .inl (cB, 4, .inl (fun z9 => bI (mk z9)))), (bB, .inl (cI, 26, .inl (fun z9 => nI (bt z9)))), (bS, .inl (cI, 26, .inl su)), (bN, .inl (cI, 26, .inl kv)), (bM, .inl (cI, 13, .inl (fun z9 => nI (mi z9))))] := hD
        refine lv_aload_n hx hb dX4_drive_56 rfl (lv_at hl 3 rfl) ?_
        refine va_get (D := (dC, dI)) (ci := 4) (v := .ref bL) (C := RX4) (T := TX4) (N := 14) hx hb hts inX4 hown hK hP 0 rfl rfl 4 (by decide) (hts _ t_fX4_13) (fun _ h9 => h9) rfl dX4_drive_57 ?_
        refine lv_iload_n hx hb dX4_drive_60 rfl (lv_at hl 2 rfl) ?_
        refine x_zald (g := lo) hx hb hK hP 2 1 rfl rfl dX4_drive_61 (by omega) (by omega) ?_
        refine x_ifF (tgt := 69) hx hb dX4_drive_62 (by decide) (fun h62 => ?_) (fun h62 => ?_)
        · -- 62t
          refine lv_iload_n hx hb dX4_drive_69 rfl (lv_at hl 1 rfl) ?_
          refine x_ifF (tgt := 77) hx hb dX4_drive_70 (by decide) (fun h70 => ?_) (fun h70 => ?_)
          · -- 70t
            refine lv_iconst (v := nI 0) hx hb dX4_drive_77 (by decide) ?_
            exact x_iret (D := (dC, dI)) (cl := vwCl) (A := A) () hQ hx hb hr hlk hP hD hS dX4_drive_78 (by first | rfl | (simp [rf_dv, h24, h62, h70]; done) | (simp [rf_dv, h24, h62, h70]; omega))
          · -- 70f
            refine lv_iconst (v := nI 2) hx hb dX4_drive_73 (by decide) ?_
            refine lv_goto (tgt := 78) hx hb dX4_drive_74 (by decide) ?_
            exact x_iret (D := (dC, dI)) (cl := vwCl) (A := A) () hQ hx hb hr hlk hP hD hS dX4_drive_78 (by first | rfl | (simp [rf_dv, h24, h62, h70]; done) | (simp [rf_dv, h24, h62, h70]; omega))
        · -- 62f
          refine lv_iconst (v := nI 1) hx hb dX4_drive_65 (by decide) ?_
          refine lv_goto (tgt := 78) hx hb dX4_drive_66 (by decide) ?_
          exact x_iret (D := (dC, dI)) (cl := vwCl) (A := A) () hQ hx hb hr hlk hP hD hS dX4_drive_78 (by first | rfl | (simp [rf_dv, h24, h62]; done) | (simp [rf_dv, h24, h62]; omega))
      · -- 24f
        refine lv_iload_n hx hb dX4_drive_27 rfl (lv_at hl 1 rfl) ?_
        refine x_ifT (tgt := 44) hx hb dX4_drive_28 (by decide) (fun h28 => ?_) (fun h28 => ?_)
        · -- 28t
          refine lv_iconst (v := bI true) hx hb dX4_drive_44 (by decide) ?_
          refine lv_goto (tgt := 49) hx hb dX4_drive_45 (by decide) ?_
          refine lv_istore_n hx hb dX4_drive_49 rfl hl (by decide) rfl (fun ls hl => ?_)
          have hl : lv_has ls 4 [(2, .int (bI true)), (3, .int (nI i)), (1, .int (nI d)), (0, .ref aO)] := hl
          refine lv_iinc (v := nI (i + 1)) hx hb dX4_drive_50 hl (k := 1) rfl (x_inc _) (by decide) rfl (fun ls hl => ?_)
          have hl : lv_has ls 4 [(3, .int (nI (i + 1))), (2, .int (bI true)), (1, .int (nI d)), (0, .ref aO)] := hl
          refine lv_goto (tgt := 19) hx hb dX4_drive_53 (by decide) ?_
          have e2 : (dr_any (fun s9 => fr (4 * d + s9)) (i + 1)) = true := by first | rfl | (simp [dr_any, h24, h28]; done) | (simp [dr_any, h24, h28]; omega)
          exact ih19 (i + 1) ls H locs (by omega) (by omega) (by rw [e2]; exact lv_sub hl [0, 1, 2, 3] rfl) hP hD hS
        · -- 28f
          refine lv_aload_n hx hb dX4_drive_31 rfl (lv_at hl 3 rfl) ?_
          refine va_get (D := (dC, dI)) (ci := 4) (v := .ref bF) (C := RX4) (T := TX4) (N := 14) hx hb hts inX4 hown hK hP 0 rfl rfl 5 (by decide) (hts _ t_fX4_17) (fun _ h9 => h9) rfl dX4_drive_32 ?_
          refine lv_iconst (v := nI 4) hx hb dX4_drive_35 (by decide) ?_
          refine lv_iload_n hx hb dX4_drive_36 rfl (lv_at hl 2 rfl) ?_
          refine x_mul hx hb dX4_drive_37 ?_
          refine lv_iload_n hx hb dX4_drive_38 rfl (lv_at hl 0 rfl) ?_
          refine x_add hx hb dX4_drive_39 ?_
          refine x_zald (g := fr) hx hb hK hP 3 1 rfl rfl dX4_drive_40 (by omega) (by omega) ?_
          refine x_ifF (tgt := 48) hx hb dX4_drive_41 (by decide) (fun h41 => ?_) (fun h41 => ?_)
          · -- 41t
            refine lv_iconst (v := bI false) hx hb dX4_drive_48 (by decide) ?_
            refine lv_istore_n hx hb dX4_drive_49 rfl hl (by decide) rfl (fun ls hl => ?_)
            have hl : lv_has ls 4 [(2, .int (bI false)), (3, .int (nI i)), (1, .int (nI d)), (0, .ref aO)] := hl
            refine lv_iinc (v := nI (i + 1)) hx hb dX4_drive_50 hl (k := 1) rfl (x_inc _) (by decide) rfl (fun ls hl => ?_)
            have hl : lv_has ls 4 [(3, .int (nI (i + 1))), (2, .int (bI false)), (1, .int (nI d)), (0, .ref aO)] := hl
            refine lv_goto (tgt := 19) hx hb dX4_drive_53 (by decide) ?_
            have e3 : (dr_any (fun s9 => fr (4 * d + s9)) (i + 1)) = false := by first | rfl | (simp [dr_any, h24, h28, h41]; done) | (simp [dr_any, h24, h28, h41]; omega)
            exact ih19 (i + 1) ls H locs (by omega) (by omega) (by rw [e3]; exact lv_sub hl [0, 1, 2, 3] rfl) hP hD hS
          · -- 41f
            refine lv_iconst (v := bI true) hx hb dX4_drive_44 (by decide) ?_
            refine lv_goto (tgt := 49) hx hb dX4_drive_45 (by decide) ?_
            refine lv_istore_n hx hb dX4_drive_49 rfl hl (by decide) rfl (fun ls hl => ?_)
            have hl : lv_has ls 4 [(2, .int (bI true)), (3, .int (nI i)), (1, .int (nI d)), (0, .ref aO)] := hl
            refine lv_iinc (v := nI (i + 1)) hx hb dX4_drive_50 hl (k := 1) rfl (x_inc _) (by decide) rfl (fun ls hl => ?_)
            have hl : lv_has ls 4 [(3, .int (nI (i + 1))), (2, .int (bI true)), (1, .int (nI d)), (0, .ref aO)] := hl
            refine lv_goto (tgt := 19) hx hb dX4_drive_53 (by decide) ?_
            have e4 : (dr_any (fun s9 => fr (4 * d + s9)) (i + 1)) = true := by first | rfl | (simp [dr_any, h24, h28, h41]; done) | (simp [dr_any, h24, h28, h41]; omega)
            exact ih19 (i + 1) ls H locs (by omega) (by omega) (by rw [e4]; exact lv_sub hl [0, 1, 2, 3] rfl) hP hD hS
  have e5 : (dr_any (fun s9 => fr (4 * d + s9)) 0) = false := by first | rfl | (simp [dr_any]; done) | (simp [dr_any]; omega)
  exact lp19 (n - 0 + 1) 0 ls H locs (by omega) (by omega) (by rw [e5]; exact lv_sub hl [0, 1, 3, 2] rfl) hP hD hS

abbrev rm_c_mcount : Room := { frames := 2, cells := 0, slots := 0, locals := 44 }
set_option maxHeartbeats 4000000 in
set_option maxRecDepth 100000 in
theorem c_mcount (l : Launch) (dC : Nat → ClassId) (dI : Nat → Nat → Nat) (cI cB cQ cJ : ClassId) (aO : Nat) (bW : Nat) (bL : Nat) (bF : Nat) (bK : Nat) (bB : Nat) (bS : Nat) (bN : Nat) (bM : Nat) (th : Nat) (P : Nat) (n : Nat) (pw : Bool) (lf : Int32) (mz : Nat) (wd : Nat → Int32) (lo : Nat → Bool) (fr : Nat → Bool) (mk : Nat → Bool) (bt : Nat → Nat) (su : Nat → Int32) (kv : Nat → Int32) (mi : Nat → Nat) (x : Int32) (hp5 : dr_P P) (hn : n < 5) : MG l yX4_count (Cond.code yX4_count cX4_count 5 (some .int) :: TB) rm_c_mcount (dC, dI) vwCl (TY cI cB cQ cJ) [.ref aO, .int x] [(aO, .inr (4, [.int (nI th), .int (nI P), .int (nI n), .ref bW, .ref bL, .ref bF, .ref bK, .int (bI pw), .int lf, .ref bB, .ref bS, .ref bN, .ref bM, .int (nI mz)])), (bW, .inl (cI, 676, .inl wd)), (bL, .inl (cB, 13, .inl (fun z9 => bI (lo z9)))), (bF, .inl (cB, 52, .inl (fun z9 => bI (fr z9)))), (bK, .inl (cB, 4, .inl (fun z9 => bI (mk z9)))), (bB, .inl (cI, 26, .inl (fun z9 => nI (bt z9)))), (bS, .inl (cI, 26, .inl su)), (bN, .inl (cI, 26, .inl kv)), (bM, .inl (cI, 13, .inl (fun z9 => nI (mi z9))))] (fun (r : Int32) (u : Unit) => r = dr_cv x (nI P) (nI n) (nI (n * (P - 2) * P)) (nI (dr_cnt lo P)) (nI (dr_cnt (fun d => decide (0 < rf_dv lo fr n d)) P))) (fun (u : Unit) => [(aO, .inr (4, [.int (nI 0), .int (nI P), .int (nI n), .ref bW, .ref bL, .ref bF, .ref bK, .int (bI pw), .int lf, .ref bB, .ref bS, .ref bN, .ref bM, .int (nI mz)])), (bW, .inl (cI, 676, .inl wd)), (bL, .inl (cB, 13, .inl (fun z9 => bI (lo z9)))), (bF, .inl (cB, 52, .inl (fun z9 => bI (fr z9)))), (bK, .inl (cB, 4, .inl (fun z9 => bI (mk z9)))), (bB, .inl (cI, 26, .inl (fun z9 => nI (bt z9)))), (bS, .inl (cI, 26, .inl su)), (bN, .inl (cI, 26, .inl kv)), (bM, .inl (cI, 13, .inl (fun z9 => nI (mi z9))))]) := by
  refine MG.ofW (cc := cX4_count) (maxL := 5) (rt := .int) (by decide +kernel) rfl (Nat.le_of_ble_eq_true rfl) ?_
  intro p e s m args below meth c A ls Q H locs hQ hx hb hml hr hlk hts hown hK hP hD hS hA hl
  have hts : ∀ w ∈ TB, w.before args s = true := fun w h => hts w (List.mem_cons_of_mem _ h)
  have hown : s.vm.findClass RX4 = some m.cls := hown
  have hl : lv_has ls 5 [(0, .ref aO), (1, .int x)] := hl
  have hP : va_P (dC, dI) vwCl [(aO, .inr (4, [.int (nI th), .int (nI P), .int (nI n), .ref bW, .ref bL, .ref bF, .ref bK, .int (bI pw), .int lf, .ref bB, .ref bS, .ref bN, .ref bM, .int (nI mz)])), (bW, .inl (cI, 676, .inl wd)), (bL, .inl (cB, 13, .inl (fun z9 => bI (lo z9)))), (bF, .inl (cB, 52, .inl (fun z9 => bI (fr z9)))), (bK, .inl (cB, 4, .inl (fun z9 => bI (mk z9)))), (bB, .inl (cI, 26, .inl (fun z9 => nI (bt z9)))), (bS, .inl (cI, 26, .inl su)), (bN, .inl (cI, 26, .inl kv)), (bM, .inl (cI, 13, .inl (fun z9 => nI (mi z9))))] H := hP
  have hD : va_D A [(aO, .inr (4, [.int (nI th), .int (nI P), .int (nI n), .ref bW, .ref bL, .ref bF, .ref bK, .int (bI pw), .int lf, .ref bB, .ref bS, .ref bN, .ref bM, .int (nI mz)])), (bW, .inl (cI, 676, .inl wd)), (bL, .inl (cB, 13, .inl (fun z9 => bI (lo z9)))), (bF, .inl (cB, 52, .inl (fun z9 => bI (fr z9)))), (bK, .inl (cB, 4, .inl (fun z9 => bI (mk z9)))), (bB, .inl (cI, 26, .inl (fun z9 => nI (bt z9)))), (bS, .inl (cI, 26, .inl su)), (bN, .inl (cI, 26, .inl kv)), (bM, .inl (cI, 13, .inl (fun z9 => nI (mi z9))))] := hD
  have hp := hp5.le
  have hpp := dr_PP hp5
  have hpq := dr_PP2 hp5
  refine lv_aload_n hx hb dX4_count_0 rfl (lv_at hl 0 rfl) ?_
  refine lv_iconst (v := nI 0) hx hb dX4_count_1 (by decide) ?_
  refine va_put (D := (dC, dI)) (ci := 4) (v := .int (nI 0)) (ty := .int) (C := RX4) (T := TX4) (N := 14) hx hb hts inX4 tyX4 tyX4_ok nmX4 hown hK hP hD hS 0 rfl rfl 0 (by decide) (hts _ t_fX4_49) (fun _ h9 => h9) rfl (by decide +kernel) rfl rfl (Nat.le_of_ble_eq_true rfl) dX4_count_2 (fun H locs hP hD hS => ?_)
  have hP : va_P (dC, dI) vwCl [(aO, .inr (4, [.int (nI 0), .int (nI P), .int (nI n), .ref bW, .ref bL, .ref bF, .ref bK, .int (bI pw), .int lf, .ref bB, .ref bS, .ref bN, .ref bM, .int (nI mz)])), (bW, .inl (cI, 676, .inl wd)), (bL, .inl (cB, 13, .inl (fun z9 => bI (lo z9)))), (bF, .inl (cB, 52, .inl (fun z9 => bI (fr z9)))), (bK, .inl (cB, 4, .inl (fun z9 => bI (mk z9)))), (bB, .inl (cI, 26, .inl (fun z9 => nI (bt z9)))), (bS, .inl (cI, 26, .inl su)), (bN, .inl (cI, 26, .inl kv)), (bM, .inl (cI, 13, .inl (fun z9 => nI (mi z9))))] H := hP
  have hD : va_D A [(aO, .inr (4, [.int (nI 0), .int (nI P), .int (nI n), .ref bW, .ref bL, .ref bF, .ref bK, .int (bI pw), .int lf, .ref bB, .ref bS, .ref bN, .ref bM, .int (nI mz)])), (bW, .inl (cI, 676, .inl wd)), (bL, .inl (cB, 13, .inl (fun z9 => bI (lo z9)))), (bF, .inl (cB, 52, .inl (fun z9 => bI (fr z9)))), (bK, .inl (cB, 4, .inl (fun z9 => bI (mk z9)))), (bB, .inl (cI, 26, .inl (fun z9 => nI (bt z9)))), (bS, .inl (cI, 26, .inl su)), (bN, .inl (cI, 26, .inl kv)), (bM, .inl (cI, 13, .inl (fun z9 => nI (mi z9))))] := hD
  refine lv_iconst (v := nI 0) hx hb dX4_count_5 (by decide) ?_
  refine lv_istore_n hx hb dX4_count_6 rfl hl (by decide) rfl (fun ls hl => ?_)
  have hl : lv_has ls 5 [(2, .int (nI 0)), (0, .ref aO), (1, .int x)] := hl
  refine lv_iconst (v := nI 0) hx hb dX4_count_7 (by decide) ?_
  refine lv_istore_n hx hb dX4_count_8 rfl hl (by decide) rfl (fun ls hl => ?_)
  have hl : lv_has ls 5 [(3, .int (nI 0)), (2, .int (nI 0)), (0, .ref aO), (1, .int x)] := hl
  refine lv_iconst (v := nI 0) hx hb dX4_count_9 (by decide) ?_
  refine lv_istore hx hb dX4_count_10 hl (by decide) rfl (fun ls hl => ?_)
  have hl : lv_has ls 5 [(4, .int (nI 0)), (3, .int (nI 0)), (2, .int (nI 0)), (0, .ref aO), (1, .int x)] := hl
  have lp12 : ∀ (n9 : Nat) (i : Nat) (ls : Array Slot) (H : Heap) (locs : List Loc), P - i < n9 → (i ≤ P) → lv_has ls 5 [(4, .int (nI i)), (3, .int (nI (dr_cnt (fun d => decide (0 < rf_dv lo fr n d)) i))), (2, .int (nI (dr_cnt lo i))), (1, .int x), (0, .ref aO)] → va_P (dC, dI) vwCl [(aO, .inr (4, [.int (nI 0), .int (nI P), .int (nI n), .ref bW, .ref bL, .ref bF, .ref bK, .int (bI pw), .int lf, .ref bB, .ref bS, .ref bN, .ref bM, .int (nI mz)])), (bW, .inl (cI, 676, .inl wd)), (bL, .inl (cB, 13, .inl (fun z9 => bI (lo z9)))), (bF, .inl (cB, 52, .inl (fun z9 => bI (fr z9)))), (bK, .inl (cB, 4, .inl (fun z9 => bI (mk z9)))), (bB, .inl (cI, 26, .inl (fun z9 => nI (bt z9)))), (bS, .inl (cI, 26, .inl su)), (bN, .inl (cI, 26, .inl kv)), (bM, .inl (cI, 13, .inl (fun z9 => nI (mi z9))))] H → va_D A [(aO, .inr (4, [.int (nI 0), .int (nI P), .int (nI n), .ref bW, .ref bL, .ref bF, .ref bK, .int (bI pw), .int lf, .ref bB, .ref bS, .ref bN, .ref bM, .int (nI mz)])), (bW, .inl (cI, 676, .inl wd)), (bL, .inl (cB, 13, .inl (fun z9 => bI (lo z9)))), (bF, .inl (cB, 52, .inl (fun z9 => bI (fr z9)))), (bK, .inl (cB, 4, .inl (fun z9 => bI (mk z9)))), (bB, .inl (cI, 26, .inl (fun z9 => nI (bt z9)))), (bS, .inl (cI, 26, .inl su)), (bN, .inl (cI, 26, .inl kv)), (bM, .inl (cI, 13, .inl (fun z9 => nI (mi z9))))] → va_S A s.heap H locs → W p l e rm_c_mcount s m args below meth c H locs 0 0 Q (F0 m 12 ls []) := by
    intro n9
    induction n9 with
    | zero => intro i ls H locs hn9; omega
    | succ n9 ih12 =>
      intro i ls H locs hn9 hi hl hP hD hS
      refine lv_iload hx hb dX4_count_12 (lv_at hl 0 rfl) ?_
      refine lv_aload_n hx hb dX4_count_14 rfl (lv_at hl 4 rfl) ?_
      refine va_get (D := (dC, dI)) (ci := 4) (v := .int (nI P)) (C := RX4) (T := TX4) (N := 14) hx hb hts inX4 hown hK hP 0 rfl rfl 1 (by decide) (hts _ t_fX4_43) (fun _ h9 => h9) rfl dX4_count_15 ?_
      refine x_cge (tgt := 62) hx hb dX4_count_18 (by decide) (by omega) (by omega) (fun h18 => ?_) (fun h18 => ?_)
      · -- 18t
        have hie18 : i = P := by omega
        try rw [hie18] at hl
        try rw [hie18] at hP
        try rw [hie18] at hD
        have hl : lv_has ls 5 [(4, .int (nI P)), (3, .int (nI (dr_cnt (fun d => decide (0 < rf_dv lo fr n d)) P))), (2, .int (nI (dr_cnt lo P))), (1, .int x), (0, .ref aO)] := hl
        have hP : va_P (dC, dI) vwCl [(aO, .inr (4, [.int (nI 0), .int (nI P), .int (nI n), .ref bW, .ref bL, .ref bF, .ref bK, .int (bI pw), .int lf, .ref bB, .ref bS, .ref bN, .ref bM, .int (nI mz)])), (bW, .inl (cI, 676, .inl wd)), (bL, .inl (cB, 13, .inl (fun z9 => bI (lo z9)))), (bF, .inl (cB, 52, .inl (fun z9 => bI (fr z9)))), (bK, .inl (cB, 4, .inl (fun z9 => bI (mk z9)))), (bB, .inl (cI, 26, .inl (fun z9 => nI (bt z9)))), (bS, .inl (cI, 26, .inl su)), (bN, .inl (cI, 26, .inl kv)), (bM, .inl (cI, 13, .inl (fun z9 => nI (mi z9))))] H := hP
        have hD : va_D A [(aO, .inr (4, [.int (nI 0), .int (nI P), .int (nI n), .ref bW, .ref bL, .ref bF, .ref bK, .int (bI pw), .int lf, .ref bB, .ref bS, .ref bN, .ref bM, .int (nI mz)])), (bW, .inl (cI, 676, .inl wd)), (bL, .inl (cB, 13, .inl (fun z9 => bI (lo z9)))), (bF, .inl (cB, 52, .inl (fun z9 => bI (fr z9)))), (bK, .inl (cB, 4, .inl (fun z9 => bI (mk z9)))), (bB, .inl (cI, 26, .inl (fun z9 => nI (bt z9)))), (bS, .inl (cI, 26, .inl su)), (bN, .inl (cI, 26, .inl kv)), (bM, .inl (cI, 13, .inl (fun z9 => nI (mi z9))))] := hD
        refine lv_iload_n hx hb dX4_count_62 rfl (lv_at hl 3 rfl) ?_
        by_cases hsw : x.toInt < 0 ∨ (4 : Int) < x.toInt
        · -- default
          refine lv_tableOut (tgt := 127) hx hb dX4_count_63 hsw (by decide) ?_
          refine lv_iconst (v := (-1)) hx hb dX4_count_127 (by decide) ?_
          exact x_iret (D := (dC, dI)) (cl := vwCl) (A := A) () hQ hx hb hr hlk hP hD hS dX4_count_128 (by unfold dr_cv; rw [if_neg, if_neg, if_neg, if_neg, if_neg] <;> (intro z; subst z; revert hsw; decide))
        · obtain ⟨j9, hj9, rfl⟩ := dr_sw 4 (by decide) hsw
          have hj8 : j9 = 0 ∨ j9 = 1 ∨ j9 = 2 ∨ j9 = 3 ∨ j9 = 4 := by omega
          rcases hj8 with rfl | rfl | rfl | rfl | rfl
          · -- case 0
            refine lv_tableIn (off := 33) (tgt := 96) hx hb dX4_count_63 (by decide) (by decide) (by decide) (by decide) ?_
            refine lv_aload_n hx hb dX4_count_96 rfl (lv_at hl 4 rfl) ?_
            refine va_get (D := (dC, dI)) (ci := 4) (v := .int (nI P)) (C := RX4) (T := TX4) (N := 14) hx hb hts inX4 hown hK hP 0 rfl rfl 1 (by decide) (hts _ t_fX4_43) (fun _ h9 => h9) rfl dX4_count_97 ?_
            exact x_iret (D := (dC, dI)) (cl := vwCl) (A := A) () hQ hx hb hr hlk hP hD hS dX4_count_100 (by first | rfl | (simp [h18]; done) | (simp [h18]; omega))
          · -- case 1
            refine lv_tableIn (off := 38) (tgt := 101) hx hb dX4_count_63 (by decide) (by decide) (by decide) (by decide) ?_
            refine lv_aload_n hx hb dX4_count_101 rfl (lv_at hl 4 rfl) ?_
            refine va_get (D := (dC, dI)) (ci := 4) (v := .int (nI n)) (C := RX4) (T := TX4) (N := 14) hx hb hts inX4 hown hK hP 0 rfl rfl 2 (by decide) (hts _ t_fX4_46) (fun _ h9 => h9) rfl dX4_count_102 ?_
            exact x_iret (D := (dC, dI)) (cl := vwCl) (A := A) () hQ hx hb hr hlk hP hD hS dX4_count_105 (by first | rfl | (simp [h18]; done) | (simp [h18]; omega))
          · -- case 2
            refine lv_tableIn (off := 43) (tgt := 106) hx hb dX4_count_63 (by decide) (by decide) (by decide) (by decide) ?_
            refine lv_aload_n hx hb dX4_count_106 rfl (lv_at hl 4 rfl) ?_
            refine va_get (D := (dC, dI)) (ci := 4) (v := .int (nI n)) (C := RX4) (T := TX4) (N := 14) hx hb hts inX4 hown hK hP 0 rfl rfl 2 (by decide) (hts _ t_fX4_46) (fun _ h9 => h9) rfl dX4_count_107 ?_
            refine lv_aload_n hx hb dX4_count_110 rfl (lv_at hl 4 rfl) ?_
            refine va_get (D := (dC, dI)) (ci := 4) (v := .int (nI P)) (C := RX4) (T := TX4) (N := 14) hx hb hts inX4 hown hK hP 0 rfl rfl 1 (by decide) (hts _ t_fX4_43) (fun _ h9 => h9) rfl dX4_count_111 ?_
            refine lv_iconst (v := nI 2) hx hb dX4_count_114 (by decide) ?_
            refine x_sub hx hb dX4_count_115 (by omega) ?_
            refine x_mul hx hb dX4_count_116 ?_
            refine lv_aload_n hx hb dX4_count_117 rfl (lv_at hl 4 rfl) ?_
            refine va_get (D := (dC, dI)) (ci := 4) (v := .int (nI P)) (C := RX4) (T := TX4) (N := 14) hx hb hts inX4 hown hK hP 0 rfl rfl 1 (by decide) (hts _ t_fX4_43) (fun _ h9 => h9) rfl dX4_count_118 ?_
            refine x_mul hx hb dX4_count_121 ?_
            exact x_iret (D := (dC, dI)) (cl := vwCl) (A := A) () hQ hx hb hr hlk hP hD hS dX4_count_122 (by first | rfl | (simp [h18]; done) | (simp [h18]; omega))
          · -- case 3
            refine lv_tableIn (off := 60) (tgt := 123) hx hb dX4_count_63 (by decide) (by decide) (by decide) (by decide) ?_
            refine lv_iload_n hx hb dX4_count_123 rfl (lv_at hl 2 rfl) ?_
            exact x_iret (D := (dC, dI)) (cl := vwCl) (A := A) () hQ hx hb hr hlk hP hD hS dX4_count_124 (by first | rfl | (simp [h18]; done) | (simp [h18]; omega))
          · -- case 4
            refine lv_tableIn (off := 62) (tgt := 125) hx hb dX4_count_63 (by decide) (by decide) (by decide) (by decide) ?_
            refine lv_iload_n hx hb dX4_count_125 rfl (lv_at hl 1 rfl) ?_
            exact x_iret (D := (dC, dI)) (cl := vwCl) (A := A) () hQ hx hb hr hlk hP hD hS dX4_count_126 (by first | rfl | (simp [h18]; done) | (simp [h18]; omega))
      · -- 18f
        refine lv_iload_n hx hb dX4_count_21 rfl (lv_at hl 2 rfl) ?_
        refine lv_aload_n hx hb dX4_count_22 rfl (lv_at hl 4 rfl) ?_
        refine va_get (D := (dC, dI)) (ci := 4) (v := .ref bL) (C := RX4) (T := TX4) (N := 14) hx hb hts inX4 hown hK hP 0 rfl rfl 4 (by decide) (hts _ t_fX4_13) (fun _ h9 => h9) rfl dX4_count_23 ?_
        refine lv_iload hx hb dX4_count_26 (lv_at hl 0 rfl) ?_
        refine x_zald (g := lo) hx hb hK hP 2 1 rfl rfl dX4_count_28 (by omega) (by omega) ?_
        refine x_ifF (tgt := 36) hx hb dX4_count_29 (by decide) (fun h29 => ?_) (fun h29 => ?_)
        · -- 29t
          refine lv_iconst (v := nI 0) hx hb dX4_count_36 (by decide) ?_
          refine x_add hx hb dX4_count_37 ?_
          refine lv_istore_n hx hb dX4_count_38 rfl hl (by decide) rfl (fun ls hl => ?_)
          have hl : lv_has ls 5 [(2, .int (nI (dr_cnt lo i + 0))), (4, .int (nI i)), (3, .int (nI (dr_cnt (fun d => decide (0 < rf_dv lo fr n d)) i))), (1, .int x), (0, .ref aO)] := hl
          refine lv_iload_n hx hb dX4_count_39 rfl (lv_at hl 2 rfl) ?_
          refine lv_aload_n hx hb dX4_count_40 rfl (lv_at hl 4 rfl) ?_
          refine lv_iload hx hb dX4_count_41 (lv_at hl 1 rfl) ?_
          refine gV (wr := []) (pre := [(aO, .inr (4, [.int (nI 0), .int (nI P), .int (nI n), .ref bW, .ref bL, .ref bF, .ref bK, .int (bI pw), .int lf, .ref bB, .ref bS, .ref bN, .ref bM, .int (nI mz)])), (bW, .inl (cI, 676, .inl wd)), (bL, .inl (cB, 13, .inl (fun z9 => bI (lo z9)))), (bF, .inl (cB, 52, .inl (fun z9 => bI (fr z9)))), (bK, .inl (cB, 4, .inl (fun z9 => bI (mk z9)))), (bB, .inl (cI, 26, .inl (fun z9 => nI (bt z9)))), (bS, .inl (cI, 26, .inl su)), (bN, .inl (cI, 26, .inl kv)), (bM, .inl (cI, 13, .inl (fun z9 => nI (mi z9))))]) (tl := []) (G := fun (u : Unit) => [(aO, .inr (4, [.int (nI 0), .int (nI P), .int (nI n), .ref bW, .ref bL, .ref bF, .ref bK, .int (bI pw), .int lf, .ref bB, .ref bS, .ref bN, .ref bM, .int (nI mz)])), (bW, .inl (cI, 676, .inl wd)), (bL, .inl (cB, 13, .inl (fun z9 => bI (lo z9)))), (bF, .inl (cB, 52, .inl (fun z9 => bI (fr z9)))), (bK, .inl (cB, 4, .inl (fun z9 => bI (mk z9)))), (bB, .inl (cI, 26, .inl (fun z9 => nI (bt z9)))), (bS, .inl (cI, 26, .inl su)), (bN, .inl (cI, 26, .inl kv)), (bM, .inl (cI, 13, .inl (fun z9 => nI (mi z9))))]) (b := aO) (As := [.int (nI i)]) (rst := [.int (nI (dr_cnt (fun d => decide (0 < rf_dv lo fr n d)) i))]) ⟨hx, hb, hml, hown, hts⟩ (c_mdrive1 l dC dI cI cB cQ cJ aO bW bL bF bK bB bS bN bM 0 P n pw lf mz wd lo fr mk bt su kv mi i hp5 (by omega) (by omega)) (cwV 1 hts (gdV t_mX4_99 t_inst_X4_drive t_sel_X4_drive t_ini_X4 t_code_X4_drive) rfl rfl rfl (by decide +kernel) ⟨Nat.le_of_ble_eq_true rfl, Nat.le_of_ble_eq_true rfl⟩) hK hP hD hS hA [0, 1, 2, 3, 4, 5, 6, 7, 8] [] [0, 1, 2, 3, 4, 5, 6, 7, 8] rfl (by decide) (fun _ => rfl) (by decide) (ci := 4) rfl rfl rfl rfl hl.1 rfl (Nat.le_of_ble_eq_true rfl) dX4_count_43 ⟨Nat.zero_le _, Nat.zero_le _⟩ (fun r u H locs hu1 hP hD hS => ?_)
          have hr43 := hu1
          have hr43 : r = nI (rf_dv lo fr n i) := hr43
          subst hr43
          have hP : va_P (dC, dI) vwCl [(aO, .inr (4, [.int (nI 0), .int (nI P), .int (nI n), .ref bW, .ref bL, .ref bF, .ref bK, .int (bI pw), .int lf, .ref bB, .ref bS, .ref bN, .ref bM, .int (nI mz)])), (bW, .inl (cI, 676, .inl wd)), (bL, .inl (cB, 13, .inl (fun z9 => bI (lo z9)))), (bF, .inl (cB, 52, .inl (fun z9 => bI (fr z9)))), (bK, .inl (cB, 4, .inl (fun z9 => bI (mk z9)))), (bB, .inl (cI, 26, .inl (fun z9 => nI (bt z9)))), (bS, .inl (cI, 26, .inl su)), (bN, .inl (cI, 26, .inl kv)), (bM, .inl (cI, 13, .inl (fun z9 => nI (mi z9))))] H := hP
          have hD : va_D A [(aO, .inr (4, [.int (nI 0), .int (nI P), .int (nI n), .ref bW, .ref bL, .ref bF, .ref bK, .int (bI pw), .int lf, .ref bB, .ref bS, .ref bN, .ref bM, .int (nI mz)])), (bW, .inl (cI, 676, .inl wd)), (bL, .inl (cB, 13, .inl (fun z9 => bI (lo z9)))), (bF, .inl (cB, 52, .inl (fun z9 => bI (fr z9)))), (bK, .inl (cB, 4, .inl (fun z9 => bI (mk z9)))), (bB, .inl (cI, 26, .inl (fun z9 => nI (bt z9)))), (bS, .inl (cI, 26, .inl su)), (bN, .inl (cI, 26, .inl kv)), (bM, .inl (cI, 13, .inl (fun z9 => nI (mi z9))))] := hD
          have hdv := rf_dv_le lo fr n i
          refine x_lez (tgt := 53) hx hb dX4_count_46 (by decide) (by omega) (fun h46 => ?_) (fun h46 => ?_)
          · -- 46t
            refine lv_iconst (v := nI 0) hx hb dX4_count_53 (by decide) ?_
            refine x_add hx hb dX4_count_54 ?_
            refine lv_istore_n hx hb dX4_count_55 rfl hl (by decide) rfl (fun ls hl => ?_)
            have hl : lv_has ls 5 [(3, .int (nI ((dr_cnt (fun d => decide (0 < rf_dv lo fr n d)) i) + 0))), (2, .int (nI (dr_cnt lo i + 0))), (4, .int (nI i)), (1, .int x), (0, .ref aO)] := hl
            refine lv_iinc (v := nI (i + 1)) hx hb dX4_count_56 hl (k := 2) rfl (x_inc _) (by decide) rfl (fun ls hl => ?_)
            have hl : lv_has ls 5 [(4, .int (nI (i + 1))), (3, .int (nI ((dr_cnt (fun d => decide (0 < rf_dv lo fr n d)) i) + 0))), (2, .int (nI (dr_cnt lo i + 0))), (1, .int x), (0, .ref aO)] := hl
            refine lv_goto (tgt := 12) hx hb dX4_count_59 (by decide) ?_
            have e2 : (dr_cnt (fun d => decide (0 < rf_dv lo fr n d)) (i + 1)) = ((dr_cnt (fun d => decide (0 < rf_dv lo fr n d)) i) + 0) := by first | rfl | (simp [dr_cnt, h18, h29, h46]; done) | (simp [dr_cnt, h18, h29, h46]; omega)
            have e3 : (dr_cnt lo (i + 1)) = (dr_cnt lo i + 0) := by first | rfl | (simp [dr_cnt, h18, h29, h46]; done) | (simp [dr_cnt, h18, h29, h46]; omega)
            exact ih12 (i + 1) ls H locs (by omega) (by omega) (by rw [e2, e3]; exact lv_sub hl [0, 1, 2, 3, 4] rfl) hP hD hS
          · -- 46f
            refine lv_iconst (v := nI 1) hx hb dX4_count_49 (by decide) ?_
            refine lv_goto (tgt := 54) hx hb dX4_count_50 (by decide) ?_
            refine x_add hx hb dX4_count_54 ?_
            refine lv_istore_n hx hb dX4_count_55 rfl hl (by decide) rfl (fun ls hl => ?_)
            have hl : lv_has ls 5 [(3, .int (nI ((dr_cnt (fun d => decide (0 < rf_dv lo fr n d)) i) + 1))), (2, .int (nI (dr_cnt lo i + 0))), (4, .int (nI i)), (1, .int x), (0, .ref aO)] := hl
            refine lv_iinc (v := nI (i + 1)) hx hb dX4_count_56 hl (k := 2) rfl (x_inc _) (by decide) rfl (fun ls hl => ?_)
            have hl : lv_has ls 5 [(4, .int (nI (i + 1))), (3, .int (nI ((dr_cnt (fun d => decide (0 < rf_dv lo fr n d)) i) + 1))), (2, .int (nI (dr_cnt lo i + 0))), (1, .int x), (0, .ref aO)] := hl
            refine lv_goto (tgt := 12) hx hb dX4_count_59 (by decide) ?_
            have e4 : (dr_cnt (fun d => decide (0 < rf_dv lo fr n d)) (i + 1)) = ((dr_cnt (fun d => decide (0 < rf_dv lo fr n d)) i) + 1) := by first | rfl | (simp [dr_cnt, h18, h29, h46]; done) | (simp [dr_cnt, h18, h29, h46]; omega)
            have e5 : (dr_cnt lo (i + 1)) = (dr_cnt lo i + 0) := by first | rfl | (simp [dr_cnt, h18, h29, h46]; done) | (simp [dr_cnt, h18, h29, h46]; omega)
            exact ih12 (i + 1) ls H locs (by omega) (by omega) (by rw [e4, e5]; exact lv_sub hl [0, 1, 2, 3, 4] rfl) hP hD hS
        · -- 29f
          refine lv_iconst (v := nI 1) hx hb dX4_count_32 (by decide) ?_
          refine lv_goto (tgt := 37) hx hb dX4_count_33 (by decide) ?_
          refine x_add hx hb dX4_count_37 ?_
          refine lv_istore_n hx hb dX4_count_38 rfl hl (by decide) rfl (fun ls hl => ?_)
          have hl : lv_has ls 5 [(2, .int (nI (dr_cnt lo i + 1))), (4, .int (nI i)), (3, .int (nI (dr_cnt (fun d => decide (0 < rf_dv lo fr n d)) i))), (1, .int x), (0, .ref aO)] := hl
          refine lv_iload_n hx hb dX4_count_39 rfl (lv_at hl 2 rfl) ?_
          refine lv_aload_n hx hb dX4_count_40 rfl (lv_at hl 4 rfl) ?_
          refine lv_iload hx hb dX4_count_41 (lv_at hl 1 rfl) ?_
          refine gV (wr := []) (pre := [(aO, .inr (4, [.int (nI 0), .int (nI P), .int (nI n), .ref bW, .ref bL, .ref bF, .ref bK, .int (bI pw), .int lf, .ref bB, .ref bS, .ref bN, .ref bM, .int (nI mz)])), (bW, .inl (cI, 676, .inl wd)), (bL, .inl (cB, 13, .inl (fun z9 => bI (lo z9)))), (bF, .inl (cB, 52, .inl (fun z9 => bI (fr z9)))), (bK, .inl (cB, 4, .inl (fun z9 => bI (mk z9)))), (bB, .inl (cI, 26, .inl (fun z9 => nI (bt z9)))), (bS, .inl (cI, 26, .inl su)), (bN, .inl (cI, 26, .inl kv)), (bM, .inl (cI, 13, .inl (fun z9 => nI (mi z9))))]) (tl := []) (G := fun (u : Unit) => [(aO, .inr (4, [.int (nI 0), .int (nI P), .int (nI n), .ref bW, .ref bL, .ref bF, .ref bK, .int (bI pw), .int lf, .ref bB, .ref bS, .ref bN, .ref bM, .int (nI mz)])), (bW, .inl (cI, 676, .inl wd)), (bL, .inl (cB, 13, .inl (fun z9 => bI (lo z9)))), (bF, .inl (cB, 52, .inl (fun z9 => bI (fr z9)))), (bK, .inl (cB, 4, .inl (fun z9 => bI (mk z9)))), (bB, .inl (cI, 26, .inl (fun z9 => nI (bt z9)))), (bS, .inl (cI, 26, .inl su)), (bN, .inl (cI, 26, .inl kv)), (bM, .inl (cI, 13, .inl (fun z9 => nI (mi z9))))]) (b := aO) (As := [.int (nI i)]) (rst := [.int (nI (dr_cnt (fun d => decide (0 < rf_dv lo fr n d)) i))]) ⟨hx, hb, hml, hown, hts⟩ (c_mdrive1 l dC dI cI cB cQ cJ aO bW bL bF bK bB bS bN bM 0 P n pw lf mz wd lo fr mk bt su kv mi i hp5 (by omega) (by omega)) (cwV 1 hts (gdV t_mX4_99 t_inst_X4_drive t_sel_X4_drive t_ini_X4 t_code_X4_drive) rfl rfl rfl (by decide +kernel) ⟨Nat.le_of_ble_eq_true rfl, Nat.le_of_ble_eq_true rfl⟩) hK hP hD hS hA [0, 1, 2, 3, 4, 5, 6, 7, 8] [] [0, 1, 2, 3, 4, 5, 6, 7, 8] rfl (by decide) (fun _ => rfl) (by decide) (ci := 4) rfl rfl rfl rfl hl.1 rfl (Nat.le_of_ble_eq_true rfl) dX4_count_43 ⟨Nat.zero_le _, Nat.zero_le _⟩ (fun r u H locs hu6 hP hD hS => ?_)
          have hr43 := hu6
          have hr43 : r = nI (rf_dv lo fr n i) := hr43
          subst hr43
          have hP : va_P (dC, dI) vwCl [(aO, .inr (4, [.int (nI 0), .int (nI P), .int (nI n), .ref bW, .ref bL, .ref bF, .ref bK, .int (bI pw), .int lf, .ref bB, .ref bS, .ref bN, .ref bM, .int (nI mz)])), (bW, .inl (cI, 676, .inl wd)), (bL, .inl (cB, 13, .inl (fun z9 => bI (lo z9)))), (bF, .inl (cB, 52, .inl (fun z9 => bI (fr z9)))), (bK, .inl (cB, 4, .inl (fun z9 => bI (mk z9)))), (bB, .inl (cI, 26, .inl (fun z9 => nI (bt z9)))), (bS, .inl (cI, 26, .inl su)), (bN, .inl (cI, 26, .inl kv)), (bM, .inl (cI, 13, .inl (fun z9 => nI (mi z9))))] H := hP
          have hD : va_D A [(aO, .inr (4, [.int (nI 0), .int (nI P), .int (nI n), .ref bW, .ref bL, .ref bF, .ref bK, .int (bI pw), .int lf, .ref bB, .ref bS, .ref bN, .ref bM, .int (nI mz)])), (bW, .inl (cI, 676, .inl wd)), (bL, .inl (cB, 13, .inl (fun z9 => bI (lo z9)))), (bF, .inl (cB, 52, .inl (fun z9 => bI (fr z9)))), (bK, .inl (cB, 4, .inl (fun z9 => bI (mk z9)))), (bB, .inl (cI, 26, .inl (fun z9 => nI (bt z9)))), (bS, .inl (cI, 26, .inl su)), (bN, .inl (cI, 26, .inl kv)), (bM, .inl (cI, 13, .inl (fun z9 => nI (mi z9))))] := hD
          have hdv := rf_dv_le lo fr n i
          refine x_lez (tgt := 53) hx hb dX4_count_46 (by decide) (by omega) (fun h46 => ?_) (fun h46 => ?_)
          · -- 46t
            refine lv_iconst (v := nI 0) hx hb dX4_count_53 (by decide) ?_
            refine x_add hx hb dX4_count_54 ?_
            refine lv_istore_n hx hb dX4_count_55 rfl hl (by decide) rfl (fun ls hl => ?_)
            have hl : lv_has ls 5 [(3, .int (nI ((dr_cnt (fun d => decide (0 < rf_dv lo fr n d)) i) + 0))), (2, .int (nI (dr_cnt lo i + 1))), (4, .int (nI i)), (1, .int x), (0, .ref aO)] := hl
            refine lv_iinc (v := nI (i + 1)) hx hb dX4_count_56 hl (k := 2) rfl (x_inc _) (by decide) rfl (fun ls hl => ?_)
            have hl : lv_has ls 5 [(4, .int (nI (i + 1))), (3, .int (nI ((dr_cnt (fun d => decide (0 < rf_dv lo fr n d)) i) + 0))), (2, .int (nI (dr_cnt lo i + 1))), (1, .int x), (0, .ref aO)] := hl
            refine lv_goto (tgt := 12) hx hb dX4_count_59 (by decide) ?_
            have e7 : (dr_cnt (fun d => decide (0 < rf_dv lo fr n d)) (i + 1)) = ((dr_cnt (fun d => decide (0 < rf_dv lo fr n d)) i) + 0) := by first | rfl | (simp [dr_cnt, h18, h29, h46]; done) | (simp [dr_cnt, h18, h29, h46]; omega)
            have e8 : (dr_cnt lo (i + 1)) = (dr_cnt lo i + 1) := by first | rfl | (simp [dr_cnt, h18, h29, h46]; done) | (simp [dr_cnt, h18, h29, h46]; omega)
            exact ih12 (i + 1) ls H locs (by omega) (by omega) (by rw [e7, e8]; exact lv_sub hl [0, 1, 2, 3, 4] rfl) hP hD hS
          · -- 46f
            refine lv_iconst (v := nI 1) hx hb dX4_count_49 (by decide) ?_
            refine lv_goto (tgt := 54) hx hb dX4_count_50 (by decide) ?_
            refine x_add hx hb dX4_count_54 ?_
            refine lv_istore_n hx hb dX4_count_55 rfl hl (by decide) rfl (fun ls hl => ?_)
            have hl : lv_has ls 5 [(3, .int (nI ((dr_cnt (fun d => decide (0 < rf_dv lo fr n d)) i) + 1))), (2, .int (nI (dr_cnt lo i + 1))), (4, .int (nI i)), (1, .int x), (0, .ref aO)] := hl
            refine lv_iinc (v := nI (i + 1)) hx hb dX4_count_56 hl (k := 2) rfl (x_inc _) (by decide) rfl (fun ls hl => ?_)
            have hl : lv_has ls 5 [(4, .int (nI (i + 1))), (3, .int (nI ((dr_cnt (fun d => decide (0 < rf_dv lo fr n d)) i) + 1))), (2, .int (nI (dr_cnt lo i + 1))), (1, .int x), (0, .ref aO)] := hl
            refine lv_goto (tgt := 12) hx hb dX4_count_59 (by decide) ?_
            have e9 : (dr_cnt (fun d => decide (0 < rf_dv lo fr n d)) (i + 1)) = ((dr_cnt (fun d => decide (0 < rf_dv lo fr n d)) i) + 1) := by first | rfl | (simp [dr_cnt, h18, h29, h46]; done) | (simp [dr_cnt, h18, h29, h46]; omega)
            have e10 : (dr_cnt lo (i + 1)) = (dr_cnt lo i + 1) := by first | rfl | (simp [dr_cnt, h18, h29, h46]; done) | (simp [dr_cnt, h18, h29, h46]; omega)
            exact ih12 (i + 1) ls H locs (by omega) (by omega) (by rw [e9, e10]; exact lv_sub hl [0, 1, 2, 3, 4] rfl) hP hD hS
  have e11 : (dr_cnt (fun d => decide (0 < rf_dv lo fr n d)) 0) = 0 := by first | rfl | (simp [dr_cnt]; done) | (simp [dr_cnt]; omega)
  have e12 : (dr_cnt lo 0) = 0 := by first | rfl | (simp [dr_cnt]; done) | (simp [dr_cnt]; omega)
  exact lp12 (P - 0 + 1) 0 ls H locs (by omega) (by omega) (by rw [e11, e12]; exact lv_sub hl [0, 1, 2, 4, 3] rfl) hP hD hS

abbrev rm_c_mlose0 : Room := { frames := 1, cells := 0, slots := 0, locals := 21 }
set_option maxHeartbeats 4000000 in
set_option maxRecDepth 100000 in
theorem c_mlose0 (l : Launch) (dC : Nat → ClassId) (dI : Nat → Nat → Nat) (cI cB cQ cJ : ClassId) (aO : Nat) (bW : Nat) (bL : Nat) (bF : Nat) (bK : Nat) (bB : Nat) (bS : Nat) (bN : Nat) (bM : Nat) (th : Nat) (P : Nat) (n : Nat) (pw : Bool) (lf : Int32) (mz : Nat) (wd : Nat → Int32) (lo : Nat → Bool) (fr : Nat → Bool) (mk : Nat → Bool) (bt : Nat → Nat) (su : Nat → Int32) (kv : Nat → Int32) (mi : Nat → Nat) (x : Int32) (hp5 : dr_P P) (hn : n < 5) (hc : dr_in x P = false) : MG l yX4_lose (Cond.code yX4_lose cX4_lose 4 (some .boolean) :: TB) rm_c_mlose0 (dC, dI) vwCl (TY cI cB cQ cJ) [.ref aO, .int x] [(aO, .inr (4, [.int (nI th), .int (nI P), .int (nI n), .ref bW, .ref bL, .ref bF, .ref bK, .int (bI pw), .int lf, .ref bB, .ref bS, .ref bN, .ref bM, .int (nI mz)])), (bW, .inl (cI, 676, .inl wd)), (bL, .inl (cB, 13, .inl (fun z9 => bI (lo z9)))), (bF, .inl (cB, 52, .inl (fun z9 => bI (fr z9)))), (bK, .inl (cB, 4, .inl (fun z9 => bI (mk z9)))), (bB, .inl (cI, 26, .inl (fun z9 => nI (bt z9)))), (bS, .inl (cI, 26, .inl su)), (bN, .inl (cI, 26, .inl kv)), (bM, .inl (cI, 13, .inl (fun z9 => nI (mi z9))))] (fun (r : Int32) (u : Unit) => r = bI false) (fun (u : Unit) => [(aO, .inr (4, [.int (nI 0), .int (nI P), .int (nI n), .ref bW, .ref bL, .ref bF, .ref bK, .int (bI pw), .int lf, .ref bB, .ref bS, .ref bN, .ref bM, .int (nI mz)])), (bW, .inl (cI, 676, .inl wd)), (bL, .inl (cB, 13, .inl (fun z9 => bI (lo z9)))), (bF, .inl (cB, 52, .inl (fun z9 => bI (fr z9)))), (bK, .inl (cB, 4, .inl (fun z9 => bI (mk z9)))), (bB, .inl (cI, 26, .inl (fun z9 => nI (bt z9)))), (bS, .inl (cI, 26, .inl su)), (bN, .inl (cI, 26, .inl kv)), (bM, .inl (cI, 13, .inl (fun z9 => nI (mi z9))))]) := by
  refine MG.ofW (cc := cX4_lose) (maxL := 4) (rt := .boolean) (by decide +kernel) rfl (Nat.le_of_ble_eq_true rfl) ?_
  intro p e s m args below meth c A ls Q H locs hQ hx hb hml hr hlk hts hown hK hP hD hS hA hl
  have hts : ∀ w ∈ TB, w.before args s = true := fun w h => hts w (List.mem_cons_of_mem _ h)
  have hown : s.vm.findClass RX4 = some m.cls := hown
  have hl : lv_has ls 4 [(0, .ref aO), (1, .int x)] := hl
  have hP : va_P (dC, dI) vwCl [(aO, .inr (4, [.int (nI th), .int (nI P), .int (nI n), .ref bW, .ref bL, .ref bF, .ref bK, .int (bI pw), .int lf, .ref bB, .ref bS, .ref bN, .ref bM, .int (nI mz)])), (bW, .inl (cI, 676, .inl wd)), (bL, .inl (cB, 13, .inl (fun z9 => bI (lo z9)))), (bF, .inl (cB, 52, .inl (fun z9 => bI (fr z9)))), (bK, .inl (cB, 4, .inl (fun z9 => bI (mk z9)))), (bB, .inl (cI, 26, .inl (fun z9 => nI (bt z9)))), (bS, .inl (cI, 26, .inl su)), (bN, .inl (cI, 26, .inl kv)), (bM, .inl (cI, 13, .inl (fun z9 => nI (mi z9))))] H := hP
  have hD : va_D A [(aO, .inr (4, [.int (nI th), .int (nI P), .int (nI n), .ref bW, .ref bL, .ref bF, .ref bK, .int (bI pw), .int lf, .ref bB, .ref bS, .ref bN, .ref bM, .int (nI mz)])), (bW, .inl (cI, 676, .inl wd)), (bL, .inl (cB, 13, .inl (fun z9 => bI (lo z9)))), (bF, .inl (cB, 52, .inl (fun z9 => bI (fr z9)))), (bK, .inl (cB, 4, .inl (fun z9 => bI (mk z9)))), (bB, .inl (cI, 26, .inl (fun z9 => nI (bt z9)))), (bS, .inl (cI, 26, .inl su)), (bN, .inl (cI, 26, .inl kv)), (bM, .inl (cI, 13, .inl (fun z9 => nI (mi z9))))] := hD
  have hp := hp5.le
  have hpp := dr_PP hp5
  have hpq := dr_PP2 hp5
  refine lv_aload_n hx hb dX4_lose_0 rfl (lv_at hl 0 rfl) ?_
  refine lv_iconst (v := nI 0) hx hb dX4_lose_1 (by decide) ?_
  refine va_put (D := (dC, dI)) (ci := 4) (v := .int (nI 0)) (ty := .int) (C := RX4) (T := TX4) (N := 14) hx hb hts inX4 tyX4 tyX4_ok nmX4 hown hK hP hD hS 0 rfl rfl 0 (by decide) (hts _ t_fX4_49) (fun _ h9 => h9) rfl (by decide +kernel) rfl rfl (Nat.le_of_ble_eq_true rfl) dX4_lose_2 (fun H locs hP hD hS => ?_)
  have hP : va_P (dC, dI) vwCl [(aO, .inr (4, [.int (nI 0), .int (nI P), .int (nI n), .ref bW, .ref bL, .ref bF, .ref bK, .int (bI pw), .int lf, .ref bB, .ref bS, .ref bN, .ref bM, .int (nI mz)])), (bW, .inl (cI, 676, .inl wd)), (bL, .inl (cB, 13, .inl (fun z9 => bI (lo z9)))), (bF, .inl (cB, 52, .inl (fun z9 => bI (fr z9)))), (bK, .inl (cB, 4, .inl (fun z9 => bI (mk z9)))), (bB, .inl (cI, 26, .inl (fun z9 => nI (bt z9)))), (bS, .inl (cI, 26, .inl su)), (bN, .inl (cI, 26, .inl kv)), (bM, .inl (cI, 13, .inl (fun z9 => nI (mi z9))))] H := hP
  have hD : va_D A [(aO, .inr (4, [.int (nI 0), .int (nI P), .int (nI n), .ref bW, .ref bL, .ref bF, .ref bK, .int (bI pw), .int lf, .ref bB, .ref bS, .ref bN, .ref bM, .int (nI mz)])), (bW, .inl (cI, 676, .inl wd)), (bL, .inl (cB, 13, .inl (fun z9 => bI (lo z9)))), (bF, .inl (cB, 52, .inl (fun z9 => bI (fr z9)))), (bK, .inl (cB, 4, .inl (fun z9 => bI (mk z9)))), (bB, .inl (cI, 26, .inl (fun z9 => nI (bt z9)))), (bS, .inl (cI, 26, .inl su)), (bN, .inl (cI, 26, .inl kv)), (bM, .inl (cI, 13, .inl (fun z9 => nI (mi z9))))] := hD
  refine lv_aload_n hx hb dX4_lose_5 rfl (lv_at hl 0 rfl) ?_
  refine lv_iload_n hx hb dX4_lose_6 rfl (lv_at hl 1 rfl) ?_
  refine gV (wr := []) (pre := [(aO, .inr (4, [.int (nI 0), .int (nI P), .int (nI n), .ref bW, .ref bL, .ref bF, .ref bK, .int (bI pw), .int lf, .ref bB, .ref bS, .ref bN, .ref bM, .int (nI mz)])), (bW, .inl (cI, 676, .inl wd)), (bL, .inl (cB, 13, .inl (fun z9 => bI (lo z9)))), (bF, .inl (cB, 52, .inl (fun z9 => bI (fr z9)))), (bK, .inl (cB, 4, .inl (fun z9 => bI (mk z9)))), (bB, .inl (cI, 26, .inl (fun z9 => nI (bt z9)))), (bS, .inl (cI, 26, .inl su)), (bN, .inl (cI, 26, .inl kv)), (bM, .inl (cI, 13, .inl (fun z9 => nI (mi z9))))]) (tl := []) (G := fun (u : Unit) => [(aO, .inr (4, [.int (nI 0), .int (nI P), .int (nI n), .ref bW, .ref bL, .ref bF, .ref bK, .int (bI pw), .int lf, .ref bB, .ref bS, .ref bN, .ref bM, .int (nI mz)])), (bW, .inl (cI, 676, .inl wd)), (bL, .inl (cB, 13, .inl (fun z9 => bI (lo z9)))), (bF, .inl (cB, 52, .inl (fun z9 => bI (fr z9)))), (bK, .inl (cB, 4, .inl (fun z9 => bI (mk z9)))), (bB, .inl (cI, 26, .inl (fun z9 => nI (bt z9)))), (bS, .inl (cI, 26, .inl su)), (bN, .inl (cI, 26, .inl kv)), (bM, .inl (cI, 13, .inl (fun z9 => nI (mi z9))))]) (b := aO) (As := [.int x]) (rst := []) ⟨hx, hb, hml, hown, hts⟩ (c_mDrive l dC dI cI cB cQ cJ aO bW bL bF bK bB bS bN bM 0 P n pw lf mz wd lo fr mk bt su kv mi x (by omega) (by omega)) (cwV 1 hts (gdV t_mX4_93 t_inst_X4_isDrive t_sel_X4_isDrive t_ini_X4 t_code_X4_isDrive) rfl rfl rfl (by decide +kernel) ⟨Nat.le_of_ble_eq_true rfl, Nat.le_of_ble_eq_true rfl⟩) hK hP hD hS hA [0, 1, 2, 3, 4, 5, 6, 7, 8] [] [0, 1, 2, 3, 4, 5, 6, 7, 8] rfl (by decide) (fun _ => rfl) (by decide) (ci := 4) rfl rfl rfl rfl hl.1 rfl (Nat.le_of_ble_eq_true rfl) dX4_lose_7 ⟨Nat.zero_le _, Nat.zero_le _⟩ (fun r u H locs hu1 hP hD hS => ?_)
  have hr7 := hu1
  have hr7 : r = bI (dr_in x P) := hr7
  subst hr7
  have hP : va_P (dC, dI) vwCl [(aO, .inr (4, [.int (nI 0), .int (nI P), .int (nI n), .ref bW, .ref bL, .ref bF, .ref bK, .int (bI pw), .int lf, .ref bB, .ref bS, .ref bN, .ref bM, .int (nI mz)])), (bW, .inl (cI, 676, .inl wd)), (bL, .inl (cB, 13, .inl (fun z9 => bI (lo z9)))), (bF, .inl (cB, 52, .inl (fun z9 => bI (fr z9)))), (bK, .inl (cB, 4, .inl (fun z9 => bI (mk z9)))), (bB, .inl (cI, 26, .inl (fun z9 => nI (bt z9)))), (bS, .inl (cI, 26, .inl su)), (bN, .inl (cI, 26, .inl kv)), (bM, .inl (cI, 13, .inl (fun z9 => nI (mi z9))))] H := hP
  have hD : va_D A [(aO, .inr (4, [.int (nI 0), .int (nI P), .int (nI n), .ref bW, .ref bL, .ref bF, .ref bK, .int (bI pw), .int lf, .ref bB, .ref bS, .ref bN, .ref bM, .int (nI mz)])), (bW, .inl (cI, 676, .inl wd)), (bL, .inl (cB, 13, .inl (fun z9 => bI (lo z9)))), (bF, .inl (cB, 52, .inl (fun z9 => bI (fr z9)))), (bK, .inl (cB, 4, .inl (fun z9 => bI (mk z9)))), (bB, .inl (cI, 26, .inl (fun z9 => nI (bt z9)))), (bS, .inl (cI, 26, .inl su)), (bN, .inl (cI, 26, .inl kv)), (bM, .inl (cI, 13, .inl (fun z9 => nI (mi z9))))] := hD
  refine x_top (show bI (dr_in x P) = bI false from (congrArg bI hc)) ?_
  refine x_ifF (tgt := 22) hx hb dX4_lose_10 (by decide) (fun _ => ?_) (fun z9 => by cases z9)
  refine lv_iconst (v := bI false) hx hb dX4_lose_22 (by decide) ?_
  exact x_zret (D := (dC, dI)) (cl := vwCl) (A := A) () hQ hx hb hr hlk hP hD hS dX4_lose_23 (by first | rfl | (simp []; done) | (simp []; omega))

abbrev rm_c_mlose1 : Room := { frames := 1, cells := 0, slots := 0, locals := 21 }
set_option maxHeartbeats 4000000 in
set_option maxRecDepth 100000 in
theorem c_mlose1 (l : Launch) (dC : Nat → ClassId) (dI : Nat → Nat → Nat) (cI cB cQ cJ : ClassId) (aO : Nat) (bW : Nat) (bL : Nat) (bF : Nat) (bK : Nat) (bB : Nat) (bS : Nat) (bN : Nat) (bM : Nat) (th : Nat) (P : Nat) (n : Nat) (pw : Bool) (lf : Int32) (mz : Nat) (wd : Nat → Int32) (lo : Nat → Bool) (fr : Nat → Bool) (mk : Nat → Bool) (bt : Nat → Nat) (su : Nat → Int32) (kv : Nat → Int32) (mi : Nat → Nat) (d : Nat) (hp5 : dr_P P) (hn : n < 5) (hd : d < P) (hc : lo d = true) : MG l yX4_lose (Cond.code yX4_lose cX4_lose 4 (some .boolean) :: TB) rm_c_mlose1 (dC, dI) vwCl (TY cI cB cQ cJ) [.ref aO, .int (nI d)] [(aO, .inr (4, [.int (nI th), .int (nI P), .int (nI n), .ref bW, .ref bL, .ref bF, .ref bK, .int (bI pw), .int lf, .ref bB, .ref bS, .ref bN, .ref bM, .int (nI mz)])), (bW, .inl (cI, 676, .inl wd)), (bL, .inl (cB, 13, .inl (fun z9 => bI (lo z9)))), (bF, .inl (cB, 52, .inl (fun z9 => bI (fr z9)))), (bK, .inl (cB, 4, .inl (fun z9 => bI (mk z9)))), (bB, .inl (cI, 26, .inl (fun z9 => nI (bt z9)))), (bS, .inl (cI, 26, .inl su)), (bN, .inl (cI, 26, .inl kv)), (bM, .inl (cI, 13, .inl (fun z9 => nI (mi z9))))] (fun (r : Int32) (u : Unit) => r = bI false) (fun (u : Unit) => [(aO, .inr (4, [.int (nI 0), .int (nI P), .int (nI n), .ref bW, .ref bL, .ref bF, .ref bK, .int (bI pw), .int lf, .ref bB, .ref bS, .ref bN, .ref bM, .int (nI mz)])), (bW, .inl (cI, 676, .inl wd)), (bL, .inl (cB, 13, .inl (fun z9 => bI (lo z9)))), (bF, .inl (cB, 52, .inl (fun z9 => bI (fr z9)))), (bK, .inl (cB, 4, .inl (fun z9 => bI (mk z9)))), (bB, .inl (cI, 26, .inl (fun z9 => nI (bt z9)))), (bS, .inl (cI, 26, .inl su)), (bN, .inl (cI, 26, .inl kv)), (bM, .inl (cI, 13, .inl (fun z9 => nI (mi z9))))]) := by
  refine MG.ofW (cc := cX4_lose) (maxL := 4) (rt := .boolean) (by decide +kernel) rfl (Nat.le_of_ble_eq_true rfl) ?_
  intro p e s m args below meth c A ls Q H locs hQ hx hb hml hr hlk hts hown hK hP hD hS hA hl
  have hts : ∀ w ∈ TB, w.before args s = true := fun w h => hts w (List.mem_cons_of_mem _ h)
  have hown : s.vm.findClass RX4 = some m.cls := hown
  have hl : lv_has ls 4 [(0, .ref aO), (1, .int (nI d))] := hl
  have hP : va_P (dC, dI) vwCl [(aO, .inr (4, [.int (nI th), .int (nI P), .int (nI n), .ref bW, .ref bL, .ref bF, .ref bK, .int (bI pw), .int lf, .ref bB, .ref bS, .ref bN, .ref bM, .int (nI mz)])), (bW, .inl (cI, 676, .inl wd)), (bL, .inl (cB, 13, .inl (fun z9 => bI (lo z9)))), (bF, .inl (cB, 52, .inl (fun z9 => bI (fr z9)))), (bK, .inl (cB, 4, .inl (fun z9 => bI (mk z9)))), (bB, .inl (cI, 26, .inl (fun z9 => nI (bt z9)))), (bS, .inl (cI, 26, .inl su)), (bN, .inl (cI, 26, .inl kv)), (bM, .inl (cI, 13, .inl (fun z9 => nI (mi z9))))] H := hP
  have hD : va_D A [(aO, .inr (4, [.int (nI th), .int (nI P), .int (nI n), .ref bW, .ref bL, .ref bF, .ref bK, .int (bI pw), .int lf, .ref bB, .ref bS, .ref bN, .ref bM, .int (nI mz)])), (bW, .inl (cI, 676, .inl wd)), (bL, .inl (cB, 13, .inl (fun z9 => bI (lo z9)))), (bF, .inl (cB, 52, .inl (fun z9 => bI (fr z9)))), (bK, .inl (cB, 4, .inl (fun z9 => bI (mk z9)))), (bB, .inl (cI, 26, .inl (fun z9 => nI (bt z9)))), (bS, .inl (cI, 26, .inl su)), (bN, .inl (cI, 26, .inl kv)), (bM, .inl (cI, 13, .inl (fun z9 => nI (mi z9))))] := hD
  have hp := hp5.le
  have hpp := dr_PP hp5
  have hpq := dr_PP2 hp5
  refine lv_aload_n hx hb dX4_lose_0 rfl (lv_at hl 0 rfl) ?_
  refine lv_iconst (v := nI 0) hx hb dX4_lose_1 (by decide) ?_
  refine va_put (D := (dC, dI)) (ci := 4) (v := .int (nI 0)) (ty := .int) (C := RX4) (T := TX4) (N := 14) hx hb hts inX4 tyX4 tyX4_ok nmX4 hown hK hP hD hS 0 rfl rfl 0 (by decide) (hts _ t_fX4_49) (fun _ h9 => h9) rfl (by decide +kernel) rfl rfl (Nat.le_of_ble_eq_true rfl) dX4_lose_2 (fun H locs hP hD hS => ?_)
  have hP : va_P (dC, dI) vwCl [(aO, .inr (4, [.int (nI 0), .int (nI P), .int (nI n), .ref bW, .ref bL, .ref bF, .ref bK, .int (bI pw), .int lf, .ref bB, .ref bS, .ref bN, .ref bM, .int (nI mz)])), (bW, .inl (cI, 676, .inl wd)), (bL, .inl (cB, 13, .inl (fun z9 => bI (lo z9)))), (bF, .inl (cB, 52, .inl (fun z9 => bI (fr z9)))), (bK, .inl (cB, 4, .inl (fun z9 => bI (mk z9)))), (bB, .inl (cI, 26, .inl (fun z9 => nI (bt z9)))), (bS, .inl (cI, 26, .inl su)), (bN, .inl (cI, 26, .inl kv)), (bM, .inl (cI, 13, .inl (fun z9 => nI (mi z9))))] H := hP
  have hD : va_D A [(aO, .inr (4, [.int (nI 0), .int (nI P), .int (nI n), .ref bW, .ref bL, .ref bF, .ref bK, .int (bI pw), .int lf, .ref bB, .ref bS, .ref bN, .ref bM, .int (nI mz)])), (bW, .inl (cI, 676, .inl wd)), (bL, .inl (cB, 13, .inl (fun z9 => bI (lo z9)))), (bF, .inl (cB, 52, .inl (fun z9 => bI (fr z9)))), (bK, .inl (cB, 4, .inl (fun z9 => bI (mk z9)))), (bB, .inl (cI, 26, .inl (fun z9 => nI (bt z9)))), (bS, .inl (cI, 26, .inl su)), (bN, .inl (cI, 26, .inl kv)), (bM, .inl (cI, 13, .inl (fun z9 => nI (mi z9))))] := hD
  refine lv_aload_n hx hb dX4_lose_5 rfl (lv_at hl 0 rfl) ?_
  refine lv_iload_n hx hb dX4_lose_6 rfl (lv_at hl 1 rfl) ?_
  refine gV (wr := []) (pre := [(aO, .inr (4, [.int (nI 0), .int (nI P), .int (nI n), .ref bW, .ref bL, .ref bF, .ref bK, .int (bI pw), .int lf, .ref bB, .ref bS, .ref bN, .ref bM, .int (nI mz)])), (bW, .inl (cI, 676, .inl wd)), (bL, .inl (cB, 13, .inl (fun z9 => bI (lo z9)))), (bF, .inl (cB, 52, .inl (fun z9 => bI (fr z9)))), (bK, .inl (cB, 4, .inl (fun z9 => bI (mk z9)))), (bB, .inl (cI, 26, .inl (fun z9 => nI (bt z9)))), (bS, .inl (cI, 26, .inl su)), (bN, .inl (cI, 26, .inl kv)), (bM, .inl (cI, 13, .inl (fun z9 => nI (mi z9))))]) (tl := []) (G := fun (u : Unit) => [(aO, .inr (4, [.int (nI 0), .int (nI P), .int (nI n), .ref bW, .ref bL, .ref bF, .ref bK, .int (bI pw), .int lf, .ref bB, .ref bS, .ref bN, .ref bM, .int (nI mz)])), (bW, .inl (cI, 676, .inl wd)), (bL, .inl (cB, 13, .inl (fun z9 => bI (lo z9)))), (bF, .inl (cB, 52, .inl (fun z9 => bI (fr z9)))), (bK, .inl (cB, 4, .inl (fun z9 => bI (mk z9)))), (bB, .inl (cI, 26, .inl (fun z9 => nI (bt z9)))), (bS, .inl (cI, 26, .inl su)), (bN, .inl (cI, 26, .inl kv)), (bM, .inl (cI, 13, .inl (fun z9 => nI (mi z9))))]) (b := aO) (As := [.int (nI d)]) (rst := []) ⟨hx, hb, hml, hown, hts⟩ (c_mDrive l dC dI cI cB cQ cJ aO bW bL bF bK bB bS bN bM 0 P n pw lf mz wd lo fr mk bt su kv mi (nI d) (by omega) (by omega)) (cwV 1 hts (gdV t_mX4_93 t_inst_X4_isDrive t_sel_X4_isDrive t_ini_X4 t_code_X4_isDrive) rfl rfl rfl (by decide +kernel) ⟨Nat.le_of_ble_eq_true rfl, Nat.le_of_ble_eq_true rfl⟩) hK hP hD hS hA [0, 1, 2, 3, 4, 5, 6, 7, 8] [] [0, 1, 2, 3, 4, 5, 6, 7, 8] rfl (by decide) (fun _ => rfl) (by decide) (ci := 4) rfl rfl rfl rfl hl.1 rfl (Nat.le_of_ble_eq_true rfl) dX4_lose_7 ⟨Nat.zero_le _, Nat.zero_le _⟩ (fun r u H locs hu1 hP hD hS => ?_)
  have hr7 := hu1
  have hr7 : r = bI (dr_in (nI d) P) := hr7
  subst hr7
  have hP : va_P (dC, dI) vwCl [(aO, .inr (4, [.int (nI 0), .int (nI P), .int (nI n), .ref bW, .ref bL, .ref bF, .ref bK, .int (bI pw), .int lf, .ref bB, .ref bS, .ref bN, .ref bM, .int (nI mz)])), (bW, .inl (cI, 676, .inl wd)), (bL, .inl (cB, 13, .inl (fun z9 => bI (lo z9)))), (bF, .inl (cB, 52, .inl (fun z9 => bI (fr z9)))), (bK, .inl (cB, 4, .inl (fun z9 => bI (mk z9)))), (bB, .inl (cI, 26, .inl (fun z9 => nI (bt z9)))), (bS, .inl (cI, 26, .inl su)), (bN, .inl (cI, 26, .inl kv)), (bM, .inl (cI, 13, .inl (fun z9 => nI (mi z9))))] H := hP
  have hD : va_D A [(aO, .inr (4, [.int (nI 0), .int (nI P), .int (nI n), .ref bW, .ref bL, .ref bF, .ref bK, .int (bI pw), .int lf, .ref bB, .ref bS, .ref bN, .ref bM, .int (nI mz)])), (bW, .inl (cI, 676, .inl wd)), (bL, .inl (cB, 13, .inl (fun z9 => bI (lo z9)))), (bF, .inl (cB, 52, .inl (fun z9 => bI (fr z9)))), (bK, .inl (cB, 4, .inl (fun z9 => bI (mk z9)))), (bB, .inl (cI, 26, .inl (fun z9 => nI (bt z9)))), (bS, .inl (cI, 26, .inl su)), (bN, .inl (cI, 26, .inl kv)), (bM, .inl (cI, 13, .inl (fun z9 => nI (mi z9))))] := hD
  refine x_top (show bI (dr_in (nI d) P) = bI true from (congrArg bI (dr_in_of (by omega) hd))) ?_
  refine x_ifF (tgt := 22) hx hb dX4_lose_10 (by decide) (fun z9 => by cases z9) (fun _ => ?_)
  refine lv_aload_n hx hb dX4_lose_13 rfl (lv_at hl 0 rfl) ?_
  refine va_get (D := (dC, dI)) (ci := 4) (v := .ref bL) (C := RX4) (T := TX4) (N := 14) hx hb hts inX4 hown hK hP 0 rfl rfl 4 (by decide) (hts _ t_fX4_13) (fun _ h9 => h9) rfl dX4_lose_14 ?_
  refine lv_iload_n hx hb dX4_lose_17 rfl (lv_at hl 1 rfl) ?_
  refine x_zald (g := lo) hx hb hK hP 2 1 rfl rfl dX4_lose_18 (by omega) (by omega) ?_
  refine x_top (show bI (lo d) = bI true from (congrArg bI hc)) ?_
  refine x_ifF (tgt := 24) hx hb dX4_lose_19 (by decide) (fun z9 => by cases z9) (fun _ => ?_)
  refine lv_iconst (v := bI false) hx hb dX4_lose_22 (by decide) ?_
  exact x_zret (D := (dC, dI)) (cl := vwCl) (A := A) () hQ hx hb hr hlk hP hD hS dX4_lose_23 (by first | rfl | (simp []; done) | (simp []; omega))

abbrev rm_c_mlose2 : Room := { frames := 1, cells := 0, slots := 0, locals := 22 }
set_option maxHeartbeats 4000000 in
set_option maxRecDepth 100000 in
theorem c_mlose2 (l : Launch) (dC : Nat → ClassId) (dI : Nat → Nat → Nat) (cI cB cQ cJ : ClassId) (aO : Nat) (bW : Nat) (bL : Nat) (bF : Nat) (bK : Nat) (bB : Nat) (bS : Nat) (bN : Nat) (bM : Nat) (th : Nat) (P : Nat) (n : Nat) (pw : Bool) (lf : Int32) (mz : Nat) (wd : Nat → Int32) (lo : Nat → Bool) (fr : Nat → Bool) (mk : Nat → Bool) (bt : Nat → Nat) (su : Nat → Int32) (kv : Nat → Int32) (mi : Nat → Nat) (d : Nat) (hp5 : dr_P P) (hn : n < 5) (hd : d < P) (hc : lo d = false) : MG l yX4_lose (Cond.code yX4_lose cX4_lose 4 (some .boolean) :: TB) rm_c_mlose2 (dC, dI) vwCl (TY cI cB cQ cJ) [.ref aO, .int (nI d)] [(aO, .inr (4, [.int (nI th), .int (nI P), .int (nI n), .ref bW, .ref bL, .ref bF, .ref bK, .int (bI pw), .int lf, .ref bB, .ref bS, .ref bN, .ref bM, .int (nI mz)])), (bW, .inl (cI, 676, .inl wd)), (bL, .inl (cB, 13, .inl (fun z9 => bI (lo z9)))), (bF, .inl (cB, 52, .inl (fun z9 => bI (fr z9)))), (bK, .inl (cB, 4, .inl (fun z9 => bI (mk z9)))), (bB, .inl (cI, 26, .inl (fun z9 => nI (bt z9)))), (bS, .inl (cI, 26, .inl su)), (bN, .inl (cI, 26, .inl kv)), (bM, .inl (cI, 13, .inl (fun z9 => nI (mi z9))))] (fun (r : Int32) (u : Unit) => r = bI true) (fun (u : Unit) => [(aO, .inr (4, [.int (nI 0), .int (nI P), .int (nI n), .ref bW, .ref bL, .ref bF, .ref bK, .int (bI pw), .int lf, .ref bB, .ref bS, .ref bN, .ref bM, .int (nI mz)])), (bW, .inl (cI, 676, .inl (rf_lW P wd d n))), (bL, .inl (cB, 13, .inl (fun z9 => bI ((va_up lo d true) z9)))), (bF, .inl (cB, 52, .inl (fun z9 => bI ((rf_lF fr d false n) z9)))), (bK, .inl (cB, 4, .inl (fun z9 => bI (mk z9)))), (bB, .inl (cI, 26, .inl (fun z9 => nI (bt z9)))), (bS, .inl (cI, 26, .inl su)), (bN, .inl (cI, 26, .inl kv)), (bM, .inl (cI, 13, .inl (fun z9 => nI (mi z9))))]) := by
  refine MG.ofW (cc := cX4_lose) (maxL := 4) (rt := .boolean) (by decide +kernel) rfl (Nat.le_of_ble_eq_true rfl) ?_
  intro p e s m args below meth c A ls Q H locs hQ hx hb hml hr hlk hts hown hK hP hD hS hA hl
  have hts : ∀ w ∈ TB, w.before args s = true := fun w h => hts w (List.mem_cons_of_mem _ h)
  have hown : s.vm.findClass RX4 = some m.cls := hown
  have hl : lv_has ls 4 [(0, .ref aO), (1, .int (nI d))] := hl
  have hP : va_P (dC, dI) vwCl [(aO, .inr (4, [.int (nI th), .int (nI P), .int (nI n), .ref bW, .ref bL, .ref bF, .ref bK, .int (bI pw), .int lf, .ref bB, .ref bS, .ref bN, .ref bM, .int (nI mz)])), (bW, .inl (cI, 676, .inl wd)), (bL, .inl (cB, 13, .inl (fun z9 => bI (lo z9)))), (bF, .inl (cB, 52, .inl (fun z9 => bI (fr z9)))), (bK, .inl (cB, 4, .inl (fun z9 => bI (mk z9)))), (bB, .inl (cI, 26, .inl (fun z9 => nI (bt z9)))), (bS, .inl (cI, 26, .inl su)), (bN, .inl (cI, 26, .inl kv)), (bM, .inl (cI, 13, .inl (fun z9 => nI (mi z9))))] H := hP
  have hD : va_D A [(aO, .inr (4, [.int (nI th), .int (nI P), .int (nI n), .ref bW, .ref bL, .ref bF, .ref bK, .int (bI pw), .int lf, .ref bB, .ref bS, .ref bN, .ref bM, .int (nI mz)])), (bW, .inl (cI, 676, .inl wd)), (bL, .inl (cB, 13, .inl (fun z9 => bI (lo z9)))), (bF, .inl (cB, 52, .inl (fun z9 => bI (fr z9)))), (bK, .inl (cB, 4, .inl (fun z9 => bI (mk z9)))), (bB, .inl (cI, 26, .inl (fun z9 => nI (bt z9)))), (bS, .inl (cI, 26, .inl su)), (bN, .inl (cI, 26, .inl kv)), (bM, .inl (cI, 13, .inl (fun z9 => nI (mi z9))))] := hD
  have hp := hp5.le
  have hpp := dr_PP hp5
  have hpq := dr_PP2 hp5
  refine lv_aload_n hx hb dX4_lose_0 rfl (lv_at hl 0 rfl) ?_
  refine lv_iconst (v := nI 0) hx hb dX4_lose_1 (by decide) ?_
  refine va_put (D := (dC, dI)) (ci := 4) (v := .int (nI 0)) (ty := .int) (C := RX4) (T := TX4) (N := 14) hx hb hts inX4 tyX4 tyX4_ok nmX4 hown hK hP hD hS 0 rfl rfl 0 (by decide) (hts _ t_fX4_49) (fun _ h9 => h9) rfl (by decide +kernel) rfl rfl (Nat.le_of_ble_eq_true rfl) dX4_lose_2 (fun H locs hP hD hS => ?_)
  have hP : va_P (dC, dI) vwCl [(aO, .inr (4, [.int (nI 0), .int (nI P), .int (nI n), .ref bW, .ref bL, .ref bF, .ref bK, .int (bI pw), .int lf, .ref bB, .ref bS, .ref bN, .ref bM, .int (nI mz)])), (bW, .inl (cI, 676, .inl wd)), (bL, .inl (cB, 13, .inl (fun z9 => bI (lo z9)))), (bF, .inl (cB, 52, .inl (fun z9 => bI (fr z9)))), (bK, .inl (cB, 4, .inl (fun z9 => bI (mk z9)))), (bB, .inl (cI, 26, .inl (fun z9 => nI (bt z9)))), (bS, .inl (cI, 26, .inl su)), (bN, .inl (cI, 26, .inl kv)), (bM, .inl (cI, 13, .inl (fun z9 => nI (mi z9))))] H := hP
  have hD : va_D A [(aO, .inr (4, [.int (nI 0), .int (nI P), .int (nI n), .ref bW, .ref bL, .ref bF, .ref bK, .int (bI pw), .int lf, .ref bB, .ref bS, .ref bN, .ref bM, .int (nI mz)])), (bW, .inl (cI, 676, .inl wd)), (bL, .inl (cB, 13, .inl (fun z9 => bI (lo z9)))), (bF, .inl (cB, 52, .inl (fun z9 => bI (fr z9)))), (bK, .inl (cB, 4, .inl (fun z9 => bI (mk z9)))), (bB, .inl (cI, 26, .inl (fun z9 => nI (bt z9)))), (bS, .inl (cI, 26, .inl su)), (bN, .inl (cI, 26, .inl kv)), (bM, .inl (cI, 13, .inl (fun z9 => nI (mi z9))))] := hD
  refine lv_aload_n hx hb dX4_lose_5 rfl (lv_at hl 0 rfl) ?_
  refine lv_iload_n hx hb dX4_lose_6 rfl (lv_at hl 1 rfl) ?_
  refine gV (wr := []) (pre := [(aO, .inr (4, [.int (nI 0), .int (nI P), .int (nI n), .ref bW, .ref bL, .ref bF, .ref bK, .int (bI pw), .int lf, .ref bB, .ref bS, .ref bN, .ref bM, .int (nI mz)])), (bW, .inl (cI, 676, .inl wd)), (bL, .inl (cB, 13, .inl (fun z9 => bI (lo z9)))), (bF, .inl (cB, 52, .inl (fun z9 => bI (fr z9)))), (bK, .inl (cB, 4, .inl (fun z9 => bI (mk z9)))), (bB, .inl (cI, 26, .inl (fun z9 => nI (bt z9)))), (bS, .inl (cI, 26, .inl su)), (bN, .inl (cI, 26, .inl kv)), (bM, .inl (cI, 13, .inl (fun z9 => nI (mi z9))))]) (tl := []) (G := fun (u : Unit) => [(aO, .inr (4, [.int (nI 0), .int (nI P), .int (nI n), .ref bW, .ref bL, .ref bF, .ref bK, .int (bI pw), .int lf, .ref bB, .ref bS, .ref bN, .ref bM, .int (nI mz)])), (bW, .inl (cI, 676, .inl wd)), (bL, .inl (cB, 13, .inl (fun z9 => bI (lo z9)))), (bF, .inl (cB, 52, .inl (fun z9 => bI (fr z9)))), (bK, .inl (cB, 4, .inl (fun z9 => bI (mk z9)))), (bB, .inl (cI, 26, .inl (fun z9 => nI (bt z9)))), (bS, .inl (cI, 26, .inl su)), (bN, .inl (cI, 26, .inl kv)), (bM, .inl (cI, 13, .inl (fun z9 => nI (mi z9))))]) (b := aO) (As := [.int (nI d)]) (rst := []) ⟨hx, hb, hml, hown, hts⟩ (c_mDrive l dC dI cI cB cQ cJ aO bW bL bF bK bB bS bN bM 0 P n pw lf mz wd lo fr mk bt su kv mi (nI d) (by omega) (by omega)) (cwV 1 hts (gdV t_mX4_93 t_inst_X4_isDrive t_sel_X4_isDrive t_ini_X4 t_code_X4_isDrive) rfl rfl rfl (by decide +kernel) ⟨Nat.le_of_ble_eq_true rfl, Nat.le_of_ble_eq_true rfl⟩) hK hP hD hS hA [0, 1, 2, 3, 4, 5, 6, 7, 8] [] [0, 1, 2, 3, 4, 5, 6, 7, 8] rfl (by decide) (fun _ => rfl) (by decide) (ci := 4) rfl rfl rfl rfl hl.1 rfl (Nat.le_of_ble_eq_true rfl) dX4_lose_7 ⟨Nat.zero_le _, Nat.zero_le _⟩ (fun r u H locs hu1 hP hD hS => ?_)
  have hr7 := hu1
  have hr7 : r = bI (dr_in (nI d) P) := hr7
  subst hr7
  have hP : va_P (dC, dI) vwCl [(aO, .inr (4, [.int (nI 0), .int (nI P), .int (nI n), .ref bW, .ref bL, .ref bF, .ref bK, .int (bI pw), .int lf, .ref bB, .ref bS, .ref bN, .ref bM, .int (nI mz)])), (bW, .inl (cI, 676, .inl wd)), (bL, .inl (cB, 13, .inl (fun z9 => bI (lo z9)))), (bF, .inl (cB, 52, .inl (fun z9 => bI (fr z9)))), (bK, .inl (cB, 4, .inl (fun z9 => bI (mk z9)))), (bB, .inl (cI, 26, .inl (fun z9 => nI (bt z9)))), (bS, .inl (cI, 26, .inl su)), (bN, .inl (cI, 26, .inl kv)), (bM, .inl (cI, 13, .inl (fun z9 => nI (mi z9))))] H := hP
  have hD : va_D A [(aO, .inr (4, [.int (nI 0), .int (nI P), .int (nI n), .ref bW, .ref bL, .ref bF, .ref bK, .int (bI pw), .int lf, .ref bB, .ref bS, .ref bN, .ref bM, .int (nI mz)])), (bW, .inl (cI, 676, .inl wd)), (bL, .inl (cB, 13, .inl (fun z9 => bI (lo z9)))), (bF, .inl (cB, 52, .inl (fun z9 => bI (fr z9)))), (bK, .inl (cB, 4, .inl (fun z9 => bI (mk z9)))), (bB, .inl (cI, 26, .inl (fun z9 => nI (bt z9)))), (bS, .inl (cI, 26, .inl su)), (bN, .inl (cI, 26, .inl kv)), (bM, .inl (cI, 13, .inl (fun z9 => nI (mi z9))))] := hD
  refine x_top (show bI (dr_in (nI d) P) = bI true from (congrArg bI (dr_in_of (by omega) hd))) ?_
  refine x_ifF (tgt := 22) hx hb dX4_lose_10 (by decide) (fun z9 => by cases z9) (fun _ => ?_)
  refine lv_aload_n hx hb dX4_lose_13 rfl (lv_at hl 0 rfl) ?_
  refine va_get (D := (dC, dI)) (ci := 4) (v := .ref bL) (C := RX4) (T := TX4) (N := 14) hx hb hts inX4 hown hK hP 0 rfl rfl 4 (by decide) (hts _ t_fX4_13) (fun _ h9 => h9) rfl dX4_lose_14 ?_
  refine lv_iload_n hx hb dX4_lose_17 rfl (lv_at hl 1 rfl) ?_
  refine x_zald (g := lo) hx hb hK hP 2 1 rfl rfl dX4_lose_18 (by omega) (by omega) ?_
  refine x_top (show bI (lo d) = bI false from (congrArg bI hc)) ?_
  refine x_ifF (tgt := 24) hx hb dX4_lose_19 (by decide) (fun _ => ?_) (fun z9 => by cases z9)
  refine lv_aload_n hx hb dX4_lose_24 rfl (lv_at hl 0 rfl) ?_
  refine va_get (D := (dC, dI)) (ci := 4) (v := .ref bL) (C := RX4) (T := TX4) (N := 14) hx hb hts inX4 hown hK hP 0 rfl rfl 4 (by decide) (hts _ t_fX4_13) (fun _ h9 => h9) rfl dX4_lose_25 ?_
  refine lv_iload_n hx hb dX4_lose_28 rfl (lv_at hl 1 rfl) ?_
  refine lv_iconst (v := bI true) hx hb dX4_lose_29 (by decide) ?_
  refine x_zast (g := lo) hx hb hK hP hD hS 2 1 rfl rfl dX4_lose_30 (by omega) (by omega) (fun H locs hP hD hS => ?_)
  have hP : va_P (dC, dI) vwCl [(aO, .inr (4, [.int (nI 0), .int (nI P), .int (nI n), .ref bW, .ref bL, .ref bF, .ref bK, .int (bI pw), .int lf, .ref bB, .ref bS, .ref bN, .ref bM, .int (nI mz)])), (bW, .inl (cI, 676, .inl wd)), (bL, .inl (cB, 13, .inl (fun z9 => bI ((va_up lo d true) z9)))), (bF, .inl (cB, 52, .inl (fun z9 => bI (fr z9)))), (bK, .inl (cB, 4, .inl (fun z9 => bI (mk z9)))), (bB, .inl (cI, 26, .inl (fun z9 => nI (bt z9)))), (bS, .inl (cI, 26, .inl su)), (bN, .inl (cI, 26, .inl kv)), (bM, .inl (cI, 13, .inl (fun z9 => nI (mi z9))))] H := hP
  have hD : va_D A [(aO, .inr (4, [.int (nI 0), .int (nI P), .int (nI n), .ref bW, .ref bL, .ref bF, .ref bK, .int (bI pw), .int lf, .ref bB, .ref bS, .ref bN, .ref bM, .int (nI mz)])), (bW, .inl (cI, 676, .inl wd)), (bL, .inl (cB, 13, .inl (fun z9 => bI ((va_up lo d true) z9)))), (bF, .inl (cB, 52, .inl (fun z9 => bI (fr z9)))), (bK, .inl (cB, 4, .inl (fun z9 => bI (mk z9)))), (bB, .inl (cI, 26, .inl (fun z9 => nI (bt z9)))), (bS, .inl (cI, 26, .inl su)), (bN, .inl (cI, 26, .inl kv)), (bM, .inl (cI, 13, .inl (fun z9 => nI (mi z9))))] := hD
  refine lv_iconst (v := nI 0) hx hb dX4_lose_31 (by decide) ?_
  refine lv_istore_n hx hb dX4_lose_32 rfl hl (by decide) rfl (fun ls hl => ?_)
  have hl : lv_has ls 4 [(2, .int (nI 0)), (0, .ref aO), (1, .int (nI d))] := hl
  have lp33 : ∀ (n9 : Nat) (i : Nat) (ls : Array Slot) (H : Heap) (locs : List Loc), n - i < n9 → (i ≤ n) → lv_has ls 4 [(2, .int (nI i)), (1, .int (nI d)), (0, .ref aO)] → va_P (dC, dI) vwCl [(aO, .inr (4, [.int (nI 0), .int (nI P), .int (nI n), .ref bW, .ref bL, .ref bF, .ref bK, .int (bI pw), .int lf, .ref bB, .ref bS, .ref bN, .ref bM, .int (nI mz)])), (bW, .inl (cI, 676, .inl (rf_lW P wd d i))), (bL, .inl (cB, 13, .inl (fun z9 => bI ((va_up lo d true) z9)))), (bF, .inl (cB, 52, .inl (fun z9 => bI ((rf_lF fr d false i) z9)))), (bK, .inl (cB, 4, .inl (fun z9 => bI (mk z9)))), (bB, .inl (cI, 26, .inl (fun z9 => nI (bt z9)))), (bS, .inl (cI, 26, .inl su)), (bN, .inl (cI, 26, .inl kv)), (bM, .inl (cI, 13, .inl (fun z9 => nI (mi z9))))] H → va_D A [(aO, .inr (4, [.int (nI 0), .int (nI P), .int (nI n), .ref bW, .ref bL, .ref bF, .ref bK, .int (bI pw), .int lf, .ref bB, .ref bS, .ref bN, .ref bM, .int (nI mz)])), (bW, .inl (cI, 676, .inl (rf_lW P wd d i))), (bL, .inl (cB, 13, .inl (fun z9 => bI ((va_up lo d true) z9)))), (bF, .inl (cB, 52, .inl (fun z9 => bI ((rf_lF fr d false i) z9)))), (bK, .inl (cB, 4, .inl (fun z9 => bI (mk z9)))), (bB, .inl (cI, 26, .inl (fun z9 => nI (bt z9)))), (bS, .inl (cI, 26, .inl su)), (bN, .inl (cI, 26, .inl kv)), (bM, .inl (cI, 13, .inl (fun z9 => nI (mi z9))))] → va_S A s.heap H locs → W p l e rm_c_mlose2 s m args below meth c H locs 0 0 Q (F0 m 33 ls []) := by
    intro n9
    induction n9 with
    | zero => intro i ls H locs hn9; omega
    | succ n9 ih33 =>
      intro i ls H locs hn9 hi hl hP hD hS
      refine lv_iload_n hx hb dX4_lose_33 rfl (lv_at hl 0 rfl) ?_
      refine lv_aload_n hx hb dX4_lose_34 rfl (lv_at hl 2 rfl) ?_
      refine va_get (D := (dC, dI)) (ci := 4) (v := .int (nI n)) (C := RX4) (T := TX4) (N := 14) hx hb hts inX4 hown hK hP 0 rfl rfl 2 (by decide) (hts _ t_fX4_46) (fun _ h9 => h9) rfl dX4_lose_35 ?_
      refine x_cge (tgt := 86) hx hb dX4_lose_38 (by decide) (by omega) (by omega) (fun h38 => ?_) (fun h38 => ?_)
      · -- 38t
        have hie38 : i = n := by omega
        try rw [hie38] at hl
        try rw [hie38] at hP
        try rw [hie38] at hD
        have hl : lv_has ls 4 [(2, .int (nI n)), (1, .int (nI d)), (0, .ref aO)] := hl
        have hP : va_P (dC, dI) vwCl [(aO, .inr (4, [.int (nI 0), .int (nI P), .int (nI n), .ref bW, .ref bL, .ref bF, .ref bK, .int (bI pw), .int lf, .ref bB, .ref bS, .ref bN, .ref bM, .int (nI mz)])), (bW, .inl (cI, 676, .inl (rf_lW P wd d n))), (bL, .inl (cB, 13, .inl (fun z9 => bI ((va_up lo d true) z9)))), (bF, .inl (cB, 52, .inl (fun z9 => bI ((rf_lF fr d false n) z9)))), (bK, .inl (cB, 4, .inl (fun z9 => bI (mk z9)))), (bB, .inl (cI, 26, .inl (fun z9 => nI (bt z9)))), (bS, .inl (cI, 26, .inl su)), (bN, .inl (cI, 26, .inl kv)), (bM, .inl (cI, 13, .inl (fun z9 => nI (mi z9))))] H := hP
        have hD : va_D A [(aO, .inr (4, [.int (nI 0), .int (nI P), .int (nI n), .ref bW, .ref bL, .ref bF, .ref bK, .int (bI pw), .int lf, .ref bB, .ref bS, .ref bN, .ref bM, .int (nI mz)])), (bW, .inl (cI, 676, .inl (rf_lW P wd d n))), (bL, .inl (cB, 13, .inl (fun z9 => bI ((va_up lo d true) z9)))), (bF, .inl (cB, 52, .inl (fun z9 => bI ((rf_lF fr d false n) z9)))), (bK, .inl (cB, 4, .inl (fun z9 => bI (mk z9)))), (bB, .inl (cI, 26, .inl (fun z9 => nI (bt z9)))), (bS, .inl (cI, 26, .inl su)), (bN, .inl (cI, 26, .inl kv)), (bM, .inl (cI, 13, .inl (fun z9 => nI (mi z9))))] := hD
        refine lv_iconst (v := bI true) hx hb dX4_lose_86 (by decide) ?_
        exact x_zret (D := (dC, dI)) (cl := vwCl) (A := A) () hQ hx hb hr hlk hP hD hS dX4_lose_87 (by first | rfl | (simp [h38]; done) | (simp [h38]; omega))
      · -- 38f
        refine lv_aload_n hx hb dX4_lose_41 rfl (lv_at hl 2 rfl) ?_
        refine va_get (D := (dC, dI)) (ci := 4) (v := .ref bF) (C := RX4) (T := TX4) (N := 14) hx hb hts inX4 hown hK hP 0 rfl rfl 5 (by decide) (hts _ t_fX4_17) (fun _ h9 => h9) rfl dX4_lose_42 ?_
        refine lv_iconst (v := nI 4) hx hb dX4_lose_45 (by decide) ?_
        refine lv_iload_n hx hb dX4_lose_46 rfl (lv_at hl 1 rfl) ?_
        refine x_mul hx hb dX4_lose_47 ?_
        refine lv_iload_n hx hb dX4_lose_48 rfl (lv_at hl 0 rfl) ?_
        refine x_add hx hb dX4_lose_49 ?_
        refine lv_iconst (v := bI false) hx hb dX4_lose_50 (by decide) ?_
        refine x_zast (g := rf_lF fr d false i) hx hb hK hP hD hS 3 1 rfl rfl dX4_lose_51 (by omega) (by omega) (fun H locs hP hD hS => ?_)
        have hP : va_P (dC, dI) vwCl [(aO, .inr (4, [.int (nI 0), .int (nI P), .int (nI n), .ref bW, .ref bL, .ref bF, .ref bK, .int (bI pw), .int lf, .ref bB, .ref bS, .ref bN, .ref bM, .int (nI mz)])), (bW, .inl (cI, 676, .inl (rf_lW P wd d i))), (bL, .inl (cB, 13, .inl (fun z9 => bI ((va_up lo d true) z9)))), (bF, .inl (cB, 52, .inl (fun z9 => bI ((rf_lF fr d false (i + 1)) z9)))), (bK, .inl (cB, 4, .inl (fun z9 => bI (mk z9)))), (bB, .inl (cI, 26, .inl (fun z9 => nI (bt z9)))), (bS, .inl (cI, 26, .inl su)), (bN, .inl (cI, 26, .inl kv)), (bM, .inl (cI, 13, .inl (fun z9 => nI (mi z9))))] H := hP
        have hD : va_D A [(aO, .inr (4, [.int (nI 0), .int (nI P), .int (nI n), .ref bW, .ref bL, .ref bF, .ref bK, .int (bI pw), .int lf, .ref bB, .ref bS, .ref bN, .ref bM, .int (nI mz)])), (bW, .inl (cI, 676, .inl (rf_lW P wd d i))), (bL, .inl (cB, 13, .inl (fun z9 => bI ((va_up lo d true) z9)))), (bF, .inl (cB, 52, .inl (fun z9 => bI ((rf_lF fr d false (i + 1)) z9)))), (bK, .inl (cB, 4, .inl (fun z9 => bI (mk z9)))), (bB, .inl (cI, 26, .inl (fun z9 => nI (bt z9)))), (bS, .inl (cI, 26, .inl su)), (bN, .inl (cI, 26, .inl kv)), (bM, .inl (cI, 13, .inl (fun z9 => nI (mi z9))))] := hD
        refine lv_iconst (v := nI 0) hx hb dX4_lose_52 (by decide) ?_
        refine lv_istore_n hx hb dX4_lose_53 rfl hl (by decide) rfl (fun ls hl => ?_)
        have hl : lv_has ls 4 [(3, .int (nI 0)), (2, .int (nI i)), (1, .int (nI d)), (0, .ref aO)] := hl
        have lp54 : ∀ (n9 : Nat) (j : Nat) (ls : Array Slot) (H : Heap) (locs : List Loc), P - j < n9 → (j ≤ P) → lv_has ls 4 [(3, .int (nI j)), (2, .int (nI i)), (1, .int (nI d)), (0, .ref aO)] → va_P (dC, dI) vwCl [(aO, .inr (4, [.int (nI 0), .int (nI P), .int (nI n), .ref bW, .ref bL, .ref bF, .ref bK, .int (bI pw), .int lf, .ref bB, .ref bS, .ref bN, .ref bM, .int (nI mz)])), (bW, .inl (cI, 676, .inl (rf_lz (rf_lW P wd d i) i d j))), (bL, .inl (cB, 13, .inl (fun z9 => bI ((va_up lo d true) z9)))), (bF, .inl (cB, 52, .inl (fun z9 => bI ((rf_lF fr d false (i + 1)) z9)))), (bK, .inl (cB, 4, .inl (fun z9 => bI (mk z9)))), (bB, .inl (cI, 26, .inl (fun z9 => nI (bt z9)))), (bS, .inl (cI, 26, .inl su)), (bN, .inl (cI, 26, .inl kv)), (bM, .inl (cI, 13, .inl (fun z9 => nI (mi z9))))] H → va_D A [(aO, .inr (4, [.int (nI 0), .int (nI P), .int (nI n), .ref bW, .ref bL, .ref bF, .ref bK, .int (bI pw), .int lf, .ref bB, .ref bS, .ref bN, .ref bM, .int (nI mz)])), (bW, .inl (cI, 676, .inl (rf_lz (rf_lW P wd d i) i d j))), (bL, .inl (cB, 13, .inl (fun z9 => bI ((va_up lo d true) z9)))), (bF, .inl (cB, 52, .inl (fun z9 => bI ((rf_lF fr d false (i + 1)) z9)))), (bK, .inl (cB, 4, .inl (fun z9 => bI (mk z9)))), (bB, .inl (cI, 26, .inl (fun z9 => nI (bt z9)))), (bS, .inl (cI, 26, .inl su)), (bN, .inl (cI, 26, .inl kv)), (bM, .inl (cI, 13, .inl (fun z9 => nI (mi z9))))] → va_S A s.heap H locs → W p l e rm_c_mlose2 s m args below meth c H locs 0 0 Q (F0 m 54 ls []) := by
          intro n9
          induction n9 with
          | zero => intro j ls H locs hn9; omega
          | succ n9 ih54 =>
            intro j ls H locs hn9 hj hl hP hD hS
            refine lv_iload_n hx hb dX4_lose_54 rfl (lv_at hl 0 rfl) ?_
            refine lv_aload_n hx hb dX4_lose_55 rfl (lv_at hl 3 rfl) ?_
            refine va_get (D := (dC, dI)) (ci := 4) (v := .int (nI P)) (C := RX4) (T := TX4) (N := 14) hx hb hts inX4 hown hK hP 0 rfl rfl 1 (by decide) (hts _ t_fX4_43) (fun _ h9 => h9) rfl dX4_lose_56 ?_
            refine x_cge (tgt := 80) hx hb dX4_lose_59 (by decide) (by omega) (by omega) (fun h59 => ?_) (fun h59 => ?_)
            · -- 59t
              have hie59 : j = P := by omega
              try rw [hie59] at hl
              try rw [hie59] at hP
              try rw [hie59] at hD
              have hl : lv_has ls 4 [(3, .int (nI P)), (2, .int (nI i)), (1, .int (nI d)), (0, .ref aO)] := hl
              have hP : va_P (dC, dI) vwCl [(aO, .inr (4, [.int (nI 0), .int (nI P), .int (nI n), .ref bW, .ref bL, .ref bF, .ref bK, .int (bI pw), .int lf, .ref bB, .ref bS, .ref bN, .ref bM, .int (nI mz)])), (bW, .inl (cI, 676, .inl (rf_lz (rf_lW P wd d i) i d P))), (bL, .inl (cB, 13, .inl (fun z9 => bI ((va_up lo d true) z9)))), (bF, .inl (cB, 52, .inl (fun z9 => bI ((rf_lF fr d false (i + 1)) z9)))), (bK, .inl (cB, 4, .inl (fun z9 => bI (mk z9)))), (bB, .inl (cI, 26, .inl (fun z9 => nI (bt z9)))), (bS, .inl (cI, 26, .inl su)), (bN, .inl (cI, 26, .inl kv)), (bM, .inl (cI, 13, .inl (fun z9 => nI (mi z9))))] H := hP
              have hD : va_D A [(aO, .inr (4, [.int (nI 0), .int (nI P), .int (nI n), .ref bW, .ref bL, .ref bF, .ref bK, .int (bI pw), .int lf, .ref bB, .ref bS, .ref bN, .ref bM, .int (nI mz)])), (bW, .inl (cI, 676, .inl (rf_lz (rf_lW P wd d i) i d P))), (bL, .inl (cB, 13, .inl (fun z9 => bI ((va_up lo d true) z9)))), (bF, .inl (cB, 52, .inl (fun z9 => bI ((rf_lF fr d false (i + 1)) z9)))), (bK, .inl (cB, 4, .inl (fun z9 => bI (mk z9)))), (bB, .inl (cI, 26, .inl (fun z9 => nI (bt z9)))), (bS, .inl (cI, 26, .inl su)), (bN, .inl (cI, 26, .inl kv)), (bM, .inl (cI, 13, .inl (fun z9 => nI (mi z9))))] := hD
              refine lv_iinc (v := nI (i + 1)) hx hb dX4_lose_80 hl (k := 1) rfl (x_inc _) (by decide) rfl (fun ls hl => ?_)
              have hl : lv_has ls 4 [(2, .int (nI (i + 1))), (3, .int (nI P)), (1, .int (nI d)), (0, .ref aO)] := hl
              refine lv_goto (tgt := 33) hx hb dX4_lose_83 (by decide) ?_
              have e2 : (rf_lW P wd d (i + 1)) = (rf_lz (rf_lW P wd d i) i d P) := by first | rfl | (simp [h59]; done) | (simp [h59]; omega)
              exact ih33 (i + 1) ls H locs (by omega) (by omega) (lv_sub hl [0, 2, 3] rfl) (by rw [e2]; exact hP) (by rw [e2]; exact hD) hS
            · -- 59f
              refine lv_aload_n hx hb dX4_lose_62 rfl (lv_at hl 3 rfl) ?_
              refine va_get (D := (dC, dI)) (ci := 4) (v := .ref bW) (C := RX4) (T := TX4) (N := 14) hx hb hts inX4 hown hK hP 0 rfl rfl 3 (by decide) (hts _ t_fX4_7) (fun _ h9 => h9) rfl dX4_lose_63 ?_
              refine lv_iload_n hx hb dX4_lose_66 rfl (lv_at hl 1 rfl) ?_
              refine lv_iload_n hx hb dX4_lose_67 rfl (lv_at hl 2 rfl) ?_
              refine lv_iload_n hx hb dX4_lose_68 rfl (lv_at hl 0 rfl) ?_
              refine gS (wr := [(aO, .inr (4, [.int (nI 0), .int (nI P), .int (nI n), .ref bW, .ref bL, .ref bF, .ref bK, .int (bI pw), .int lf, .ref bB, .ref bS, .ref bN, .ref bM, .int (nI mz)])), (bW, .inl (cI, 676, .inl (rf_lz (rf_lW P wd d i) i d j))), (bL, .inl (cB, 13, .inl (fun z9 => bI ((va_up lo d true) z9)))), (bF, .inl (cB, 52, .inl (fun z9 => bI ((rf_lF fr d false (i + 1)) z9)))), (bK, .inl (cB, 4, .inl (fun z9 => bI (mk z9)))), (bB, .inl (cI, 26, .inl (fun z9 => nI (bt z9)))), (bS, .inl (cI, 26, .inl su)), (bN, .inl (cI, 26, .inl kv)), (bM, .inl (cI, 13, .inl (fun z9 => nI (mi z9))))]) (pre := [(aO, .inr (4, [.int (nI 0), .int (nI P), .int (nI n), .ref bW, .ref bL, .ref bF, .ref bK, .int (bI pw), .int lf, .ref bB, .ref bS, .ref bN, .ref bM, .int (nI mz)])), (bW, .inl (cI, 676, .inl (rf_lz (rf_lW P wd d i) i d j))), (bL, .inl (cB, 13, .inl (fun z9 => bI ((va_up lo d true) z9)))), (bF, .inl (cB, 52, .inl (fun z9 => bI ((rf_lF fr d false (i + 1)) z9)))), (bK, .inl (cB, 4, .inl (fun z9 => bI (mk z9)))), (bB, .inl (cI, 26, .inl (fun z9 => nI (bt z9)))), (bS, .inl (cI, 26, .inl su)), (bN, .inl (cI, 26, .inl kv)), (bM, .inl (cI, 13, .inl (fun z9 => nI (mi z9))))]) (tl := []) (G := fun (u : Unit) => [(aO, .inr (4, [.int (nI 0), .int (nI P), .int (nI n), .ref bW, .ref bL, .ref bF, .ref bK, .int (bI pw), .int lf, .ref bB, .ref bS, .ref bN, .ref bM, .int (nI mz)])), (bW, .inl (cI, 676, .inl (rf_lz (rf_lW P wd d i) i d j))), (bL, .inl (cB, 13, .inl (fun z9 => bI ((va_up lo d true) z9)))), (bF, .inl (cB, 52, .inl (fun z9 => bI ((rf_lF fr d false (i + 1)) z9)))), (bK, .inl (cB, 4, .inl (fun z9 => bI (mk z9)))), (bB, .inl (cI, 26, .inl (fun z9 => nI (bt z9)))), (bS, .inl (cI, 26, .inl su)), (bN, .inl (cI, 26, .inl kv)), (bM, .inl (cI, 13, .inl (fun z9 => nI (mi z9))))]) (As := [.int (nI i), .int (nI d), .int (nI j)]) (rst := [.ref bW]) ⟨hx, hb, hml, hown, hts⟩ (c_at l dC dI cI cB cQ cJ i d j ) (va_cwS 3 hts (gdS t_mX4_59 t_stat_X4_at t_ini_X4 t_code_X4_at) rfl rfl rfl (by decide +kernel) ⟨Nat.le_of_ble_eq_true rfl, Nat.le_of_ble_eq_true rfl⟩) hK hP hD hS hA [] [0, 1, 2, 3, 4, 5, 6, 7, 8] [0, 1, 2, 3, 4, 5, 6, 7, 8] rfl (by decide) (fun _ => rfl) (by decide) rfl hl.1 rfl (Nat.le_of_ble_eq_true rfl) dX4_lose_69 ⟨Nat.zero_le _, Nat.zero_le _⟩ (fun r u H locs hu3 hP hD hS => ?_)
              have hr69 := hu3
              have hr69 : r = nI (169 * i + 13 * d + j) := hr69
              subst hr69
              have hP : va_P (dC, dI) vwCl [(aO, .inr (4, [.int (nI 0), .int (nI P), .int (nI n), .ref bW, .ref bL, .ref bF, .ref bK, .int (bI pw), .int lf, .ref bB, .ref bS, .ref bN, .ref bM, .int (nI mz)])), (bW, .inl (cI, 676, .inl (rf_lz (rf_lW P wd d i) i d j))), (bL, .inl (cB, 13, .inl (fun z9 => bI ((va_up lo d true) z9)))), (bF, .inl (cB, 52, .inl (fun z9 => bI ((rf_lF fr d false (i + 1)) z9)))), (bK, .inl (cB, 4, .inl (fun z9 => bI (mk z9)))), (bB, .inl (cI, 26, .inl (fun z9 => nI (bt z9)))), (bS, .inl (cI, 26, .inl su)), (bN, .inl (cI, 26, .inl kv)), (bM, .inl (cI, 13, .inl (fun z9 => nI (mi z9))))] H := hP
              have hD : va_D A [(aO, .inr (4, [.int (nI 0), .int (nI P), .int (nI n), .ref bW, .ref bL, .ref bF, .ref bK, .int (bI pw), .int lf, .ref bB, .ref bS, .ref bN, .ref bM, .int (nI mz)])), (bW, .inl (cI, 676, .inl (rf_lz (rf_lW P wd d i) i d j))), (bL, .inl (cB, 13, .inl (fun z9 => bI ((va_up lo d true) z9)))), (bF, .inl (cB, 52, .inl (fun z9 => bI ((rf_lF fr d false (i + 1)) z9)))), (bK, .inl (cB, 4, .inl (fun z9 => bI (mk z9)))), (bB, .inl (cI, 26, .inl (fun z9 => nI (bt z9)))), (bS, .inl (cI, 26, .inl su)), (bN, .inl (cI, 26, .inl kv)), (bM, .inl (cI, 13, .inl (fun z9 => nI (mi z9))))] := hD
              refine lv_iconst (v := 0) hx hb dX4_lose_72 (by decide) ?_
              refine x_iast (f := rf_lz (rf_lW P wd d i) i d j) hx hb hK hP hD hS 1 0 rfl rfl dX4_lose_73 (by omega) (by omega) (fun H locs hP hD hS => ?_)
              have hP : va_P (dC, dI) vwCl [(aO, .inr (4, [.int (nI 0), .int (nI P), .int (nI n), .ref bW, .ref bL, .ref bF, .ref bK, .int (bI pw), .int lf, .ref bB, .ref bS, .ref bN, .ref bM, .int (nI mz)])), (bW, .inl (cI, 676, .inl (va_up (rf_lz (rf_lW P wd d i) i d j) (169 * i + 13 * d + j) 0))), (bL, .inl (cB, 13, .inl (fun z9 => bI ((va_up lo d true) z9)))), (bF, .inl (cB, 52, .inl (fun z9 => bI ((rf_lF fr d false (i + 1)) z9)))), (bK, .inl (cB, 4, .inl (fun z9 => bI (mk z9)))), (bB, .inl (cI, 26, .inl (fun z9 => nI (bt z9)))), (bS, .inl (cI, 26, .inl su)), (bN, .inl (cI, 26, .inl kv)), (bM, .inl (cI, 13, .inl (fun z9 => nI (mi z9))))] H := hP
              have hD : va_D A [(aO, .inr (4, [.int (nI 0), .int (nI P), .int (nI n), .ref bW, .ref bL, .ref bF, .ref bK, .int (bI pw), .int lf, .ref bB, .ref bS, .ref bN, .ref bM, .int (nI mz)])), (bW, .inl (cI, 676, .inl (va_up (rf_lz (rf_lW P wd d i) i d j) (169 * i + 13 * d + j) 0))), (bL, .inl (cB, 13, .inl (fun z9 => bI ((va_up lo d true) z9)))), (bF, .inl (cB, 52, .inl (fun z9 => bI ((rf_lF fr d false (i + 1)) z9)))), (bK, .inl (cB, 4, .inl (fun z9 => bI (mk z9)))), (bB, .inl (cI, 26, .inl (fun z9 => nI (bt z9)))), (bS, .inl (cI, 26, .inl su)), (bN, .inl (cI, 26, .inl kv)), (bM, .inl (cI, 13, .inl (fun z9 => nI (mi z9))))] := hD
              refine lv_iinc (v := nI (j + 1)) hx hb dX4_lose_74 hl (k := 0) rfl (x_inc _) (by decide) rfl (fun ls hl => ?_)
              have hl : lv_has ls 4 [(3, .int (nI (j + 1))), (2, .int (nI i)), (1, .int (nI d)), (0, .ref aO)] := hl
              refine lv_goto (tgt := 54) hx hb dX4_lose_77 (by decide) ?_
              have e4 : (rf_lz (rf_lW P wd d i) i d (j + 1)) = (va_up (rf_lz (rf_lW P wd d i) i d j) (169 * i + 13 * d + j) 0) := by first | rfl | (simp [h59]; done) | (simp [h59]; omega)
              exact ih54 (j + 1) ls H locs (by omega) (by omega) (lv_sub hl [0, 1, 2, 3] rfl) (by rw [e4]; exact hP) (by rw [e4]; exact hD) hS
        have e5 : (rf_lz (rf_lW P wd d i) i d 0) = (rf_lW P wd d i) := by first | rfl | (simp [h38]; done) | (simp [h38]; omega)
        exact lp54 (P - 0 + 1) 0 ls H locs (by omega) (by omega) (lv_sub hl [0, 1, 2, 3] rfl) (by rw [e5]; exact hP) (by rw [e5]; exact hD) hS
  have e6 : (rf_lW P wd d 0) = wd := by first | rfl | (simp []; done) | (simp []; omega)
  have e7 : (rf_lF fr d false 0) = fr := by first | rfl | (simp []; done) | (simp []; omega)
  exact lp33 (n - 0 + 1) 0 ls H locs (by omega) (by omega) (lv_sub hl [0, 2, 1] rfl) (by rw [e6, e7]; exact hP) (by rw [e6, e7]; exact hD) hS

abbrev rm_c_mrep0 : Room := { frames := 1, cells := 0, slots := 0, locals := 21 }
set_option maxHeartbeats 4000000 in
set_option maxRecDepth 100000 in
theorem c_mrep0 (l : Launch) (dC : Nat → ClassId) (dI : Nat → Nat → Nat) (cI cB cQ cJ : ClassId) (aO : Nat) (bW : Nat) (bL : Nat) (bF : Nat) (bK : Nat) (bB : Nat) (bS : Nat) (bN : Nat) (bM : Nat) (th : Nat) (P : Nat) (n : Nat) (pw : Bool) (lf : Int32) (mz : Nat) (wd : Nat → Int32) (lo : Nat → Bool) (fr : Nat → Bool) (mk : Nat → Bool) (bt : Nat → Nat) (su : Nat → Int32) (kv : Nat → Int32) (mi : Nat → Nat) (x : Int32) (hp5 : dr_P P) (hn : n < 5) (hc : pw = false ∨ dr_in x P = false) : MG l yX4_replace (Cond.code yX4_replace cX4_replace 3 (some .boolean) :: TB) rm_c_mrep0 (dC, dI) vwCl (TY cI cB cQ cJ) [.ref aO, .int x] [(aO, .inr (4, [.int (nI th), .int (nI P), .int (nI n), .ref bW, .ref bL, .ref bF, .ref bK, .int (bI pw), .int lf, .ref bB, .ref bS, .ref bN, .ref bM, .int (nI mz)])), (bW, .inl (cI, 676, .inl wd)), (bL, .inl (cB, 13, .inl (fun z9 => bI (lo z9)))), (bF, .inl (cB, 52, .inl (fun z9 => bI (fr z9)))), (bK, .inl (cB, 4, .inl (fun z9 => bI (mk z9)))), (bB, .inl (cI, 26, .inl (fun z9 => nI (bt z9)))), (bS, .inl (cI, 26, .inl su)), (bN, .inl (cI, 26, .inl kv)), (bM, .inl (cI, 13, .inl (fun z9 => nI (mi z9))))] (fun (r : Int32) (u : Unit) => r = bI false) (fun (u : Unit) => [(aO, .inr (4, [.int (nI 0), .int (nI P), .int (nI n), .ref bW, .ref bL, .ref bF, .ref bK, .int (bI pw), .int lf, .ref bB, .ref bS, .ref bN, .ref bM, .int (nI mz)])), (bW, .inl (cI, 676, .inl wd)), (bL, .inl (cB, 13, .inl (fun z9 => bI (lo z9)))), (bF, .inl (cB, 52, .inl (fun z9 => bI (fr z9)))), (bK, .inl (cB, 4, .inl (fun z9 => bI (mk z9)))), (bB, .inl (cI, 26, .inl (fun z9 => nI (bt z9)))), (bS, .inl (cI, 26, .inl su)), (bN, .inl (cI, 26, .inl kv)), (bM, .inl (cI, 13, .inl (fun z9 => nI (mi z9))))]) := by
  refine MG.ofW (cc := cX4_replace) (maxL := 3) (rt := .boolean) (by decide +kernel) rfl (Nat.le_of_ble_eq_true rfl) ?_
  intro p e s m args below meth c A ls Q H locs hQ hx hb hml hr hlk hts hown hK hP hD hS hA hl
  have hts : ∀ w ∈ TB, w.before args s = true := fun w h => hts w (List.mem_cons_of_mem _ h)
  have hown : s.vm.findClass RX4 = some m.cls := hown
  have hl : lv_has ls 3 [(0, .ref aO), (1, .int x)] := hl
  have hP : va_P (dC, dI) vwCl [(aO, .inr (4, [.int (nI th), .int (nI P), .int (nI n), .ref bW, .ref bL, .ref bF, .ref bK, .int (bI pw), .int lf, .ref bB, .ref bS, .ref bN, .ref bM, .int (nI mz)])), (bW, .inl (cI, 676, .inl wd)), (bL, .inl (cB, 13, .inl (fun z9 => bI (lo z9)))), (bF, .inl (cB, 52, .inl (fun z9 => bI (fr z9)))), (bK, .inl (cB, 4, .inl (fun z9 => bI (mk z9)))), (bB, .inl (cI, 26, .inl (fun z9 => nI (bt z9)))), (bS, .inl (cI, 26, .inl su)), (bN, .inl (cI, 26, .inl kv)), (bM, .inl (cI, 13, .inl (fun z9 => nI (mi z9))))] H := hP
  have hD : va_D A [(aO, .inr (4, [.int (nI th), .int (nI P), .int (nI n), .ref bW, .ref bL, .ref bF, .ref bK, .int (bI pw), .int lf, .ref bB, .ref bS, .ref bN, .ref bM, .int (nI mz)])), (bW, .inl (cI, 676, .inl wd)), (bL, .inl (cB, 13, .inl (fun z9 => bI (lo z9)))), (bF, .inl (cB, 52, .inl (fun z9 => bI (fr z9)))), (bK, .inl (cB, 4, .inl (fun z9 => bI (mk z9)))), (bB, .inl (cI, 26, .inl (fun z9 => nI (bt z9)))), (bS, .inl (cI, 26, .inl su)), (bN, .inl (cI, 26, .inl kv)), (bM, .inl (cI, 13, .inl (fun z9 => nI (mi z9))))] := hD
  have hp := hp5.le
  have hpp := dr_PP hp5
  have hpq := dr_PP2 hp5
  refine lv_aload_n hx hb dX4_replace_0 rfl (lv_at hl 0 rfl) ?_
  refine lv_iconst (v := nI 0) hx hb dX4_replace_1 (by decide) ?_
  refine va_put (D := (dC, dI)) (ci := 4) (v := .int (nI 0)) (ty := .int) (C := RX4) (T := TX4) (N := 14) hx hb hts inX4 tyX4 tyX4_ok nmX4 hown hK hP hD hS 0 rfl rfl 0 (by decide) (hts _ t_fX4_49) (fun _ h9 => h9) rfl (by decide +kernel) rfl rfl (Nat.le_of_ble_eq_true rfl) dX4_replace_2 (fun H locs hP hD hS => ?_)
  have hP : va_P (dC, dI) vwCl [(aO, .inr (4, [.int (nI 0), .int (nI P), .int (nI n), .ref bW, .ref bL, .ref bF, .ref bK, .int (bI pw), .int lf, .ref bB, .ref bS, .ref bN, .ref bM, .int (nI mz)])), (bW, .inl (cI, 676, .inl wd)), (bL, .inl (cB, 13, .inl (fun z9 => bI (lo z9)))), (bF, .inl (cB, 52, .inl (fun z9 => bI (fr z9)))), (bK, .inl (cB, 4, .inl (fun z9 => bI (mk z9)))), (bB, .inl (cI, 26, .inl (fun z9 => nI (bt z9)))), (bS, .inl (cI, 26, .inl su)), (bN, .inl (cI, 26, .inl kv)), (bM, .inl (cI, 13, .inl (fun z9 => nI (mi z9))))] H := hP
  have hD : va_D A [(aO, .inr (4, [.int (nI 0), .int (nI P), .int (nI n), .ref bW, .ref bL, .ref bF, .ref bK, .int (bI pw), .int lf, .ref bB, .ref bS, .ref bN, .ref bM, .int (nI mz)])), (bW, .inl (cI, 676, .inl wd)), (bL, .inl (cB, 13, .inl (fun z9 => bI (lo z9)))), (bF, .inl (cB, 52, .inl (fun z9 => bI (fr z9)))), (bK, .inl (cB, 4, .inl (fun z9 => bI (mk z9)))), (bB, .inl (cI, 26, .inl (fun z9 => nI (bt z9)))), (bS, .inl (cI, 26, .inl su)), (bN, .inl (cI, 26, .inl kv)), (bM, .inl (cI, 13, .inl (fun z9 => nI (mi z9))))] := hD
  refine lv_aload_n hx hb dX4_replace_5 rfl (lv_at hl 0 rfl) ?_
  refine va_get (D := (dC, dI)) (ci := 4) (v := .int (bI pw)) (C := RX4) (T := TX4) (N := 14) hx hb hts inX4 hown hK hP 0 rfl rfl 7 (by decide) (hts _ t_fX4_23) (fun _ h9 => h9) rfl dX4_replace_6 ?_
  refine x_ifF (tgt := 29) hx hb dX4_replace_9 (by decide) (fun h9 => ?_) (fun h9 => ?_)
  · -- 9t
    refine lv_iconst (v := bI false) hx hb dX4_replace_29 (by decide) ?_
    exact x_zret (D := (dC, dI)) (cl := vwCl) (A := A) () hQ hx hb hr hlk hP hD hS dX4_replace_30 (by first | rfl | (simp [h9]; done) | (simp [h9]; omega))
  · -- 9f
    refine lv_aload_n hx hb dX4_replace_12 rfl (lv_at hl 0 rfl) ?_
    refine lv_iload_n hx hb dX4_replace_13 rfl (lv_at hl 1 rfl) ?_
    refine gV (wr := []) (pre := [(aO, .inr (4, [.int (nI 0), .int (nI P), .int (nI n), .ref bW, .ref bL, .ref bF, .ref bK, .int (bI pw), .int lf, .ref bB, .ref bS, .ref bN, .ref bM, .int (nI mz)])), (bW, .inl (cI, 676, .inl wd)), (bL, .inl (cB, 13, .inl (fun z9 => bI (lo z9)))), (bF, .inl (cB, 52, .inl (fun z9 => bI (fr z9)))), (bK, .inl (cB, 4, .inl (fun z9 => bI (mk z9)))), (bB, .inl (cI, 26, .inl (fun z9 => nI (bt z9)))), (bS, .inl (cI, 26, .inl su)), (bN, .inl (cI, 26, .inl kv)), (bM, .inl (cI, 13, .inl (fun z9 => nI (mi z9))))]) (tl := []) (G := fun (u : Unit) => [(aO, .inr (4, [.int (nI 0), .int (nI P), .int (nI n), .ref bW, .ref bL, .ref bF, .ref bK, .int (bI pw), .int lf, .ref bB, .ref bS, .ref bN, .ref bM, .int (nI mz)])), (bW, .inl (cI, 676, .inl wd)), (bL, .inl (cB, 13, .inl (fun z9 => bI (lo z9)))), (bF, .inl (cB, 52, .inl (fun z9 => bI (fr z9)))), (bK, .inl (cB, 4, .inl (fun z9 => bI (mk z9)))), (bB, .inl (cI, 26, .inl (fun z9 => nI (bt z9)))), (bS, .inl (cI, 26, .inl su)), (bN, .inl (cI, 26, .inl kv)), (bM, .inl (cI, 13, .inl (fun z9 => nI (mi z9))))]) (b := aO) (As := [.int x]) (rst := []) ⟨hx, hb, hml, hown, hts⟩ (c_mDrive l dC dI cI cB cQ cJ aO bW bL bF bK bB bS bN bM 0 P n pw lf mz wd lo fr mk bt su kv mi x (by omega) (by omega)) (cwV 1 hts (gdV t_mX4_93 t_inst_X4_isDrive t_sel_X4_isDrive t_ini_X4 t_code_X4_isDrive) rfl rfl rfl (by decide +kernel) ⟨Nat.le_of_ble_eq_true rfl, Nat.le_of_ble_eq_true rfl⟩) hK hP hD hS hA [0, 1, 2, 3, 4, 5, 6, 7, 8] [] [0, 1, 2, 3, 4, 5, 6, 7, 8] rfl (by decide) (fun _ => rfl) (by decide) (ci := 4) rfl rfl rfl rfl hl.1 rfl (Nat.le_of_ble_eq_true rfl) dX4_replace_14 ⟨Nat.zero_le _, Nat.zero_le _⟩ (fun r u H locs hu1 hP hD hS => ?_)
    have hr14 := hu1
    have hr14 : r = bI (dr_in x P) := hr14
    subst hr14
    have hP : va_P (dC, dI) vwCl [(aO, .inr (4, [.int (nI 0), .int (nI P), .int (nI n), .ref bW, .ref bL, .ref bF, .ref bK, .int (bI pw), .int lf, .ref bB, .ref bS, .ref bN, .ref bM, .int (nI mz)])), (bW, .inl (cI, 676, .inl wd)), (bL, .inl (cB, 13, .inl (fun z9 => bI (lo z9)))), (bF, .inl (cB, 52, .inl (fun z9 => bI (fr z9)))), (bK, .inl (cB, 4, .inl (fun z9 => bI (mk z9)))), (bB, .inl (cI, 26, .inl (fun z9 => nI (bt z9)))), (bS, .inl (cI, 26, .inl su)), (bN, .inl (cI, 26, .inl kv)), (bM, .inl (cI, 13, .inl (fun z9 => nI (mi z9))))] H := hP
    have hD : va_D A [(aO, .inr (4, [.int (nI 0), .int (nI P), .int (nI n), .ref bW, .ref bL, .ref bF, .ref bK, .int (bI pw), .int lf, .ref bB, .ref bS, .ref bN, .ref bM, .int (nI mz)])), (bW, .inl (cI, 676, .inl wd)), (bL, .inl (cB, 13, .inl (fun z9 => bI (lo z9)))), (bF, .inl (cB, 52, .inl (fun z9 => bI (fr z9)))), (bK, .inl (cB, 4, .inl (fun z9 => bI (mk z9)))), (bB, .inl (cI, 26, .inl (fun z9 => nI (bt z9)))), (bS, .inl (cI, 26, .inl su)), (bN, .inl (cI, 26, .inl kv)), (bM, .inl (cI, 13, .inl (fun z9 => nI (mi z9))))] := hD
    refine x_ifF (tgt := 29) hx hb dX4_replace_17 (by decide) (fun h17 => ?_) (fun h17 => ?_)
    · -- 17t
      refine lv_iconst (v := bI false) hx hb dX4_replace_29 (by decide) ?_
      exact x_zret (D := (dC, dI)) (cl := vwCl) (A := A) () hQ hx hb hr hlk hP hD hS dX4_replace_30 (by first | rfl | (simp [h9, h17]; done) | (simp [h9, h17]; omega))
    · -- 17f
      rcases hc with z | z <;> first | (rw [z] at h9; cases h9) | (rw [z] at h17; cases h17)

abbrev rm_c_mrep1 : Room := { frames := 1, cells := 0, slots := 0, locals := 21 }
set_option maxHeartbeats 4000000 in
set_option maxRecDepth 100000 in
theorem c_mrep1 (l : Launch) (dC : Nat → ClassId) (dI : Nat → Nat → Nat) (cI cB cQ cJ : ClassId) (aO : Nat) (bW : Nat) (bL : Nat) (bF : Nat) (bK : Nat) (bB : Nat) (bS : Nat) (bN : Nat) (bM : Nat) (th : Nat) (P : Nat) (n : Nat) (pw : Bool) (lf : Int32) (mz : Nat) (wd : Nat → Int32) (lo : Nat → Bool) (fr : Nat → Bool) (mk : Nat → Bool) (bt : Nat → Nat) (su : Nat → Int32) (kv : Nat → Int32) (mi : Nat → Nat) (d : Nat) (hp5 : dr_P P) (hn : n < 5) (hd : d < P) (hc : lo d = false) : MG l yX4_replace (Cond.code yX4_replace cX4_replace 3 (some .boolean) :: TB) rm_c_mrep1 (dC, dI) vwCl (TY cI cB cQ cJ) [.ref aO, .int (nI d)] [(aO, .inr (4, [.int (nI th), .int (nI P), .int (nI n), .ref bW, .ref bL, .ref bF, .ref bK, .int (bI true), .int lf, .ref bB, .ref bS, .ref bN, .ref bM, .int (nI mz)])), (bW, .inl (cI, 676, .inl wd)), (bL, .inl (cB, 13, .inl (fun z9 => bI (lo z9)))), (bF, .inl (cB, 52, .inl (fun z9 => bI (fr z9)))), (bK, .inl (cB, 4, .inl (fun z9 => bI (mk z9)))), (bB, .inl (cI, 26, .inl (fun z9 => nI (bt z9)))), (bS, .inl (cI, 26, .inl su)), (bN, .inl (cI, 26, .inl kv)), (bM, .inl (cI, 13, .inl (fun z9 => nI (mi z9))))] (fun (r : Int32) (u : Unit) => r = bI false) (fun (u : Unit) => [(aO, .inr (4, [.int (nI 0), .int (nI P), .int (nI n), .ref bW, .ref bL, .ref bF, .ref bK, .int (bI true), .int lf, .ref bB, .ref bS, .ref bN, .ref bM, .int (nI mz)])), (bW, .inl (cI, 676, .inl wd)), (bL, .inl (cB, 13, .inl (fun z9 => bI (lo z9)))), (bF, .inl (cB, 52, .inl (fun z9 => bI (fr z9)))), (bK, .inl (cB, 4, .inl (fun z9 => bI (mk z9)))), (bB, .inl (cI, 26, .inl (fun z9 => nI (bt z9)))), (bS, .inl (cI, 26, .inl su)), (bN, .inl (cI, 26, .inl kv)), (bM, .inl (cI, 13, .inl (fun z9 => nI (mi z9))))]) := by
  refine MG.ofW (cc := cX4_replace) (maxL := 3) (rt := .boolean) (by decide +kernel) rfl (Nat.le_of_ble_eq_true rfl) ?_
  intro p e s m args below meth c A ls Q H locs hQ hx hb hml hr hlk hts hown hK hP hD hS hA hl
  have hts : ∀ w ∈ TB, w.before args s = true := fun w h => hts w (List.mem_cons_of_mem _ h)
  have hown : s.vm.findClass RX4 = some m.cls := hown
  have hl : lv_has ls 3 [(0, .ref aO), (1, .int (nI d))] := hl
  have hP : va_P (dC, dI) vwCl [(aO, .inr (4, [.int (nI th), .int (nI P), .int (nI n), .ref bW, .ref bL, .ref bF, .ref bK, .int (bI true), .int lf, .ref bB, .ref bS, .ref bN, .ref bM, .int (nI mz)])), (bW, .inl (cI, 676, .inl wd)), (bL, .inl (cB, 13, .inl (fun z9 => bI (lo z9)))), (bF, .inl (cB, 52, .inl (fun z9 => bI (fr z9)))), (bK, .inl (cB, 4, .inl (fun z9 => bI (mk z9)))), (bB, .inl (cI, 26, .inl (fun z9 => nI (bt z9)))), (bS, .inl (cI, 26, .inl su)), (bN, .inl (cI, 26, .inl kv)), (bM, .inl (cI, 13, .inl (fun z9 => nI (mi z9))))] H := hP
  have hD : va_D A [(aO, .inr (4, [.int (nI th), .int (nI P), .int (nI n), .ref bW, .ref bL, .ref bF, .ref bK, .int (bI true), .int lf, .ref bB, .ref bS, .ref bN, .ref bM, .int (nI mz)])), (bW, .inl (cI, 676, .inl wd)), (bL, .inl (cB, 13, .inl (fun z9 => bI (lo z9)))), (bF, .inl (cB, 52, .inl (fun z9 => bI (fr z9)))), (bK, .inl (cB, 4, .inl (fun z9 => bI (mk z9)))), (bB, .inl (cI, 26, .inl (fun z9 => nI (bt z9)))), (bS, .inl (cI, 26, .inl su)), (bN, .inl (cI, 26, .inl kv)), (bM, .inl (cI, 13, .inl (fun z9 => nI (mi z9))))] := hD
  have hp := hp5.le
  have hpp := dr_PP hp5
  have hpq := dr_PP2 hp5
  refine lv_aload_n hx hb dX4_replace_0 rfl (lv_at hl 0 rfl) ?_
  refine lv_iconst (v := nI 0) hx hb dX4_replace_1 (by decide) ?_
  refine va_put (D := (dC, dI)) (ci := 4) (v := .int (nI 0)) (ty := .int) (C := RX4) (T := TX4) (N := 14) hx hb hts inX4 tyX4 tyX4_ok nmX4 hown hK hP hD hS 0 rfl rfl 0 (by decide) (hts _ t_fX4_49) (fun _ h9 => h9) rfl (by decide +kernel) rfl rfl (Nat.le_of_ble_eq_true rfl) dX4_replace_2 (fun H locs hP hD hS => ?_)
  have hP : va_P (dC, dI) vwCl [(aO, .inr (4, [.int (nI 0), .int (nI P), .int (nI n), .ref bW, .ref bL, .ref bF, .ref bK, .int (bI true), .int lf, .ref bB, .ref bS, .ref bN, .ref bM, .int (nI mz)])), (bW, .inl (cI, 676, .inl wd)), (bL, .inl (cB, 13, .inl (fun z9 => bI (lo z9)))), (bF, .inl (cB, 52, .inl (fun z9 => bI (fr z9)))), (bK, .inl (cB, 4, .inl (fun z9 => bI (mk z9)))), (bB, .inl (cI, 26, .inl (fun z9 => nI (bt z9)))), (bS, .inl (cI, 26, .inl su)), (bN, .inl (cI, 26, .inl kv)), (bM, .inl (cI, 13, .inl (fun z9 => nI (mi z9))))] H := hP
  have hD : va_D A [(aO, .inr (4, [.int (nI 0), .int (nI P), .int (nI n), .ref bW, .ref bL, .ref bF, .ref bK, .int (bI true), .int lf, .ref bB, .ref bS, .ref bN, .ref bM, .int (nI mz)])), (bW, .inl (cI, 676, .inl wd)), (bL, .inl (cB, 13, .inl (fun z9 => bI (lo z9)))), (bF, .inl (cB, 52, .inl (fun z9 => bI (fr z9)))), (bK, .inl (cB, 4, .inl (fun z9 => bI (mk z9)))), (bB, .inl (cI, 26, .inl (fun z9 => nI (bt z9)))), (bS, .inl (cI, 26, .inl su)), (bN, .inl (cI, 26, .inl kv)), (bM, .inl (cI, 13, .inl (fun z9 => nI (mi z9))))] := hD
  refine lv_aload_n hx hb dX4_replace_5 rfl (lv_at hl 0 rfl) ?_
  refine va_get (D := (dC, dI)) (ci := 4) (v := .int (bI true)) (C := RX4) (T := TX4) (N := 14) hx hb hts inX4 hown hK hP 0 rfl rfl 7 (by decide) (hts _ t_fX4_23) (fun _ h9 => h9) rfl dX4_replace_6 ?_
  refine x_ifF (tgt := 29) hx hb dX4_replace_9 (by decide) (fun z9 => by cases z9) (fun _ => ?_)
  refine lv_aload_n hx hb dX4_replace_12 rfl (lv_at hl 0 rfl) ?_
  refine lv_iload_n hx hb dX4_replace_13 rfl (lv_at hl 1 rfl) ?_
  refine gV (wr := []) (pre := [(aO, .inr (4, [.int (nI 0), .int (nI P), .int (nI n), .ref bW, .ref bL, .ref bF, .ref bK, .int (bI true), .int lf, .ref bB, .ref bS, .ref bN, .ref bM, .int (nI mz)])), (bW, .inl (cI, 676, .inl wd)), (bL, .inl (cB, 13, .inl (fun z9 => bI (lo z9)))), (bF, .inl (cB, 52, .inl (fun z9 => bI (fr z9)))), (bK, .inl (cB, 4, .inl (fun z9 => bI (mk z9)))), (bB, .inl (cI, 26, .inl (fun z9 => nI (bt z9)))), (bS, .inl (cI, 26, .inl su)), (bN, .inl (cI, 26, .inl kv)), (bM, .inl (cI, 13, .inl (fun z9 => nI (mi z9))))]) (tl := []) (G := fun (u : Unit) => [(aO, .inr (4, [.int (nI 0), .int (nI P), .int (nI n), .ref bW, .ref bL, .ref bF, .ref bK, .int (bI true), .int lf, .ref bB, .ref bS, .ref bN, .ref bM, .int (nI mz)])), (bW, .inl (cI, 676, .inl wd)), (bL, .inl (cB, 13, .inl (fun z9 => bI (lo z9)))), (bF, .inl (cB, 52, .inl (fun z9 => bI (fr z9)))), (bK, .inl (cB, 4, .inl (fun z9 => bI (mk z9)))), (bB, .inl (cI, 26, .inl (fun z9 => nI (bt z9)))), (bS, .inl (cI, 26, .inl su)), (bN, .inl (cI, 26, .inl kv)), (bM, .inl (cI, 13, .inl (fun z9 => nI (mi z9))))]) (b := aO) (As := [.int (nI d)]) (rst := []) ⟨hx, hb, hml, hown, hts⟩ (c_mDrive l dC dI cI cB cQ cJ aO bW bL bF bK bB bS bN bM 0 P n true lf mz wd lo fr mk bt su kv mi (nI d) (by omega) (by omega)) (cwV 1 hts (gdV t_mX4_93 t_inst_X4_isDrive t_sel_X4_isDrive t_ini_X4 t_code_X4_isDrive) rfl rfl rfl (by decide +kernel) ⟨Nat.le_of_ble_eq_true rfl, Nat.le_of_ble_eq_true rfl⟩) hK hP hD hS hA [0, 1, 2, 3, 4, 5, 6, 7, 8] [] [0, 1, 2, 3, 4, 5, 6, 7, 8] rfl (by decide) (fun _ => rfl) (by decide) (ci := 4) rfl rfl rfl rfl hl.1 rfl (Nat.le_of_ble_eq_true rfl) dX4_replace_14 ⟨Nat.zero_le _, Nat.zero_le _⟩ (fun r u H locs hu1 hP hD hS => ?_)
  have hr14 := hu1
  have hr14 : r = bI (dr_in (nI d) P) := hr14
  subst hr14
  have hP : va_P (dC, dI) vwCl [(aO, .inr (4, [.int (nI 0), .int (nI P), .int (nI n), .ref bW, .ref bL, .ref bF, .ref bK, .int (bI true), .int lf, .ref bB, .ref bS, .ref bN, .ref bM, .int (nI mz)])), (bW, .inl (cI, 676, .inl wd)), (bL, .inl (cB, 13, .inl (fun z9 => bI (lo z9)))), (bF, .inl (cB, 52, .inl (fun z9 => bI (fr z9)))), (bK, .inl (cB, 4, .inl (fun z9 => bI (mk z9)))), (bB, .inl (cI, 26, .inl (fun z9 => nI (bt z9)))), (bS, .inl (cI, 26, .inl su)), (bN, .inl (cI, 26, .inl kv)), (bM, .inl (cI, 13, .inl (fun z9 => nI (mi z9))))] H := hP
  have hD : va_D A [(aO, .inr (4, [.int (nI 0), .int (nI P), .int (nI n), .ref bW, .ref bL, .ref bF, .ref bK, .int (bI true), .int lf, .ref bB, .ref bS, .ref bN, .ref bM, .int (nI mz)])), (bW, .inl (cI, 676, .inl wd)), (bL, .inl (cB, 13, .inl (fun z9 => bI (lo z9)))), (bF, .inl (cB, 52, .inl (fun z9 => bI (fr z9)))), (bK, .inl (cB, 4, .inl (fun z9 => bI (mk z9)))), (bB, .inl (cI, 26, .inl (fun z9 => nI (bt z9)))), (bS, .inl (cI, 26, .inl su)), (bN, .inl (cI, 26, .inl kv)), (bM, .inl (cI, 13, .inl (fun z9 => nI (mi z9))))] := hD
  refine x_top (show bI (dr_in (nI d) P) = bI true from (congrArg bI (dr_in_of (by omega) hd))) ?_
  refine x_ifF (tgt := 29) hx hb dX4_replace_17 (by decide) (fun z9 => by cases z9) (fun _ => ?_)
  refine lv_aload_n hx hb dX4_replace_20 rfl (lv_at hl 0 rfl) ?_
  refine va_get (D := (dC, dI)) (ci := 4) (v := .ref bL) (C := RX4) (T := TX4) (N := 14) hx hb hts inX4 hown hK hP 0 rfl rfl 4 (by decide) (hts _ t_fX4_13) (fun _ h9 => h9) rfl dX4_replace_21 ?_
  refine lv_iload_n hx hb dX4_replace_24 rfl (lv_at hl 1 rfl) ?_
  refine x_zald (g := lo) hx hb hK hP 2 1 rfl rfl dX4_replace_25 (by omega) (by omega) ?_
  refine x_top (show bI (lo d) = bI false from (congrArg bI hc)) ?_
  refine x_ifT (tgt := 31) hx hb dX4_replace_26 (by decide) (fun z9 => by cases z9) (fun _ => ?_)
  refine lv_iconst (v := bI false) hx hb dX4_replace_29 (by decide) ?_
  exact x_zret (D := (dC, dI)) (cl := vwCl) (A := A) () hQ hx hb hr hlk hP hD hS dX4_replace_30 (by first | rfl | (simp []; done) | (simp []; omega))

abbrev rm_c_mrep2 : Room := { frames := 1, cells := 0, slots := 0, locals := 21 }
set_option maxHeartbeats 4000000 in
set_option maxRecDepth 100000 in
theorem c_mrep2 (l : Launch) (dC : Nat → ClassId) (dI : Nat → Nat → Nat) (cI cB cQ cJ : ClassId) (aO : Nat) (bW : Nat) (bL : Nat) (bF : Nat) (bK : Nat) (bB : Nat) (bS : Nat) (bN : Nat) (bM : Nat) (th : Nat) (P : Nat) (n : Nat) (pw : Bool) (lf : Int32) (mz : Nat) (wd : Nat → Int32) (lo : Nat → Bool) (fr : Nat → Bool) (mk : Nat → Bool) (bt : Nat → Nat) (su : Nat → Int32) (kv : Nat → Int32) (mi : Nat → Nat) (d : Nat) (hp5 : dr_P P) (hn : n < 5) (hd : d < P) (hc : lo d = true) : MG l yX4_replace (Cond.code yX4_replace cX4_replace 3 (some .boolean) :: TB) rm_c_mrep2 (dC, dI) vwCl (TY cI cB cQ cJ) [.ref aO, .int (nI d)] [(aO, .inr (4, [.int (nI th), .int (nI P), .int (nI n), .ref bW, .ref bL, .ref bF, .ref bK, .int (bI true), .int lf, .ref bB, .ref bS, .ref bN, .ref bM, .int (nI mz)])), (bW, .inl (cI, 676, .inl wd)), (bL, .inl (cB, 13, .inl (fun z9 => bI (lo z9)))), (bF, .inl (cB, 52, .inl (fun z9 => bI (fr z9)))), (bK, .inl (cB, 4, .inl (fun z9 => bI (mk z9)))), (bB, .inl (cI, 26, .inl (fun z9 => nI (bt z9)))), (bS, .inl (cI, 26, .inl su)), (bN, .inl (cI, 26, .inl kv)), (bM, .inl (cI, 13, .inl (fun z9 => nI (mi z9))))] (fun (r : Int32) (u : Unit) => r = bI true) (fun (u : Unit) => [(aO, .inr (4, [.int (nI 0), .int (nI P), .int (nI n), .ref bW, .ref bL, .ref bF, .ref bK, .int (bI true), .int lf, .ref bB, .ref bS, .ref bN, .ref bM, .int (nI mz)])), (bW, .inl (cI, 676, .inl wd)), (bL, .inl (cB, 13, .inl (fun z9 => bI ((va_up lo d false) z9)))), (bF, .inl (cB, 52, .inl (fun z9 => bI ((rf_lF fr d true n) z9)))), (bK, .inl (cB, 4, .inl (fun z9 => bI (mk z9)))), (bB, .inl (cI, 26, .inl (fun z9 => nI (bt z9)))), (bS, .inl (cI, 26, .inl su)), (bN, .inl (cI, 26, .inl kv)), (bM, .inl (cI, 13, .inl (fun z9 => nI (mi z9))))]) := by
  refine MG.ofW (cc := cX4_replace) (maxL := 3) (rt := .boolean) (by decide +kernel) rfl (Nat.le_of_ble_eq_true rfl) ?_
  intro p e s m args below meth c A ls Q H locs hQ hx hb hml hr hlk hts hown hK hP hD hS hA hl
  have hts : ∀ w ∈ TB, w.before args s = true := fun w h => hts w (List.mem_cons_of_mem _ h)
  have hown : s.vm.findClass RX4 = some m.cls := hown
  have hl : lv_has ls 3 [(0, .ref aO), (1, .int (nI d))] := hl
  have hP : va_P (dC, dI) vwCl [(aO, .inr (4, [.int (nI th), .int (nI P), .int (nI n), .ref bW, .ref bL, .ref bF, .ref bK, .int (bI true), .int lf, .ref bB, .ref bS, .ref bN, .ref bM, .int (nI mz)])), (bW, .inl (cI, 676, .inl wd)), (bL, .inl (cB, 13, .inl (fun z9 => bI (lo z9)))), (bF, .inl (cB, 52, .inl (fun z9 => bI (fr z9)))), (bK, .inl (cB, 4, .inl (fun z9 => bI (mk z9)))), (bB, .inl (cI, 26, .inl (fun z9 => nI (bt z9)))), (bS, .inl (cI, 26, .inl su)), (bN, .inl (cI, 26, .inl kv)), (bM, .inl (cI, 13, .inl (fun z9 => nI (mi z9))))] H := hP
  have hD : va_D A [(aO, .inr (4, [.int (nI th), .int (nI P), .int (nI n), .ref bW, .ref bL, .ref bF, .ref bK, .int (bI true), .int lf, .ref bB, .ref bS, .ref bN, .ref bM, .int (nI mz)])), (bW, .inl (cI, 676, .inl wd)), (bL, .inl (cB, 13, .inl (fun z9 => bI (lo z9)))), (bF, .inl (cB, 52, .inl (fun z9 => bI (fr z9)))), (bK, .inl (cB, 4, .inl (fun z9 => bI (mk z9)))), (bB, .inl (cI, 26, .inl (fun z9 => nI (bt z9)))), (bS, .inl (cI, 26, .inl su)), (bN, .inl (cI, 26, .inl kv)), (bM, .inl (cI, 13, .inl (fun z9 => nI (mi z9))))] := hD
  have hp := hp5.le
  have hpp := dr_PP hp5
  have hpq := dr_PP2 hp5
  refine lv_aload_n hx hb dX4_replace_0 rfl (lv_at hl 0 rfl) ?_
  refine lv_iconst (v := nI 0) hx hb dX4_replace_1 (by decide) ?_
  refine va_put (D := (dC, dI)) (ci := 4) (v := .int (nI 0)) (ty := .int) (C := RX4) (T := TX4) (N := 14) hx hb hts inX4 tyX4 tyX4_ok nmX4 hown hK hP hD hS 0 rfl rfl 0 (by decide) (hts _ t_fX4_49) (fun _ h9 => h9) rfl (by decide +kernel) rfl rfl (Nat.le_of_ble_eq_true rfl) dX4_replace_2 (fun H locs hP hD hS => ?_)
  have hP : va_P (dC, dI) vwCl [(aO, .inr (4, [.int (nI 0), .int (nI P), .int (nI n), .ref bW, .ref bL, .ref bF, .ref bK, .int (bI true), .int lf, .ref bB, .ref bS, .ref bN, .ref bM, .int (nI mz)])), (bW, .inl (cI, 676, .inl wd)), (bL, .inl (cB, 13, .inl (fun z9 => bI (lo z9)))), (bF, .inl (cB, 52, .inl (fun z9 => bI (fr z9)))), (bK, .inl (cB, 4, .inl (fun z9 => bI (mk z9)))), (bB, .inl (cI, 26, .inl (fun z9 => nI (bt z9)))), (bS, .inl (cI, 26, .inl su)), (bN, .inl (cI, 26, .inl kv)), (bM, .inl (cI, 13, .inl (fun z9 => nI (mi z9))))] H := hP
  have hD : va_D A [(aO, .inr (4, [.int (nI 0), .int (nI P), .int (nI n), .ref bW, .ref bL, .ref bF, .ref bK, .int (bI true), .int lf, .ref bB, .ref bS, .ref bN, .ref bM, .int (nI mz)])), (bW, .inl (cI, 676, .inl wd)), (bL, .inl (cB, 13, .inl (fun z9 => bI (lo z9)))), (bF, .inl (cB, 52, .inl (fun z9 => bI (fr z9)))), (bK, .inl (cB, 4, .inl (fun z9 => bI (mk z9)))), (bB, .inl (cI, 26, .inl (fun z9 => nI (bt z9)))), (bS, .inl (cI, 26, .inl su)), (bN, .inl (cI, 26, .inl kv)), (bM, .inl (cI, 13, .inl (fun z9 => nI (mi z9))))] := hD
  refine lv_aload_n hx hb dX4_replace_5 rfl (lv_at hl 0 rfl) ?_
  refine va_get (D := (dC, dI)) (ci := 4) (v := .int (bI true)) (C := RX4) (T := TX4) (N := 14) hx hb hts inX4 hown hK hP 0 rfl rfl 7 (by decide) (hts _ t_fX4_23) (fun _ h9 => h9) rfl dX4_replace_6 ?_
  refine x_ifF (tgt := 29) hx hb dX4_replace_9 (by decide) (fun z9 => by cases z9) (fun _ => ?_)
  refine lv_aload_n hx hb dX4_replace_12 rfl (lv_at hl 0 rfl) ?_
  refine lv_iload_n hx hb dX4_replace_13 rfl (lv_at hl 1 rfl) ?_
  refine gV (wr := []) (pre := [(aO, .inr (4, [.int (nI 0), .int (nI P), .int (nI n), .ref bW, .ref bL, .ref bF, .ref bK, .int (bI true), .int lf, .ref bB, .ref bS, .ref bN, .ref bM, .int (nI mz)])), (bW, .inl (cI, 676, .inl wd)), (bL, .inl (cB, 13, .inl (fun z9 => bI (lo z9)))), (bF, .inl (cB, 52, .inl (fun z9 => bI (fr z9)))), (bK, .inl (cB, 4, .inl (fun z9 => bI (mk z9)))), (bB, .inl (cI, 26, .inl (fun z9 => nI (bt z9)))), (bS, .inl (cI, 26, .inl su)), (bN, .inl (cI, 26, .inl kv)), (bM, .inl (cI, 13, .inl (fun z9 => nI (mi z9))))]) (tl := []) (G := fun (u : Unit) => [(aO, .inr (4, [.int (nI 0), .int (nI P), .int (nI n), .ref bW, .ref bL, .ref bF, .ref bK, .int (bI true), .int lf, .ref bB, .ref bS, .ref bN, .ref bM, .int (nI mz)])), (bW, .inl (cI, 676, .inl wd)), (bL, .inl (cB, 13, .inl (fun z9 => bI (lo z9)))), (bF, .inl (cB, 52, .inl (fun z9 => bI (fr z9)))), (bK, .inl (cB, 4, .inl (fun z9 => bI (mk z9)))), (bB, .inl (cI, 26, .inl (fun z9 => nI (bt z9)))), (bS, .inl (cI, 26, .inl su)), (bN, .inl (cI, 26, .inl kv)), (bM, .inl (cI, 13, .inl (fun z9 => nI (mi z9))))]) (b := aO) (As := [.int (nI d)]) (rst := []) ⟨hx, hb, hml, hown, hts⟩ (c_mDrive l dC dI cI cB cQ cJ aO bW bL bF bK bB bS bN bM 0 P n true lf mz wd lo fr mk bt su kv mi (nI d) (by omega) (by omega)) (cwV 1 hts (gdV t_mX4_93 t_inst_X4_isDrive t_sel_X4_isDrive t_ini_X4 t_code_X4_isDrive) rfl rfl rfl (by decide +kernel) ⟨Nat.le_of_ble_eq_true rfl, Nat.le_of_ble_eq_true rfl⟩) hK hP hD hS hA [0, 1, 2, 3, 4, 5, 6, 7, 8] [] [0, 1, 2, 3, 4, 5, 6, 7, 8] rfl (by decide) (fun _ => rfl) (by decide) (ci := 4) rfl rfl rfl rfl hl.1 rfl (Nat.le_of_ble_eq_true rfl) dX4_replace_14 ⟨Nat.zero_le _, Nat.zero_le _⟩ (fun r u H locs hu1 hP hD hS => ?_)
  have hr14 := hu1
  have hr14 : r = bI (dr_in (nI d) P) := hr14
  subst hr14
  have hP : va_P (dC, dI) vwCl [(aO, .inr (4, [.int (nI 0), .int (nI P), .int (nI n), .ref bW, .ref bL, .ref bF, .ref bK, .int (bI true), .int lf, .ref bB, .ref bS, .ref bN, .ref bM, .int (nI mz)])), (bW, .inl (cI, 676, .inl wd)), (bL, .inl (cB, 13, .inl (fun z9 => bI (lo z9)))), (bF, .inl (cB, 52, .inl (fun z9 => bI (fr z9)))), (bK, .inl (cB, 4, .inl (fun z9 => bI (mk z9)))), (bB, .inl (cI, 26, .inl (fun z9 => nI (bt z9)))), (bS, .inl (cI, 26, .inl su)), (bN, .inl (cI, 26, .inl kv)), (bM, .inl (cI, 13, .inl (fun z9 => nI (mi z9))))] H := hP
  have hD : va_D A [(aO, .inr (4, [.int (nI 0), .int (nI P), .int (nI n), .ref bW, .ref bL, .ref bF, .ref bK, .int (bI true), .int lf, .ref bB, .ref bS, .ref bN, .ref bM, .int (nI mz)])), (bW, .inl (cI, 676, .inl wd)), (bL, .inl (cB, 13, .inl (fun z9 => bI (lo z9)))), (bF, .inl (cB, 52, .inl (fun z9 => bI (fr z9)))), (bK, .inl (cB, 4, .inl (fun z9 => bI (mk z9)))), (bB, .inl (cI, 26, .inl (fun z9 => nI (bt z9)))), (bS, .inl (cI, 26, .inl su)), (bN, .inl (cI, 26, .inl kv)), (bM, .inl (cI, 13, .inl (fun z9 => nI (mi z9))))] := hD
  refine x_top (show bI (dr_in (nI d) P) = bI true from (congrArg bI (dr_in_of (by omega) hd))) ?_
  refine x_ifF (tgt := 29) hx hb dX4_replace_17 (by decide) (fun z9 => by cases z9) (fun _ => ?_)
  refine lv_aload_n hx hb dX4_replace_20 rfl (lv_at hl 0 rfl) ?_
  refine va_get (D := (dC, dI)) (ci := 4) (v := .ref bL) (C := RX4) (T := TX4) (N := 14) hx hb hts inX4 hown hK hP 0 rfl rfl 4 (by decide) (hts _ t_fX4_13) (fun _ h9 => h9) rfl dX4_replace_21 ?_
  refine lv_iload_n hx hb dX4_replace_24 rfl (lv_at hl 1 rfl) ?_
  refine x_zald (g := lo) hx hb hK hP 2 1 rfl rfl dX4_replace_25 (by omega) (by omega) ?_
  refine x_top (show bI (lo d) = bI true from (congrArg bI hc)) ?_
  refine x_ifT (tgt := 31) hx hb dX4_replace_26 (by decide) (fun _ => ?_) (fun z9 => by cases z9)
  refine lv_aload_n hx hb dX4_replace_31 rfl (lv_at hl 0 rfl) ?_
  refine va_get (D := (dC, dI)) (ci := 4) (v := .ref bL) (C := RX4) (T := TX4) (N := 14) hx hb hts inX4 hown hK hP 0 rfl rfl 4 (by decide) (hts _ t_fX4_13) (fun _ h9 => h9) rfl dX4_replace_32 ?_
  refine lv_iload_n hx hb dX4_replace_35 rfl (lv_at hl 1 rfl) ?_
  refine lv_iconst (v := bI false) hx hb dX4_replace_36 (by decide) ?_
  refine x_zast (g := lo) hx hb hK hP hD hS 2 1 rfl rfl dX4_replace_37 (by omega) (by omega) (fun H locs hP hD hS => ?_)
  have hP : va_P (dC, dI) vwCl [(aO, .inr (4, [.int (nI 0), .int (nI P), .int (nI n), .ref bW, .ref bL, .ref bF, .ref bK, .int (bI true), .int lf, .ref bB, .ref bS, .ref bN, .ref bM, .int (nI mz)])), (bW, .inl (cI, 676, .inl wd)), (bL, .inl (cB, 13, .inl (fun z9 => bI ((va_up lo d false) z9)))), (bF, .inl (cB, 52, .inl (fun z9 => bI (fr z9)))), (bK, .inl (cB, 4, .inl (fun z9 => bI (mk z9)))), (bB, .inl (cI, 26, .inl (fun z9 => nI (bt z9)))), (bS, .inl (cI, 26, .inl su)), (bN, .inl (cI, 26, .inl kv)), (bM, .inl (cI, 13, .inl (fun z9 => nI (mi z9))))] H := hP
  have hD : va_D A [(aO, .inr (4, [.int (nI 0), .int (nI P), .int (nI n), .ref bW, .ref bL, .ref bF, .ref bK, .int (bI true), .int lf, .ref bB, .ref bS, .ref bN, .ref bM, .int (nI mz)])), (bW, .inl (cI, 676, .inl wd)), (bL, .inl (cB, 13, .inl (fun z9 => bI ((va_up lo d false) z9)))), (bF, .inl (cB, 52, .inl (fun z9 => bI (fr z9)))), (bK, .inl (cB, 4, .inl (fun z9 => bI (mk z9)))), (bB, .inl (cI, 26, .inl (fun z9 => nI (bt z9)))), (bS, .inl (cI, 26, .inl su)), (bN, .inl (cI, 26, .inl kv)), (bM, .inl (cI, 13, .inl (fun z9 => nI (mi z9))))] := hD
  refine lv_iconst (v := nI 0) hx hb dX4_replace_38 (by decide) ?_
  refine lv_istore_n hx hb dX4_replace_39 rfl hl (by decide) rfl (fun ls hl => ?_)
  have hl : lv_has ls 3 [(2, .int (nI 0)), (0, .ref aO), (1, .int (nI d))] := hl
  have lp40 : ∀ (n9 : Nat) (i : Nat) (ls : Array Slot) (H : Heap) (locs : List Loc), n - i < n9 → (i ≤ n) → lv_has ls 3 [(2, .int (nI i)), (1, .int (nI d)), (0, .ref aO)] → va_P (dC, dI) vwCl [(aO, .inr (4, [.int (nI 0), .int (nI P), .int (nI n), .ref bW, .ref bL, .ref bF, .ref bK, .int (bI true), .int lf, .ref bB, .ref bS, .ref bN, .ref bM, .int (nI mz)])), (bW, .inl (cI, 676, .inl wd)), (bL, .inl (cB, 13, .inl (fun z9 => bI ((va_up lo d false) z9)))), (bF, .inl (cB, 52, .inl (fun z9 => bI ((rf_lF fr d true i) z9)))), (bK, .inl (cB, 4, .inl (fun z9 => bI (mk z9)))), (bB, .inl (cI, 26, .inl (fun z9 => nI (bt z9)))), (bS, .inl (cI, 26, .inl su)), (bN, .inl (cI, 26, .inl kv)), (bM, .inl (cI, 13, .inl (fun z9 => nI (mi z9))))] H → va_D A [(aO, .inr (4, [.int (nI 0), .int (nI P), .int (nI n), .ref bW, .ref bL, .ref bF, .ref bK, .int (bI true), .int lf, .ref bB, .ref bS, .ref bN, .ref bM, .int (nI mz)])), (bW, .inl (cI, 676, .inl wd)), (bL, .inl (cB, 13, .inl (fun z9 => bI ((va_up lo d false) z9)))), (bF, .inl (cB, 52, .inl (fun z9 => bI ((rf_lF fr d true i) z9)))), (bK, .inl (cB, 4, .inl (fun z9 => bI (mk z9)))), (bB, .inl (cI, 26, .inl (fun z9 => nI (bt z9)))), (bS, .inl (cI, 26, .inl su)), (bN, .inl (cI, 26, .inl kv)), (bM, .inl (cI, 13, .inl (fun z9 => nI (mi z9))))] → va_S A s.heap H locs → W p l e rm_c_mrep2 s m args below meth c H locs 0 0 Q (F0 m 40 ls []) := by
    intro n9
    induction n9 with
    | zero => intro i ls H locs hn9; omega
    | succ n9 ih40 =>
      intro i ls H locs hn9 hi hl hP hD hS
      refine lv_iload_n hx hb dX4_replace_40 rfl (lv_at hl 0 rfl) ?_
      refine lv_aload_n hx hb dX4_replace_41 rfl (lv_at hl 2 rfl) ?_
      refine va_get (D := (dC, dI)) (ci := 4) (v := .int (nI n)) (C := RX4) (T := TX4) (N := 14) hx hb hts inX4 hown hK hP 0 rfl rfl 2 (by decide) (hts _ t_fX4_46) (fun _ h9 => h9) rfl dX4_replace_42 ?_
      refine x_cge (tgt := 65) hx hb dX4_replace_45 (by decide) (by omega) (by omega) (fun h45 => ?_) (fun h45 => ?_)
      · -- 45t
        have hie45 : i = n := by omega
        try rw [hie45] at hl
        try rw [hie45] at hP
        try rw [hie45] at hD
        have hl : lv_has ls 3 [(2, .int (nI n)), (1, .int (nI d)), (0, .ref aO)] := hl
        have hP : va_P (dC, dI) vwCl [(aO, .inr (4, [.int (nI 0), .int (nI P), .int (nI n), .ref bW, .ref bL, .ref bF, .ref bK, .int (bI true), .int lf, .ref bB, .ref bS, .ref bN, .ref bM, .int (nI mz)])), (bW, .inl (cI, 676, .inl wd)), (bL, .inl (cB, 13, .inl (fun z9 => bI ((va_up lo d false) z9)))), (bF, .inl (cB, 52, .inl (fun z9 => bI ((rf_lF fr d true n) z9)))), (bK, .inl (cB, 4, .inl (fun z9 => bI (mk z9)))), (bB, .inl (cI, 26, .inl (fun z9 => nI (bt z9)))), (bS, .inl (cI, 26, .inl su)), (bN, .inl (cI, 26, .inl kv)), (bM, .inl (cI, 13, .inl (fun z9 => nI (mi z9))))] H := hP
        have hD : va_D A [(aO, .inr (4, [.int (nI 0), .int (nI P), .int (nI n), .ref bW, .ref bL, .ref bF, .ref bK, .int (bI true), .int lf, .ref bB, .ref bS, .ref bN, .ref bM, .int (nI mz)])), (bW, .inl (cI, 676, .inl wd)), (bL, .inl (cB, 13, .inl (fun z9 => bI ((va_up lo d false) z9)))), (bF, .inl (cB, 52, .inl (fun z9 => bI ((rf_lF fr d true n) z9)))), (bK, .inl (cB, 4, .inl (fun z9 => bI (mk z9)))), (bB, .inl (cI, 26, .inl (fun z9 => nI (bt z9)))), (bS, .inl (cI, 26, .inl su)), (bN, .inl (cI, 26, .inl kv)), (bM, .inl (cI, 13, .inl (fun z9 => nI (mi z9))))] := hD
        refine lv_iconst (v := bI true) hx hb dX4_replace_65 (by decide) ?_
        exact x_zret (D := (dC, dI)) (cl := vwCl) (A := A) () hQ hx hb hr hlk hP hD hS dX4_replace_66 (by first | rfl | (simp [h45]; done) | (simp [h45]; omega))
      · -- 45f
        refine lv_aload_n hx hb dX4_replace_48 rfl (lv_at hl 2 rfl) ?_
        refine va_get (D := (dC, dI)) (ci := 4) (v := .ref bF) (C := RX4) (T := TX4) (N := 14) hx hb hts inX4 hown hK hP 0 rfl rfl 5 (by decide) (hts _ t_fX4_17) (fun _ h9 => h9) rfl dX4_replace_49 ?_
        refine lv_iconst (v := nI 4) hx hb dX4_replace_52 (by decide) ?_
        refine lv_iload_n hx hb dX4_replace_53 rfl (lv_at hl 1 rfl) ?_
        refine x_mul hx hb dX4_replace_54 ?_
        refine lv_iload_n hx hb dX4_replace_55 rfl (lv_at hl 0 rfl) ?_
        refine x_add hx hb dX4_replace_56 ?_
        refine lv_iconst (v := bI true) hx hb dX4_replace_57 (by decide) ?_
        refine x_zast (g := rf_lF fr d true i) hx hb hK hP hD hS 3 1 rfl rfl dX4_replace_58 (by omega) (by omega) (fun H locs hP hD hS => ?_)
        have hP : va_P (dC, dI) vwCl [(aO, .inr (4, [.int (nI 0), .int (nI P), .int (nI n), .ref bW, .ref bL, .ref bF, .ref bK, .int (bI true), .int lf, .ref bB, .ref bS, .ref bN, .ref bM, .int (nI mz)])), (bW, .inl (cI, 676, .inl wd)), (bL, .inl (cB, 13, .inl (fun z9 => bI ((va_up lo d false) z9)))), (bF, .inl (cB, 52, .inl (fun z9 => bI ((va_up (rf_lF fr d true i) (4 * d + i) true) z9)))), (bK, .inl (cB, 4, .inl (fun z9 => bI (mk z9)))), (bB, .inl (cI, 26, .inl (fun z9 => nI (bt z9)))), (bS, .inl (cI, 26, .inl su)), (bN, .inl (cI, 26, .inl kv)), (bM, .inl (cI, 13, .inl (fun z9 => nI (mi z9))))] H := hP
        have hD : va_D A [(aO, .inr (4, [.int (nI 0), .int (nI P), .int (nI n), .ref bW, .ref bL, .ref bF, .ref bK, .int (bI true), .int lf, .ref bB, .ref bS, .ref bN, .ref bM, .int (nI mz)])), (bW, .inl (cI, 676, .inl wd)), (bL, .inl (cB, 13, .inl (fun z9 => bI ((va_up lo d false) z9)))), (bF, .inl (cB, 52, .inl (fun z9 => bI ((va_up (rf_lF fr d true i) (4 * d + i) true) z9)))), (bK, .inl (cB, 4, .inl (fun z9 => bI (mk z9)))), (bB, .inl (cI, 26, .inl (fun z9 => nI (bt z9)))), (bS, .inl (cI, 26, .inl su)), (bN, .inl (cI, 26, .inl kv)), (bM, .inl (cI, 13, .inl (fun z9 => nI (mi z9))))] := hD
        refine lv_iinc (v := nI (i + 1)) hx hb dX4_replace_59 hl (k := 0) rfl (x_inc _) (by decide) rfl (fun ls hl => ?_)
        have hl : lv_has ls 3 [(2, .int (nI (i + 1))), (1, .int (nI d)), (0, .ref aO)] := hl
        refine lv_goto (tgt := 40) hx hb dX4_replace_62 (by decide) ?_
        have e2 : (rf_lF fr d true (i + 1)) = (va_up (rf_lF fr d true i) (4 * d + i) true) := by first | rfl | (simp [h45]; done) | (simp [h45]; omega)
        exact ih40 (i + 1) ls H locs (by omega) (by omega) (lv_sub hl [0, 1, 2] rfl) (by rw [e2]; exact hP) (by rw [e2]; exact hD) hS
  have e3 : (rf_lF fr d true 0) = fr := by first | rfl | (simp []; done) | (simp []; omega)
  exact lp40 (n - 0 + 1) 0 ls H locs (by omega) (by omega) (lv_sub hl [0, 2, 1] rfl) (by rw [e3]; exact hP) (by rw [e3]; exact hD) hS

abbrev rm_c_mstripe0 : Room := { frames := 1, cells := 0, slots := 0, locals := 21 }
set_option maxHeartbeats 4000000 in
set_option maxRecDepth 100000 in
theorem c_mstripe0 (l : Launch) (dC : Nat → ClassId) (dI : Nat → Nat → Nat) (cI cB cQ cJ : ClassId) (aO : Nat) (bW : Nat) (bL : Nat) (bF : Nat) (bK : Nat) (bB : Nat) (bS : Nat) (bN : Nat) (bM : Nat) (th : Nat) (P : Nat) (n : Nat) (pw : Bool) (lf : Int32) (mz : Nat) (wd : Nat → Int32) (lo : Nat → Bool) (fr : Nat → Bool) (mk : Nat → Bool) (bt : Nat → Nat) (su : Nat → Int32) (kv : Nat → Int32) (mi : Nat → Nat) (x : Int32) (hp5 : dr_P P) (hn : n < 5) (hc : dr_in x n = false) : MG l yX4_stripe (Cond.code yX4_stripe cX4_stripe 2 (some .int) :: TB) rm_c_mstripe0 (dC, dI) vwCl (TY cI cB cQ cJ) [.ref aO, .int x] [(aO, .inr (4, [.int (nI th), .int (nI P), .int (nI n), .ref bW, .ref bL, .ref bF, .ref bK, .int (bI pw), .int lf, .ref bB, .ref bS, .ref bN, .ref bM, .int (nI mz)])), (bW, .inl (cI, 676, .inl wd)), (bL, .inl (cB, 13, .inl (fun z9 => bI (lo z9)))), (bF, .inl (cB, 52, .inl (fun z9 => bI (fr z9)))), (bK, .inl (cB, 4, .inl (fun z9 => bI (mk z9)))), (bB, .inl (cI, 26, .inl (fun z9 => nI (bt z9)))), (bS, .inl (cI, 26, .inl su)), (bN, .inl (cI, 26, .inl kv)), (bM, .inl (cI, 13, .inl (fun z9 => nI (mi z9))))] (fun (r : Int32) (u : Unit) => r = (-1)) (fun (u : Unit) => [(aO, .inr (4, [.int (nI 0), .int (nI P), .int (nI n), .ref bW, .ref bL, .ref bF, .ref bK, .int (bI pw), .int lf, .ref bB, .ref bS, .ref bN, .ref bM, .int (nI mz)])), (bW, .inl (cI, 676, .inl wd)), (bL, .inl (cB, 13, .inl (fun z9 => bI (lo z9)))), (bF, .inl (cB, 52, .inl (fun z9 => bI (fr z9)))), (bK, .inl (cB, 4, .inl (fun z9 => bI (mk z9)))), (bB, .inl (cI, 26, .inl (fun z9 => nI (bt z9)))), (bS, .inl (cI, 26, .inl su)), (bN, .inl (cI, 26, .inl kv)), (bM, .inl (cI, 13, .inl (fun z9 => nI (mi z9))))]) := by
  refine MG.ofW (cc := cX4_stripe) (maxL := 2) (rt := .int) (by decide +kernel) rfl (Nat.le_of_ble_eq_true rfl) ?_
  intro p e s m args below meth c A ls Q H locs hQ hx hb hml hr hlk hts hown hK hP hD hS hA hl
  have hts : ∀ w ∈ TB, w.before args s = true := fun w h => hts w (List.mem_cons_of_mem _ h)
  have hown : s.vm.findClass RX4 = some m.cls := hown
  have hl : lv_has ls 2 [(0, .ref aO), (1, .int x)] := hl
  have hP : va_P (dC, dI) vwCl [(aO, .inr (4, [.int (nI th), .int (nI P), .int (nI n), .ref bW, .ref bL, .ref bF, .ref bK, .int (bI pw), .int lf, .ref bB, .ref bS, .ref bN, .ref bM, .int (nI mz)])), (bW, .inl (cI, 676, .inl wd)), (bL, .inl (cB, 13, .inl (fun z9 => bI (lo z9)))), (bF, .inl (cB, 52, .inl (fun z9 => bI (fr z9)))), (bK, .inl (cB, 4, .inl (fun z9 => bI (mk z9)))), (bB, .inl (cI, 26, .inl (fun z9 => nI (bt z9)))), (bS, .inl (cI, 26, .inl su)), (bN, .inl (cI, 26, .inl kv)), (bM, .inl (cI, 13, .inl (fun z9 => nI (mi z9))))] H := hP
  have hD : va_D A [(aO, .inr (4, [.int (nI th), .int (nI P), .int (nI n), .ref bW, .ref bL, .ref bF, .ref bK, .int (bI pw), .int lf, .ref bB, .ref bS, .ref bN, .ref bM, .int (nI mz)])), (bW, .inl (cI, 676, .inl wd)), (bL, .inl (cB, 13, .inl (fun z9 => bI (lo z9)))), (bF, .inl (cB, 52, .inl (fun z9 => bI (fr z9)))), (bK, .inl (cB, 4, .inl (fun z9 => bI (mk z9)))), (bB, .inl (cI, 26, .inl (fun z9 => nI (bt z9)))), (bS, .inl (cI, 26, .inl su)), (bN, .inl (cI, 26, .inl kv)), (bM, .inl (cI, 13, .inl (fun z9 => nI (mi z9))))] := hD
  have hp := hp5.le
  have hpp := dr_PP hp5
  have hpq := dr_PP2 hp5
  refine lv_aload_n hx hb dX4_stripe_0 rfl (lv_at hl 0 rfl) ?_
  refine lv_iconst (v := nI 0) hx hb dX4_stripe_1 (by decide) ?_
  refine va_put (D := (dC, dI)) (ci := 4) (v := .int (nI 0)) (ty := .int) (C := RX4) (T := TX4) (N := 14) hx hb hts inX4 tyX4 tyX4_ok nmX4 hown hK hP hD hS 0 rfl rfl 0 (by decide) (hts _ t_fX4_49) (fun _ h9 => h9) rfl (by decide +kernel) rfl rfl (Nat.le_of_ble_eq_true rfl) dX4_stripe_2 (fun H locs hP hD hS => ?_)
  have hP : va_P (dC, dI) vwCl [(aO, .inr (4, [.int (nI 0), .int (nI P), .int (nI n), .ref bW, .ref bL, .ref bF, .ref bK, .int (bI pw), .int lf, .ref bB, .ref bS, .ref bN, .ref bM, .int (nI mz)])), (bW, .inl (cI, 676, .inl wd)), (bL, .inl (cB, 13, .inl (fun z9 => bI (lo z9)))), (bF, .inl (cB, 52, .inl (fun z9 => bI (fr z9)))), (bK, .inl (cB, 4, .inl (fun z9 => bI (mk z9)))), (bB, .inl (cI, 26, .inl (fun z9 => nI (bt z9)))), (bS, .inl (cI, 26, .inl su)), (bN, .inl (cI, 26, .inl kv)), (bM, .inl (cI, 13, .inl (fun z9 => nI (mi z9))))] H := hP
  have hD : va_D A [(aO, .inr (4, [.int (nI 0), .int (nI P), .int (nI n), .ref bW, .ref bL, .ref bF, .ref bK, .int (bI pw), .int lf, .ref bB, .ref bS, .ref bN, .ref bM, .int (nI mz)])), (bW, .inl (cI, 676, .inl wd)), (bL, .inl (cB, 13, .inl (fun z9 => bI (lo z9)))), (bF, .inl (cB, 52, .inl (fun z9 => bI (fr z9)))), (bK, .inl (cB, 4, .inl (fun z9 => bI (mk z9)))), (bB, .inl (cI, 26, .inl (fun z9 => nI (bt z9)))), (bS, .inl (cI, 26, .inl su)), (bN, .inl (cI, 26, .inl kv)), (bM, .inl (cI, 13, .inl (fun z9 => nI (mi z9))))] := hD
  refine lv_aload_n hx hb dX4_stripe_5 rfl (lv_at hl 0 rfl) ?_
  refine lv_iload_n hx hb dX4_stripe_6 rfl (lv_at hl 1 rfl) ?_
  refine gV (wr := []) (pre := [(aO, .inr (4, [.int (nI 0), .int (nI P), .int (nI n), .ref bW, .ref bL, .ref bF, .ref bK, .int (bI pw), .int lf, .ref bB, .ref bS, .ref bN, .ref bM, .int (nI mz)])), (bW, .inl (cI, 676, .inl wd)), (bL, .inl (cB, 13, .inl (fun z9 => bI (lo z9)))), (bF, .inl (cB, 52, .inl (fun z9 => bI (fr z9)))), (bK, .inl (cB, 4, .inl (fun z9 => bI (mk z9)))), (bB, .inl (cI, 26, .inl (fun z9 => nI (bt z9)))), (bS, .inl (cI, 26, .inl su)), (bN, .inl (cI, 26, .inl kv)), (bM, .inl (cI, 13, .inl (fun z9 => nI (mi z9))))]) (tl := []) (G := fun (u : Unit) => [(aO, .inr (4, [.int (nI 0), .int (nI P), .int (nI n), .ref bW, .ref bL, .ref bF, .ref bK, .int (bI pw), .int lf, .ref bB, .ref bS, .ref bN, .ref bM, .int (nI mz)])), (bW, .inl (cI, 676, .inl wd)), (bL, .inl (cB, 13, .inl (fun z9 => bI (lo z9)))), (bF, .inl (cB, 52, .inl (fun z9 => bI (fr z9)))), (bK, .inl (cB, 4, .inl (fun z9 => bI (mk z9)))), (bB, .inl (cI, 26, .inl (fun z9 => nI (bt z9)))), (bS, .inl (cI, 26, .inl su)), (bN, .inl (cI, 26, .inl kv)), (bM, .inl (cI, 13, .inl (fun z9 => nI (mi z9))))]) (b := aO) (As := [.int x]) (rst := []) ⟨hx, hb, hml, hown, hts⟩ (c_mStripe l dC dI cI cB cQ cJ aO bW bL bF bK bB bS bN bM 0 P n pw lf mz wd lo fr mk bt su kv mi x (by omega) (by omega)) (cwV 1 hts (gdV t_mX4_102 t_inst_X4_isStripe t_sel_X4_isStripe t_ini_X4 t_code_X4_isStripe) rfl rfl rfl (by decide +kernel) ⟨Nat.le_of_ble_eq_true rfl, Nat.le_of_ble_eq_true rfl⟩) hK hP hD hS hA [0, 1, 2, 3, 4, 5, 6, 7, 8] [] [0, 1, 2, 3, 4, 5, 6, 7, 8] rfl (by decide) (fun _ => rfl) (by decide) (ci := 4) rfl rfl rfl rfl hl.1 rfl (Nat.le_of_ble_eq_true rfl) dX4_stripe_7 ⟨Nat.zero_le _, Nat.zero_le _⟩ (fun r u H locs hu1 hP hD hS => ?_)
  have hr7 := hu1
  have hr7 : r = bI (dr_in x n) := hr7
  subst hr7
  have hP : va_P (dC, dI) vwCl [(aO, .inr (4, [.int (nI 0), .int (nI P), .int (nI n), .ref bW, .ref bL, .ref bF, .ref bK, .int (bI pw), .int lf, .ref bB, .ref bS, .ref bN, .ref bM, .int (nI mz)])), (bW, .inl (cI, 676, .inl wd)), (bL, .inl (cB, 13, .inl (fun z9 => bI (lo z9)))), (bF, .inl (cB, 52, .inl (fun z9 => bI (fr z9)))), (bK, .inl (cB, 4, .inl (fun z9 => bI (mk z9)))), (bB, .inl (cI, 26, .inl (fun z9 => nI (bt z9)))), (bS, .inl (cI, 26, .inl su)), (bN, .inl (cI, 26, .inl kv)), (bM, .inl (cI, 13, .inl (fun z9 => nI (mi z9))))] H := hP
  have hD : va_D A [(aO, .inr (4, [.int (nI 0), .int (nI P), .int (nI n), .ref bW, .ref bL, .ref bF, .ref bK, .int (bI pw), .int lf, .ref bB, .ref bS, .ref bN, .ref bM, .int (nI mz)])), (bW, .inl (cI, 676, .inl wd)), (bL, .inl (cB, 13, .inl (fun z9 => bI (lo z9)))), (bF, .inl (cB, 52, .inl (fun z9 => bI (fr z9)))), (bK, .inl (cB, 4, .inl (fun z9 => bI (mk z9)))), (bB, .inl (cI, 26, .inl (fun z9 => nI (bt z9)))), (bS, .inl (cI, 26, .inl su)), (bN, .inl (cI, 26, .inl kv)), (bM, .inl (cI, 13, .inl (fun z9 => nI (mi z9))))] := hD
  refine x_top (show bI (dr_in x n) = bI false from (congrArg bI hc)) ?_
  refine x_ifT (tgt := 17) hx hb dX4_stripe_10 (by decide) (fun z9 => by cases z9) (fun _ => ?_)
  refine lv_iconst (v := (-1)) hx hb dX4_stripe_13 (by decide) ?_
  refine lv_goto (tgt := 43) hx hb dX4_stripe_14 (by decide) ?_
  exact x_iret (D := (dC, dI)) (cl := vwCl) (A := A) () hQ hx hb hr hlk hP hD hS dX4_stripe_43 (by first | rfl | (simp []; done) | (simp []; omega))

abbrev rm_c_mstripe1 : Room := { frames := 1, cells := 0, slots := 0, locals := 21 }
set_option maxHeartbeats 4000000 in
set_option maxRecDepth 100000 in
theorem c_mstripe1 (l : Launch) (dC : Nat → ClassId) (dI : Nat → Nat → Nat) (cI cB cQ cJ : ClassId) (aO : Nat) (bW : Nat) (bL : Nat) (bF : Nat) (bK : Nat) (bB : Nat) (bS : Nat) (bN : Nat) (bM : Nat) (th : Nat) (P : Nat) (n : Nat) (pw : Bool) (lf : Int32) (mz : Nat) (wd : Nat → Int32) (lo : Nat → Bool) (fr : Nat → Bool) (mk : Nat → Bool) (bt : Nat → Nat) (su : Nat → Int32) (kv : Nat → Int32) (mi : Nat → Nat) (q : Nat) (hp5 : dr_P P) (hn : n < 5) (hq : q < n) (hc : mk q = false) : MG l yX4_stripe (Cond.code yX4_stripe cX4_stripe 2 (some .int) :: TB) rm_c_mstripe1 (dC, dI) vwCl (TY cI cB cQ cJ) [.ref aO, .int (nI q)] [(aO, .inr (4, [.int (nI th), .int (nI P), .int (nI n), .ref bW, .ref bL, .ref bF, .ref bK, .int (bI pw), .int lf, .ref bB, .ref bS, .ref bN, .ref bM, .int (nI mz)])), (bW, .inl (cI, 676, .inl wd)), (bL, .inl (cB, 13, .inl (fun z9 => bI (lo z9)))), (bF, .inl (cB, 52, .inl (fun z9 => bI (fr z9)))), (bK, .inl (cB, 4, .inl (fun z9 => bI (mk z9)))), (bB, .inl (cI, 26, .inl (fun z9 => nI (bt z9)))), (bS, .inl (cI, 26, .inl su)), (bN, .inl (cI, 26, .inl kv)), (bM, .inl (cI, 13, .inl (fun z9 => nI (mi z9))))] (fun (r : Int32) (u : Unit) => r = nI 0) (fun (u : Unit) => [(aO, .inr (4, [.int (nI 0), .int (nI P), .int (nI n), .ref bW, .ref bL, .ref bF, .ref bK, .int (bI pw), .int lf, .ref bB, .ref bS, .ref bN, .ref bM, .int (nI mz)])), (bW, .inl (cI, 676, .inl wd)), (bL, .inl (cB, 13, .inl (fun z9 => bI (lo z9)))), (bF, .inl (cB, 52, .inl (fun z9 => bI (fr z9)))), (bK, .inl (cB, 4, .inl (fun z9 => bI (mk z9)))), (bB, .inl (cI, 26, .inl (fun z9 => nI (bt z9)))), (bS, .inl (cI, 26, .inl su)), (bN, .inl (cI, 26, .inl kv)), (bM, .inl (cI, 13, .inl (fun z9 => nI (mi z9))))]) := by
  refine MG.ofW (cc := cX4_stripe) (maxL := 2) (rt := .int) (by decide +kernel) rfl (Nat.le_of_ble_eq_true rfl) ?_
  intro p e s m args below meth c A ls Q H locs hQ hx hb hml hr hlk hts hown hK hP hD hS hA hl
  have hts : ∀ w ∈ TB, w.before args s = true := fun w h => hts w (List.mem_cons_of_mem _ h)
  have hown : s.vm.findClass RX4 = some m.cls := hown
  have hl : lv_has ls 2 [(0, .ref aO), (1, .int (nI q))] := hl
  have hP : va_P (dC, dI) vwCl [(aO, .inr (4, [.int (nI th), .int (nI P), .int (nI n), .ref bW, .ref bL, .ref bF, .ref bK, .int (bI pw), .int lf, .ref bB, .ref bS, .ref bN, .ref bM, .int (nI mz)])), (bW, .inl (cI, 676, .inl wd)), (bL, .inl (cB, 13, .inl (fun z9 => bI (lo z9)))), (bF, .inl (cB, 52, .inl (fun z9 => bI (fr z9)))), (bK, .inl (cB, 4, .inl (fun z9 => bI (mk z9)))), (bB, .inl (cI, 26, .inl (fun z9 => nI (bt z9)))), (bS, .inl (cI, 26, .inl su)), (bN, .inl (cI, 26, .inl kv)), (bM, .inl (cI, 13, .inl (fun z9 => nI (mi z9))))] H := hP
  have hD : va_D A [(aO, .inr (4, [.int (nI th), .int (nI P), .int (nI n), .ref bW, .ref bL, .ref bF, .ref bK, .int (bI pw), .int lf, .ref bB, .ref bS, .ref bN, .ref bM, .int (nI mz)])), (bW, .inl (cI, 676, .inl wd)), (bL, .inl (cB, 13, .inl (fun z9 => bI (lo z9)))), (bF, .inl (cB, 52, .inl (fun z9 => bI (fr z9)))), (bK, .inl (cB, 4, .inl (fun z9 => bI (mk z9)))), (bB, .inl (cI, 26, .inl (fun z9 => nI (bt z9)))), (bS, .inl (cI, 26, .inl su)), (bN, .inl (cI, 26, .inl kv)), (bM, .inl (cI, 13, .inl (fun z9 => nI (mi z9))))] := hD
  have hp := hp5.le
  have hpp := dr_PP hp5
  have hpq := dr_PP2 hp5
  refine lv_aload_n hx hb dX4_stripe_0 rfl (lv_at hl 0 rfl) ?_
  refine lv_iconst (v := nI 0) hx hb dX4_stripe_1 (by decide) ?_
  refine va_put (D := (dC, dI)) (ci := 4) (v := .int (nI 0)) (ty := .int) (C := RX4) (T := TX4) (N := 14) hx hb hts inX4 tyX4 tyX4_ok nmX4 hown hK hP hD hS 0 rfl rfl 0 (by decide) (hts _ t_fX4_49) (fun _ h9 => h9) rfl (by decide +kernel) rfl rfl (Nat.le_of_ble_eq_true rfl) dX4_stripe_2 (fun H locs hP hD hS => ?_)
  have hP : va_P (dC, dI) vwCl [(aO, .inr (4, [.int (nI 0), .int (nI P), .int (nI n), .ref bW, .ref bL, .ref bF, .ref bK, .int (bI pw), .int lf, .ref bB, .ref bS, .ref bN, .ref bM, .int (nI mz)])), (bW, .inl (cI, 676, .inl wd)), (bL, .inl (cB, 13, .inl (fun z9 => bI (lo z9)))), (bF, .inl (cB, 52, .inl (fun z9 => bI (fr z9)))), (bK, .inl (cB, 4, .inl (fun z9 => bI (mk z9)))), (bB, .inl (cI, 26, .inl (fun z9 => nI (bt z9)))), (bS, .inl (cI, 26, .inl su)), (bN, .inl (cI, 26, .inl kv)), (bM, .inl (cI, 13, .inl (fun z9 => nI (mi z9))))] H := hP
  have hD : va_D A [(aO, .inr (4, [.int (nI 0), .int (nI P), .int (nI n), .ref bW, .ref bL, .ref bF, .ref bK, .int (bI pw), .int lf, .ref bB, .ref bS, .ref bN, .ref bM, .int (nI mz)])), (bW, .inl (cI, 676, .inl wd)), (bL, .inl (cB, 13, .inl (fun z9 => bI (lo z9)))), (bF, .inl (cB, 52, .inl (fun z9 => bI (fr z9)))), (bK, .inl (cB, 4, .inl (fun z9 => bI (mk z9)))), (bB, .inl (cI, 26, .inl (fun z9 => nI (bt z9)))), (bS, .inl (cI, 26, .inl su)), (bN, .inl (cI, 26, .inl kv)), (bM, .inl (cI, 13, .inl (fun z9 => nI (mi z9))))] := hD
  refine lv_aload_n hx hb dX4_stripe_5 rfl (lv_at hl 0 rfl) ?_
  refine lv_iload_n hx hb dX4_stripe_6 rfl (lv_at hl 1 rfl) ?_
  refine gV (wr := []) (pre := [(aO, .inr (4, [.int (nI 0), .int (nI P), .int (nI n), .ref bW, .ref bL, .ref bF, .ref bK, .int (bI pw), .int lf, .ref bB, .ref bS, .ref bN, .ref bM, .int (nI mz)])), (bW, .inl (cI, 676, .inl wd)), (bL, .inl (cB, 13, .inl (fun z9 => bI (lo z9)))), (bF, .inl (cB, 52, .inl (fun z9 => bI (fr z9)))), (bK, .inl (cB, 4, .inl (fun z9 => bI (mk z9)))), (bB, .inl (cI, 26, .inl (fun z9 => nI (bt z9)))), (bS, .inl (cI, 26, .inl su)), (bN, .inl (cI, 26, .inl kv)), (bM, .inl (cI, 13, .inl (fun z9 => nI (mi z9))))]) (tl := []) (G := fun (u : Unit) => [(aO, .inr (4, [.int (nI 0), .int (nI P), .int (nI n), .ref bW, .ref bL, .ref bF, .ref bK, .int (bI pw), .int lf, .ref bB, .ref bS, .ref bN, .ref bM, .int (nI mz)])), (bW, .inl (cI, 676, .inl wd)), (bL, .inl (cB, 13, .inl (fun z9 => bI (lo z9)))), (bF, .inl (cB, 52, .inl (fun z9 => bI (fr z9)))), (bK, .inl (cB, 4, .inl (fun z9 => bI (mk z9)))), (bB, .inl (cI, 26, .inl (fun z9 => nI (bt z9)))), (bS, .inl (cI, 26, .inl su)), (bN, .inl (cI, 26, .inl kv)), (bM, .inl (cI, 13, .inl (fun z9 => nI (mi z9))))]) (b := aO) (As := [.int (nI q)]) (rst := []) ⟨hx, hb, hml, hown, hts⟩ (c_mStripe l dC dI cI cB cQ cJ aO bW bL bF bK bB bS bN bM 0 P n pw lf mz wd lo fr mk bt su kv mi (nI q) (by omega) (by omega)) (cwV 1 hts (gdV t_mX4_102 t_inst_X4_isStripe t_sel_X4_isStripe t_ini_X4 t_code_X4_isStripe) rfl rfl rfl (by decide +kernel) ⟨Nat.le_of_ble_eq_true rfl, Nat.le_of_ble_eq_true rfl⟩) hK hP hD hS hA [0, 1, 2, 3, 4, 5, 6, 7, 8] [] [0, 1, 2, 3, 4, 5, 6, 7, 8] rfl (by decide) (fun _ => rfl) (by decide) (ci := 4) rfl rfl rfl rfl hl.1 rfl (Nat.le_of_ble_eq_true rfl) dX4_stripe_7 ⟨Nat.zero_le _, Nat.zero_le _⟩ (fun r u H locs hu1 hP hD hS => ?_)
  have hr7 := hu1
  have hr7 : r = bI (dr_in (nI q) n) := hr7
  subst hr7
  have hP : va_P (dC, dI) vwCl [(aO, .inr (4, [.int (nI 0), .int (nI P), .int (nI n), .ref bW, .ref bL, .ref bF, .ref bK, .int (bI pw), .int lf, .ref bB, .ref bS, .ref bN, .ref bM, .int (nI mz)])), (bW, .inl (cI, 676, .inl wd)), (bL, .inl (cB, 13, .inl (fun z9 => bI (lo z9)))), (bF, .inl (cB, 52, .inl (fun z9 => bI (fr z9)))), (bK, .inl (cB, 4, .inl (fun z9 => bI (mk z9)))), (bB, .inl (cI, 26, .inl (fun z9 => nI (bt z9)))), (bS, .inl (cI, 26, .inl su)), (bN, .inl (cI, 26, .inl kv)), (bM, .inl (cI, 13, .inl (fun z9 => nI (mi z9))))] H := hP
  have hD : va_D A [(aO, .inr (4, [.int (nI 0), .int (nI P), .int (nI n), .ref bW, .ref bL, .ref bF, .ref bK, .int (bI pw), .int lf, .ref bB, .ref bS, .ref bN, .ref bM, .int (nI mz)])), (bW, .inl (cI, 676, .inl wd)), (bL, .inl (cB, 13, .inl (fun z9 => bI (lo z9)))), (bF, .inl (cB, 52, .inl (fun z9 => bI (fr z9)))), (bK, .inl (cB, 4, .inl (fun z9 => bI (mk z9)))), (bB, .inl (cI, 26, .inl (fun z9 => nI (bt z9)))), (bS, .inl (cI, 26, .inl su)), (bN, .inl (cI, 26, .inl kv)), (bM, .inl (cI, 13, .inl (fun z9 => nI (mi z9))))] := hD
  refine x_top (show bI (dr_in (nI q) n) = bI true from (congrArg bI (dr_in_of (by omega) hq))) ?_
  refine x_ifT (tgt := 17) hx hb dX4_stripe_10 (by decide) (fun _ => ?_) (fun z9 => by cases z9)
  refine lv_aload_n hx hb dX4_stripe_17 rfl (lv_at hl 0 rfl) ?_
  refine va_get (D := (dC, dI)) (ci := 4) (v := .ref bK) (C := RX4) (T := TX4) (N := 14) hx hb hts inX4 hown hK hP 0 rfl rfl 6 (by decide) (hts _ t_fX4_20) (fun _ h9 => h9) rfl dX4_stripe_18 ?_
  refine lv_iload_n hx hb dX4_stripe_21 rfl (lv_at hl 1 rfl) ?_
  refine x_zald (g := mk) hx hb hK hP 4 1 rfl rfl dX4_stripe_22 (by omega) (by omega) ?_
  refine x_top (show bI (mk q) = bI false from (congrArg bI hc)) ?_
  refine x_ifT (tgt := 30) hx hb dX4_stripe_23 (by decide) (fun z9 => by cases z9) (fun _ => ?_)
  refine lv_iconst (v := nI 0) hx hb dX4_stripe_26 (by decide) ?_
  refine lv_goto (tgt := 43) hx hb dX4_stripe_27 (by decide) ?_
  exact x_iret (D := (dC, dI)) (cl := vwCl) (A := A) () hQ hx hb hr hlk hP hD hS dX4_stripe_43 (by first | rfl | (simp []; done) | (simp []; omega))

abbrev rm_c_mstripe2 : Room := { frames := 2, cells := 0, slots := 0, locals := 44 }
set_option maxHeartbeats 4000000 in
set_option maxRecDepth 100000 in
theorem c_mstripe2 (l : Launch) (dC : Nat → ClassId) (dI : Nat → Nat → Nat) (cI cB cQ cJ : ClassId) (aO : Nat) (bW : Nat) (bL : Nat) (bF : Nat) (bK : Nat) (bB : Nat) (bS : Nat) (bN : Nat) (bM : Nat) (th : Nat) (P : Nat) (n : Nat) (pw : Bool) (lf : Int32) (mz : Nat) (wd : Nat → Int32) (lo : Nat → Bool) (fr : Nat → Bool) (mk : Nat → Bool) (bt : Nat → Nat) (su : Nat → Int32) (kv : Nat → Int32) (mi : Nat → Nat) (q : Nat) (hp5 : dr_P P) (hn : n < 5) (hq : q < n) (hc : mk q = true) : MG l yX4_stripe (Cond.code yX4_stripe cX4_stripe 2 (some .int) :: TB) rm_c_mstripe2 (dC, dI) vwCl (TY cI cB cQ cJ) [.ref aO, .int (nI q)] [(aO, .inr (4, [.int (nI th), .int (nI P), .int (nI n), .ref bW, .ref bL, .ref bF, .ref bK, .int (bI pw), .int lf, .ref bB, .ref bS, .ref bN, .ref bM, .int (nI mz)])), (bW, .inl (cI, 676, .inl wd)), (bL, .inl (cB, 13, .inl (fun z9 => bI (lo z9)))), (bF, .inl (cB, 52, .inl (fun z9 => bI (fr z9)))), (bK, .inl (cB, 4, .inl (fun z9 => bI (mk z9)))), (bB, .inl (cI, 26, .inl (fun z9 => nI (bt z9)))), (bS, .inl (cI, 26, .inl su)), (bN, .inl (cI, 26, .inl kv)), (bM, .inl (cI, 13, .inl (fun z9 => nI (mi z9))))] (fun (r : Int32) (u : Unit) => r = nI (if 0 < dr_cnt (rf_g lo fr q) P then 2 else 1)) (fun (u : Unit) => [(aO, .inr (4, [.int (nI 0), .int (nI P), .int (nI n), .ref bW, .ref bL, .ref bF, .ref bK, .int (bI pw), .int lf, .ref bB, .ref bS, .ref bN, .ref bM, .int (nI (dr_cnt (rf_g lo fr q) P))])), (bW, .inl (cI, 676, .inl wd)), (bL, .inl (cB, 13, .inl (fun z9 => bI (lo z9)))), (bF, .inl (cB, 52, .inl (fun z9 => bI (fr z9)))), (bK, .inl (cB, 4, .inl (fun z9 => bI (mk z9)))), (bB, .inl (cI, 26, .inl (fun z9 => nI (bt z9)))), (bS, .inl (cI, 26, .inl su)), (bN, .inl (cI, 26, .inl kv)), (bM, .inl (cI, 13, .inl (fun z9 => nI ((rf_mi (rf_g lo fr q) mi P) z9))))]) := by
  refine MG.ofW (cc := cX4_stripe) (maxL := 2) (rt := .int) (by decide +kernel) rfl (Nat.le_of_ble_eq_true rfl) ?_
  intro p e s m args below meth c A ls Q H locs hQ hx hb hml hr hlk hts hown hK hP hD hS hA hl
  have hts : ∀ w ∈ TB, w.before args s = true := fun w h => hts w (List.mem_cons_of_mem _ h)
  have hown : s.vm.findClass RX4 = some m.cls := hown
  have hl : lv_has ls 2 [(0, .ref aO), (1, .int (nI q))] := hl
  have hP : va_P (dC, dI) vwCl [(aO, .inr (4, [.int (nI th), .int (nI P), .int (nI n), .ref bW, .ref bL, .ref bF, .ref bK, .int (bI pw), .int lf, .ref bB, .ref bS, .ref bN, .ref bM, .int (nI mz)])), (bW, .inl (cI, 676, .inl wd)), (bL, .inl (cB, 13, .inl (fun z9 => bI (lo z9)))), (bF, .inl (cB, 52, .inl (fun z9 => bI (fr z9)))), (bK, .inl (cB, 4, .inl (fun z9 => bI (mk z9)))), (bB, .inl (cI, 26, .inl (fun z9 => nI (bt z9)))), (bS, .inl (cI, 26, .inl su)), (bN, .inl (cI, 26, .inl kv)), (bM, .inl (cI, 13, .inl (fun z9 => nI (mi z9))))] H := hP
  have hD : va_D A [(aO, .inr (4, [.int (nI th), .int (nI P), .int (nI n), .ref bW, .ref bL, .ref bF, .ref bK, .int (bI pw), .int lf, .ref bB, .ref bS, .ref bN, .ref bM, .int (nI mz)])), (bW, .inl (cI, 676, .inl wd)), (bL, .inl (cB, 13, .inl (fun z9 => bI (lo z9)))), (bF, .inl (cB, 52, .inl (fun z9 => bI (fr z9)))), (bK, .inl (cB, 4, .inl (fun z9 => bI (mk z9)))), (bB, .inl (cI, 26, .inl (fun z9 => nI (bt z9)))), (bS, .inl (cI, 26, .inl su)), (bN, .inl (cI, 26, .inl kv)), (bM, .inl (cI, 13, .inl (fun z9 => nI (mi z9))))] := hD
  have hp := hp5.le
  have hpp := dr_PP hp5
  have hpq := dr_PP2 hp5
  have hcl := dr_cnt_le (g := rf_g lo fr q) P
  refine lv_aload_n hx hb dX4_stripe_0 rfl (lv_at hl 0 rfl) ?_
  refine lv_iconst (v := nI 0) hx hb dX4_stripe_1 (by decide) ?_
  refine va_put (D := (dC, dI)) (ci := 4) (v := .int (nI 0)) (ty := .int) (C := RX4) (T := TX4) (N := 14) hx hb hts inX4 tyX4 tyX4_ok nmX4 hown hK hP hD hS 0 rfl rfl 0 (by decide) (hts _ t_fX4_49) (fun _ h9 => h9) rfl (by decide +kernel) rfl rfl (Nat.le_of_ble_eq_true rfl) dX4_stripe_2 (fun H locs hP hD hS => ?_)
  have hP : va_P (dC, dI) vwCl [(aO, .inr (4, [.int (nI 0), .int (nI P), .int (nI n), .ref bW, .ref bL, .ref bF, .ref bK, .int (bI pw), .int lf, .ref bB, .ref bS, .ref bN, .ref bM, .int (nI mz)])), (bW, .inl (cI, 676, .inl wd)), (bL, .inl (cB, 13, .inl (fun z9 => bI (lo z9)))), (bF, .inl (cB, 52, .inl (fun z9 => bI (fr z9)))), (bK, .inl (cB, 4, .inl (fun z9 => bI (mk z9)))), (bB, .inl (cI, 26, .inl (fun z9 => nI (bt z9)))), (bS, .inl (cI, 26, .inl su)), (bN, .inl (cI, 26, .inl kv)), (bM, .inl (cI, 13, .inl (fun z9 => nI (mi z9))))] H := hP
  have hD : va_D A [(aO, .inr (4, [.int (nI 0), .int (nI P), .int (nI n), .ref bW, .ref bL, .ref bF, .ref bK, .int (bI pw), .int lf, .ref bB, .ref bS, .ref bN, .ref bM, .int (nI mz)])), (bW, .inl (cI, 676, .inl wd)), (bL, .inl (cB, 13, .inl (fun z9 => bI (lo z9)))), (bF, .inl (cB, 52, .inl (fun z9 => bI (fr z9)))), (bK, .inl (cB, 4, .inl (fun z9 => bI (mk z9)))), (bB, .inl (cI, 26, .inl (fun z9 => nI (bt z9)))), (bS, .inl (cI, 26, .inl su)), (bN, .inl (cI, 26, .inl kv)), (bM, .inl (cI, 13, .inl (fun z9 => nI (mi z9))))] := hD
  refine lv_aload_n hx hb dX4_stripe_5 rfl (lv_at hl 0 rfl) ?_
  refine lv_iload_n hx hb dX4_stripe_6 rfl (lv_at hl 1 rfl) ?_
  refine gV (wr := []) (pre := [(aO, .inr (4, [.int (nI 0), .int (nI P), .int (nI n), .ref bW, .ref bL, .ref bF, .ref bK, .int (bI pw), .int lf, .ref bB, .ref bS, .ref bN, .ref bM, .int (nI mz)])), (bW, .inl (cI, 676, .inl wd)), (bL, .inl (cB, 13, .inl (fun z9 => bI (lo z9)))), (bF, .inl (cB, 52, .inl (fun z9 => bI (fr z9)))), (bK, .inl (cB, 4, .inl (fun z9 => bI (mk z9)))), (bB, .inl (cI, 26, .inl (fun z9 => nI (bt z9)))), (bS, .inl (cI, 26, .inl su)), (bN, .inl (cI, 26, .inl kv)), (bM, .inl (cI, 13, .inl (fun z9 => nI (mi z9))))]) (tl := []) (G := fun (u : Unit) => [(aO, .inr (4, [.int (nI 0), .int (nI P), .int (nI n), .ref bW, .ref bL, .ref bF, .ref bK, .int (bI pw), .int lf, .ref bB, .ref bS, .ref bN, .ref bM, .int (nI mz)])), (bW, .inl (cI, 676, .inl wd)), (bL, .inl (cB, 13, .inl (fun z9 => bI (lo z9)))), (bF, .inl (cB, 52, .inl (fun z9 => bI (fr z9)))), (bK, .inl (cB, 4, .inl (fun z9 => bI (mk z9)))), (bB, .inl (cI, 26, .inl (fun z9 => nI (bt z9)))), (bS, .inl (cI, 26, .inl su)), (bN, .inl (cI, 26, .inl kv)), (bM, .inl (cI, 13, .inl (fun z9 => nI (mi z9))))]) (b := aO) (As := [.int (nI q)]) (rst := []) ⟨hx, hb, hml, hown, hts⟩ (c_mStripe l dC dI cI cB cQ cJ aO bW bL bF bK bB bS bN bM 0 P n pw lf mz wd lo fr mk bt su kv mi (nI q) (by omega) (by omega)) (cwV 1 hts (gdV t_mX4_102 t_inst_X4_isStripe t_sel_X4_isStripe t_ini_X4 t_code_X4_isStripe) rfl rfl rfl (by decide +kernel) ⟨Nat.le_of_ble_eq_true rfl, Nat.le_of_ble_eq_true rfl⟩) hK hP hD hS hA [0, 1, 2, 3, 4, 5, 6, 7, 8] [] [0, 1, 2, 3, 4, 5, 6, 7, 8] rfl (by decide) (fun _ => rfl) (by decide) (ci := 4) rfl rfl rfl rfl hl.1 rfl (Nat.le_of_ble_eq_true rfl) dX4_stripe_7 ⟨Nat.zero_le _, Nat.zero_le _⟩ (fun r u H locs hu1 hP hD hS => ?_)
  have hr7 := hu1
  have hr7 : r = bI (dr_in (nI q) n) := hr7
  subst hr7
  have hP : va_P (dC, dI) vwCl [(aO, .inr (4, [.int (nI 0), .int (nI P), .int (nI n), .ref bW, .ref bL, .ref bF, .ref bK, .int (bI pw), .int lf, .ref bB, .ref bS, .ref bN, .ref bM, .int (nI mz)])), (bW, .inl (cI, 676, .inl wd)), (bL, .inl (cB, 13, .inl (fun z9 => bI (lo z9)))), (bF, .inl (cB, 52, .inl (fun z9 => bI (fr z9)))), (bK, .inl (cB, 4, .inl (fun z9 => bI (mk z9)))), (bB, .inl (cI, 26, .inl (fun z9 => nI (bt z9)))), (bS, .inl (cI, 26, .inl su)), (bN, .inl (cI, 26, .inl kv)), (bM, .inl (cI, 13, .inl (fun z9 => nI (mi z9))))] H := hP
  have hD : va_D A [(aO, .inr (4, [.int (nI 0), .int (nI P), .int (nI n), .ref bW, .ref bL, .ref bF, .ref bK, .int (bI pw), .int lf, .ref bB, .ref bS, .ref bN, .ref bM, .int (nI mz)])), (bW, .inl (cI, 676, .inl wd)), (bL, .inl (cB, 13, .inl (fun z9 => bI (lo z9)))), (bF, .inl (cB, 52, .inl (fun z9 => bI (fr z9)))), (bK, .inl (cB, 4, .inl (fun z9 => bI (mk z9)))), (bB, .inl (cI, 26, .inl (fun z9 => nI (bt z9)))), (bS, .inl (cI, 26, .inl su)), (bN, .inl (cI, 26, .inl kv)), (bM, .inl (cI, 13, .inl (fun z9 => nI (mi z9))))] := hD
  refine x_top (show bI (dr_in (nI q) n) = bI true from (congrArg bI (dr_in_of (by omega) hq))) ?_
  refine x_ifT (tgt := 17) hx hb dX4_stripe_10 (by decide) (fun _ => ?_) (fun z9 => by cases z9)
  refine lv_aload_n hx hb dX4_stripe_17 rfl (lv_at hl 0 rfl) ?_
  refine va_get (D := (dC, dI)) (ci := 4) (v := .ref bK) (C := RX4) (T := TX4) (N := 14) hx hb hts inX4 hown hK hP 0 rfl rfl 6 (by decide) (hts _ t_fX4_20) (fun _ h9 => h9) rfl dX4_stripe_18 ?_
  refine lv_iload_n hx hb dX4_stripe_21 rfl (lv_at hl 1 rfl) ?_
  refine x_zald (g := mk) hx hb hK hP 4 1 rfl rfl dX4_stripe_22 (by omega) (by omega) ?_
  refine x_top (show bI (mk q) = bI true from (congrArg bI hc)) ?_
  refine x_ifT (tgt := 30) hx hb dX4_stripe_23 (by decide) (fun _ => ?_) (fun z9 => by cases z9)
  refine lv_aload_n hx hb dX4_stripe_30 rfl (lv_at hl 0 rfl) ?_
  refine lv_iload_n hx hb dX4_stripe_31 rfl (lv_at hl 1 rfl) ?_
  refine gV (wr := []) (pre := [(aO, .inr (4, [.int (nI 0), .int (nI P), .int (nI n), .ref bW, .ref bL, .ref bF, .ref bK, .int (bI pw), .int lf, .ref bB, .ref bS, .ref bN, .ref bM, .int (nI mz)])), (bW, .inl (cI, 676, .inl wd)), (bL, .inl (cB, 13, .inl (fun z9 => bI (lo z9)))), (bF, .inl (cB, 52, .inl (fun z9 => bI (fr z9)))), (bK, .inl (cB, 4, .inl (fun z9 => bI (mk z9)))), (bB, .inl (cI, 26, .inl (fun z9 => nI (bt z9)))), (bS, .inl (cI, 26, .inl su)), (bN, .inl (cI, 26, .inl kv)), (bM, .inl (cI, 13, .inl (fun z9 => nI (mi z9))))]) (tl := []) (G := fun (u : Unit) => [(aO, .inr (4, [.int (nI 0), .int (nI P), .int (nI n), .ref bW, .ref bL, .ref bF, .ref bK, .int (bI pw), .int lf, .ref bB, .ref bS, .ref bN, .ref bM, .int (nI (dr_cnt (rf_g lo fr q) P))])), (bW, .inl (cI, 676, .inl wd)), (bL, .inl (cB, 13, .inl (fun z9 => bI (lo z9)))), (bF, .inl (cB, 52, .inl (fun z9 => bI (fr z9)))), (bK, .inl (cB, 4, .inl (fun z9 => bI (mk z9)))), (bB, .inl (cI, 26, .inl (fun z9 => nI (bt z9)))), (bS, .inl (cI, 26, .inl su)), (bN, .inl (cI, 26, .inl kv)), (bM, .inl (cI, 13, .inl (fun z9 => nI ((rf_mi (rf_g lo fr q) mi P) z9))))]) (b := aO) (As := [.int (nI q)]) (rst := []) ⟨hx, hb, hml, hown, hts⟩ (c_missing l dC dI cI cB cQ cJ aO bW bL bF bK bB bS bN bM 0 P n pw lf mz wd lo fr mk bt su kv mi q hp5 (by omega) (by omega)) (cwV 1 hts (gdV t_mX4_63 t_inst_X4_missing t_sel_X4_missing t_ini_X4 t_code_X4_missing) rfl rfl rfl (by decide +kernel) ⟨Nat.le_of_ble_eq_true rfl, Nat.le_of_ble_eq_true rfl⟩) hK hP hD hS hA [0, 1, 2, 3, 4, 5, 6, 7, 8] [] [0, 1, 2, 3, 4, 5, 6, 7, 8] rfl (by decide) (fun _ => rfl) (by decide) (ci := 4) rfl rfl rfl rfl hl.1 rfl (Nat.le_of_ble_eq_true rfl) dX4_stripe_32 ⟨Nat.zero_le _, Nat.zero_le _⟩ (fun r u H locs hu2 hP hD hS => ?_)
  have hr32 := hu2
  have hr32 : r = nI (dr_cnt (rf_g lo fr q) P) := hr32
  subst hr32
  have hP : va_P (dC, dI) vwCl [(aO, .inr (4, [.int (nI 0), .int (nI P), .int (nI n), .ref bW, .ref bL, .ref bF, .ref bK, .int (bI pw), .int lf, .ref bB, .ref bS, .ref bN, .ref bM, .int (nI (dr_cnt (rf_g lo fr q) P))])), (bW, .inl (cI, 676, .inl wd)), (bL, .inl (cB, 13, .inl (fun z9 => bI (lo z9)))), (bF, .inl (cB, 52, .inl (fun z9 => bI (fr z9)))), (bK, .inl (cB, 4, .inl (fun z9 => bI (mk z9)))), (bB, .inl (cI, 26, .inl (fun z9 => nI (bt z9)))), (bS, .inl (cI, 26, .inl su)), (bN, .inl (cI, 26, .inl kv)), (bM, .inl (cI, 13, .inl (fun z9 => nI ((rf_mi (rf_g lo fr q) mi P) z9))))] H := hP
  have hD : va_D A [(aO, .inr (4, [.int (nI 0), .int (nI P), .int (nI n), .ref bW, .ref bL, .ref bF, .ref bK, .int (bI pw), .int lf, .ref bB, .ref bS, .ref bN, .ref bM, .int (nI (dr_cnt (rf_g lo fr q) P))])), (bW, .inl (cI, 676, .inl wd)), (bL, .inl (cB, 13, .inl (fun z9 => bI (lo z9)))), (bF, .inl (cB, 52, .inl (fun z9 => bI (fr z9)))), (bK, .inl (cB, 4, .inl (fun z9 => bI (mk z9)))), (bB, .inl (cI, 26, .inl (fun z9 => nI (bt z9)))), (bS, .inl (cI, 26, .inl su)), (bN, .inl (cI, 26, .inl kv)), (bM, .inl (cI, 13, .inl (fun z9 => nI ((rf_mi (rf_g lo fr q) mi P) z9))))] := hD
  refine x_lez (tgt := 42) hx hb dX4_stripe_35 (by decide) (by omega) (fun h35 => ?_) (fun h35 => ?_)
  · -- 35t
    refine lv_iconst (v := nI 1) hx hb dX4_stripe_42 (by decide) ?_
    exact x_iret (D := (dC, dI)) (cl := vwCl) (A := A) () hQ hx hb hr hlk hP hD hS dX4_stripe_43 (by first | rfl | (simp [h35]; done) | (simp [h35]; omega))
  · -- 35f
    refine lv_iconst (v := nI 2) hx hb dX4_stripe_38 (by decide) ?_
    refine lv_goto (tgt := 43) hx hb dX4_stripe_39 (by decide) ?_
    exact x_iret (D := (dC, dI)) (cl := vwCl) (A := A) () hQ hx hb hr hlk hP hD hS dX4_stripe_43 (by first | rfl | (simp [h35]; done) | (simp [h35]; omega))

abbrev rm_c_mword0 : Room := { frames := 1, cells := 0, slots := 0, locals := 21 }
set_option maxHeartbeats 4000000 in
set_option maxRecDepth 100000 in
theorem c_mword0 (l : Launch) (dC : Nat → ClassId) (dI : Nat → Nat → Nat) (cI cB cQ cJ : ClassId) (aO : Nat) (bW : Nat) (bL : Nat) (bF : Nat) (bK : Nat) (bB : Nat) (bS : Nat) (bN : Nat) (bM : Nat) (th : Nat) (P : Nat) (n : Nat) (pw : Bool) (lf : Int32) (mz : Nat) (wd : Nat → Int32) (lo : Nat → Bool) (fr : Nat → Bool) (mk : Nat → Bool) (bt : Nat → Nat) (su : Nat → Int32) (kv : Nat → Int32) (mi : Nat → Nat) (x : Int32) (y : Int32) (z : Int32) (hp5 : dr_P P) (hn : n < 5) (hc : ¬ (dr_in x P = true ∧ dr_in y n = true ∧ dr_in z P = true)) : MG l yX4_word (Cond.code yX4_word cX4_word 4 (some .int) :: TB) rm_c_mword0 (dC, dI) vwCl (TY cI cB cQ cJ) [.ref aO, .int x, .int y, .int z] [(aO, .inr (4, [.int (nI th), .int (nI P), .int (nI n), .ref bW, .ref bL, .ref bF, .ref bK, .int (bI pw), .int lf, .ref bB, .ref bS, .ref bN, .ref bM, .int (nI mz)])), (bW, .inl (cI, 676, .inl wd)), (bL, .inl (cB, 13, .inl (fun z9 => bI (lo z9)))), (bF, .inl (cB, 52, .inl (fun z9 => bI (fr z9)))), (bK, .inl (cB, 4, .inl (fun z9 => bI (mk z9)))), (bB, .inl (cI, 26, .inl (fun z9 => nI (bt z9)))), (bS, .inl (cI, 26, .inl su)), (bN, .inl (cI, 26, .inl kv)), (bM, .inl (cI, 13, .inl (fun z9 => nI (mi z9))))] (fun (r : Int32) (u : Unit) => r = 0) (fun (u : Unit) => [(aO, .inr (4, [.int (nI 0), .int (nI P), .int (nI n), .ref bW, .ref bL, .ref bF, .ref bK, .int (bI pw), .int lf, .ref bB, .ref bS, .ref bN, .ref bM, .int (nI mz)])), (bW, .inl (cI, 676, .inl wd)), (bL, .inl (cB, 13, .inl (fun z9 => bI (lo z9)))), (bF, .inl (cB, 52, .inl (fun z9 => bI (fr z9)))), (bK, .inl (cB, 4, .inl (fun z9 => bI (mk z9)))), (bB, .inl (cI, 26, .inl (fun z9 => nI (bt z9)))), (bS, .inl (cI, 26, .inl su)), (bN, .inl (cI, 26, .inl kv)), (bM, .inl (cI, 13, .inl (fun z9 => nI (mi z9))))]) := by
  refine MG.ofW (cc := cX4_word) (maxL := 4) (rt := .int) (by decide +kernel) rfl (Nat.le_of_ble_eq_true rfl) ?_
  intro p e s m args below meth c A ls Q H locs hQ hx hb hml hr hlk hts hown hK hP hD hS hA hl
  have hts : ∀ w ∈ TB, w.before args s = true := fun w h => hts w (List.mem_cons_of_mem _ h)
  have hown : s.vm.findClass RX4 = some m.cls := hown
  have hl : lv_has ls 4 [(0, .ref aO), (1, .int x), (2, .int y), (3, .int z)] := hl
  have hP : va_P (dC, dI) vwCl [(aO, .inr (4, [.int (nI th), .int (nI P), .int (nI n), .ref bW, .ref bL, .ref bF, .ref bK, .int (bI pw), .int lf, .ref bB, .ref bS, .ref bN, .ref bM, .int (nI mz)])), (bW, .inl (cI, 676, .inl wd)), (bL, .inl (cB, 13, .inl (fun z9 => bI (lo z9)))), (bF, .inl (cB, 52, .inl (fun z9 => bI (fr z9)))), (bK, .inl (cB, 4, .inl (fun z9 => bI (mk z9)))), (bB, .inl (cI, 26, .inl (fun z9 => nI (bt z9)))), (bS, .inl (cI, 26, .inl su)), (bN, .inl (cI, 26, .inl kv)), (bM, .inl (cI, 13, .inl (fun z9 => nI (mi z9))))] H := hP
  have hD : va_D A [(aO, .inr (4, [.int (nI th), .int (nI P), .int (nI n), .ref bW, .ref bL, .ref bF, .ref bK, .int (bI pw), .int lf, .ref bB, .ref bS, .ref bN, .ref bM, .int (nI mz)])), (bW, .inl (cI, 676, .inl wd)), (bL, .inl (cB, 13, .inl (fun z9 => bI (lo z9)))), (bF, .inl (cB, 52, .inl (fun z9 => bI (fr z9)))), (bK, .inl (cB, 4, .inl (fun z9 => bI (mk z9)))), (bB, .inl (cI, 26, .inl (fun z9 => nI (bt z9)))), (bS, .inl (cI, 26, .inl su)), (bN, .inl (cI, 26, .inl kv)), (bM, .inl (cI, 13, .inl (fun z9 => nI (mi z9))))] := hD
  have hp := hp5.le
  have hpp := dr_PP hp5
  have hpq := dr_PP2 hp5
  refine lv_aload_n hx hb dX4_word_0 rfl (lv_at hl 0 rfl) ?_
  refine lv_iconst (v := nI 0) hx hb dX4_word_1 (by decide) ?_
  refine va_put (D := (dC, dI)) (ci := 4) (v := .int (nI 0)) (ty := .int) (C := RX4) (T := TX4) (N := 14) hx hb hts inX4 tyX4 tyX4_ok nmX4 hown hK hP hD hS 0 rfl rfl 0 (by decide) (hts _ t_fX4_49) (fun _ h9 => h9) rfl (by decide +kernel) rfl rfl (Nat.le_of_ble_eq_true rfl) dX4_word_2 (fun H locs hP hD hS => ?_)
  have hP : va_P (dC, dI) vwCl [(aO, .inr (4, [.int (nI 0), .int (nI P), .int (nI n), .ref bW, .ref bL, .ref bF, .ref bK, .int (bI pw), .int lf, .ref bB, .ref bS, .ref bN, .ref bM, .int (nI mz)])), (bW, .inl (cI, 676, .inl wd)), (bL, .inl (cB, 13, .inl (fun z9 => bI (lo z9)))), (bF, .inl (cB, 52, .inl (fun z9 => bI (fr z9)))), (bK, .inl (cB, 4, .inl (fun z9 => bI (mk z9)))), (bB, .inl (cI, 26, .inl (fun z9 => nI (bt z9)))), (bS, .inl (cI, 26, .inl su)), (bN, .inl (cI, 26, .inl kv)), (bM, .inl (cI, 13, .inl (fun z9 => nI (mi z9))))] H := hP
  have hD : va_D A [(aO, .inr (4, [.int (nI 0), .int (nI P), .int (nI n), .ref bW, .ref bL, .ref bF, .ref bK, .int (bI pw), .int lf, .ref bB, .ref bS, .ref bN, .ref bM, .int (nI mz)])), (bW, .inl (cI, 676, .inl wd)), (bL, .inl (cB, 13, .inl (fun z9 => bI (lo z9)))), (bF, .inl (cB, 52, .inl (fun z9 => bI (fr z9)))), (bK, .inl (cB, 4, .inl (fun z9 => bI (mk z9)))), (bB, .inl (cI, 26, .inl (fun z9 => nI (bt z9)))), (bS, .inl (cI, 26, .inl su)), (bN, .inl (cI, 26, .inl kv)), (bM, .inl (cI, 13, .inl (fun z9 => nI (mi z9))))] := hD
  refine lv_aload_n hx hb dX4_word_5 rfl (lv_at hl 0 rfl) ?_
  refine lv_iload_n hx hb dX4_word_6 rfl (lv_at hl 1 rfl) ?_
  refine gV (wr := []) (pre := [(aO, .inr (4, [.int (nI 0), .int (nI P), .int (nI n), .ref bW, .ref bL, .ref bF, .ref bK, .int (bI pw), .int lf, .ref bB, .ref bS, .ref bN, .ref bM, .int (nI mz)])), (bW, .inl (cI, 676, .inl wd)), (bL, .inl (cB, 13, .inl (fun z9 => bI (lo z9)))), (bF, .inl (cB, 52, .inl (fun z9 => bI (fr z9)))), (bK, .inl (cB, 4, .inl (fun z9 => bI (mk z9)))), (bB, .inl (cI, 26, .inl (fun z9 => nI (bt z9)))), (bS, .inl (cI, 26, .inl su)), (bN, .inl (cI, 26, .inl kv)), (bM, .inl (cI, 13, .inl (fun z9 => nI (mi z9))))]) (tl := []) (G := fun (u : Unit) => [(aO, .inr (4, [.int (nI 0), .int (nI P), .int (nI n), .ref bW, .ref bL, .ref bF, .ref bK, .int (bI pw), .int lf, .ref bB, .ref bS, .ref bN, .ref bM, .int (nI mz)])), (bW, .inl (cI, 676, .inl wd)), (bL, .inl (cB, 13, .inl (fun z9 => bI (lo z9)))), (bF, .inl (cB, 52, .inl (fun z9 => bI (fr z9)))), (bK, .inl (cB, 4, .inl (fun z9 => bI (mk z9)))), (bB, .inl (cI, 26, .inl (fun z9 => nI (bt z9)))), (bS, .inl (cI, 26, .inl su)), (bN, .inl (cI, 26, .inl kv)), (bM, .inl (cI, 13, .inl (fun z9 => nI (mi z9))))]) (b := aO) (As := [.int x]) (rst := []) ⟨hx, hb, hml, hown, hts⟩ (c_mDrive l dC dI cI cB cQ cJ aO bW bL bF bK bB bS bN bM 0 P n pw lf mz wd lo fr mk bt su kv mi x (by omega) (by omega)) (cwV 1 hts (gdV t_mX4_93 t_inst_X4_isDrive t_sel_X4_isDrive t_ini_X4 t_code_X4_isDrive) rfl rfl rfl (by decide +kernel) ⟨Nat.le_of_ble_eq_true rfl, Nat.le_of_ble_eq_true rfl⟩) hK hP hD hS hA [0, 1, 2, 3, 4, 5, 6, 7, 8] [] [0, 1, 2, 3, 4, 5, 6, 7, 8] rfl (by decide) (fun _ => rfl) (by decide) (ci := 4) rfl rfl rfl rfl hl.1 rfl (Nat.le_of_ble_eq_true rfl) dX4_word_7 ⟨Nat.zero_le _, Nat.zero_le _⟩ (fun r u H locs hu1 hP hD hS => ?_)
  have hr7 := hu1
  have hr7 : r = bI (dr_in x P) := hr7
  subst hr7
  have hP : va_P (dC, dI) vwCl [(aO, .inr (4, [.int (nI 0), .int (nI P), .int (nI n), .ref bW, .ref bL, .ref bF, .ref bK, .int (bI pw), .int lf, .ref bB, .ref bS, .ref bN, .ref bM, .int (nI mz)])), (bW, .inl (cI, 676, .inl wd)), (bL, .inl (cB, 13, .inl (fun z9 => bI (lo z9)))), (bF, .inl (cB, 52, .inl (fun z9 => bI (fr z9)))), (bK, .inl (cB, 4, .inl (fun z9 => bI (mk z9)))), (bB, .inl (cI, 26, .inl (fun z9 => nI (bt z9)))), (bS, .inl (cI, 26, .inl su)), (bN, .inl (cI, 26, .inl kv)), (bM, .inl (cI, 13, .inl (fun z9 => nI (mi z9))))] H := hP
  have hD : va_D A [(aO, .inr (4, [.int (nI 0), .int (nI P), .int (nI n), .ref bW, .ref bL, .ref bF, .ref bK, .int (bI pw), .int lf, .ref bB, .ref bS, .ref bN, .ref bM, .int (nI mz)])), (bW, .inl (cI, 676, .inl wd)), (bL, .inl (cB, 13, .inl (fun z9 => bI (lo z9)))), (bF, .inl (cB, 52, .inl (fun z9 => bI (fr z9)))), (bK, .inl (cB, 4, .inl (fun z9 => bI (mk z9)))), (bB, .inl (cI, 26, .inl (fun z9 => nI (bt z9)))), (bS, .inl (cI, 26, .inl su)), (bN, .inl (cI, 26, .inl kv)), (bM, .inl (cI, 13, .inl (fun z9 => nI (mi z9))))] := hD
  refine x_ifF (tgt := 47) hx hb dX4_word_10 (by decide) (fun h10 => ?_) (fun h10 => ?_)
  · -- 10t
    refine lv_iconst (v := 0) hx hb dX4_word_47 (by decide) ?_
    exact x_iret (D := (dC, dI)) (cl := vwCl) (A := A) () hQ hx hb hr hlk hP hD hS dX4_word_48 (by first | rfl | (simp [h10]; done) | (simp [h10]; omega))
  · -- 10f
    refine lv_aload_n hx hb dX4_word_13 rfl (lv_at hl 0 rfl) ?_
    refine lv_iload_n hx hb dX4_word_14 rfl (lv_at hl 2 rfl) ?_
    refine gV (wr := []) (pre := [(aO, .inr (4, [.int (nI 0), .int (nI P), .int (nI n), .ref bW, .ref bL, .ref bF, .ref bK, .int (bI pw), .int lf, .ref bB, .ref bS, .ref bN, .ref bM, .int (nI mz)])), (bW, .inl (cI, 676, .inl wd)), (bL, .inl (cB, 13, .inl (fun z9 => bI (lo z9)))), (bF, .inl (cB, 52, .inl (fun z9 => bI (fr z9)))), (bK, .inl (cB, 4, .inl (fun z9 => bI (mk z9)))), (bB, .inl (cI, 26, .inl (fun z9 => nI (bt z9)))), (bS, .inl (cI, 26, .inl su)), (bN, .inl (cI, 26, .inl kv)), (bM, .inl (cI, 13, .inl (fun z9 => nI (mi z9))))]) (tl := []) (G := fun (u : Unit) => [(aO, .inr (4, [.int (nI 0), .int (nI P), .int (nI n), .ref bW, .ref bL, .ref bF, .ref bK, .int (bI pw), .int lf, .ref bB, .ref bS, .ref bN, .ref bM, .int (nI mz)])), (bW, .inl (cI, 676, .inl wd)), (bL, .inl (cB, 13, .inl (fun z9 => bI (lo z9)))), (bF, .inl (cB, 52, .inl (fun z9 => bI (fr z9)))), (bK, .inl (cB, 4, .inl (fun z9 => bI (mk z9)))), (bB, .inl (cI, 26, .inl (fun z9 => nI (bt z9)))), (bS, .inl (cI, 26, .inl su)), (bN, .inl (cI, 26, .inl kv)), (bM, .inl (cI, 13, .inl (fun z9 => nI (mi z9))))]) (b := aO) (As := [.int y]) (rst := []) ⟨hx, hb, hml, hown, hts⟩ (c_mStripe l dC dI cI cB cQ cJ aO bW bL bF bK bB bS bN bM 0 P n pw lf mz wd lo fr mk bt su kv mi y (by omega) (by omega)) (cwV 1 hts (gdV t_mX4_102 t_inst_X4_isStripe t_sel_X4_isStripe t_ini_X4 t_code_X4_isStripe) rfl rfl rfl (by decide +kernel) ⟨Nat.le_of_ble_eq_true rfl, Nat.le_of_ble_eq_true rfl⟩) hK hP hD hS hA [0, 1, 2, 3, 4, 5, 6, 7, 8] [] [0, 1, 2, 3, 4, 5, 6, 7, 8] rfl (by decide) (fun _ => rfl) (by decide) (ci := 4) rfl rfl rfl rfl hl.1 rfl (Nat.le_of_ble_eq_true rfl) dX4_word_15 ⟨Nat.zero_le _, Nat.zero_le _⟩ (fun r u H locs hu2 hP hD hS => ?_)
    have hr15 := hu2
    have hr15 : r = bI (dr_in y n) := hr15
    subst hr15
    have hP : va_P (dC, dI) vwCl [(aO, .inr (4, [.int (nI 0), .int (nI P), .int (nI n), .ref bW, .ref bL, .ref bF, .ref bK, .int (bI pw), .int lf, .ref bB, .ref bS, .ref bN, .ref bM, .int (nI mz)])), (bW, .inl (cI, 676, .inl wd)), (bL, .inl (cB, 13, .inl (fun z9 => bI (lo z9)))), (bF, .inl (cB, 52, .inl (fun z9 => bI (fr z9)))), (bK, .inl (cB, 4, .inl (fun z9 => bI (mk z9)))), (bB, .inl (cI, 26, .inl (fun z9 => nI (bt z9)))), (bS, .inl (cI, 26, .inl su)), (bN, .inl (cI, 26, .inl kv)), (bM, .inl (cI, 13, .inl (fun z9 => nI (mi z9))))] H := hP
    have hD : va_D A [(aO, .inr (4, [.int (nI 0), .int (nI P), .int (nI n), .ref bW, .ref bL, .ref bF, .ref bK, .int (bI pw), .int lf, .ref bB, .ref bS, .ref bN, .ref bM, .int (nI mz)])), (bW, .inl (cI, 676, .inl wd)), (bL, .inl (cB, 13, .inl (fun z9 => bI (lo z9)))), (bF, .inl (cB, 52, .inl (fun z9 => bI (fr z9)))), (bK, .inl (cB, 4, .inl (fun z9 => bI (mk z9)))), (bB, .inl (cI, 26, .inl (fun z9 => nI (bt z9)))), (bS, .inl (cI, 26, .inl su)), (bN, .inl (cI, 26, .inl kv)), (bM, .inl (cI, 13, .inl (fun z9 => nI (mi z9))))] := hD
    refine x_ifF (tgt := 47) hx hb dX4_word_18 (by decide) (fun h18 => ?_) (fun h18 => ?_)
    · -- 18t
      refine lv_iconst (v := 0) hx hb dX4_word_47 (by decide) ?_
      exact x_iret (D := (dC, dI)) (cl := vwCl) (A := A) () hQ hx hb hr hlk hP hD hS dX4_word_48 (by first | rfl | (simp [h10, h18]; done) | (simp [h10, h18]; omega))
    · -- 18f
      refine lv_iload_n hx hb dX4_word_21 rfl (lv_at hl 3 rfl) ?_
      refine lv_if_lt (tgt := 47) hx hb dX4_word_22 (by decide) (fun h22 => ?_) (fun h22 => ?_)
      · -- 22t
        refine lv_iconst (v := 0) hx hb dX4_word_47 (by decide) ?_
        exact x_iret (D := (dC, dI)) (cl := vwCl) (A := A) () hQ hx hb hr hlk hP hD hS dX4_word_48 (by first | rfl | (simp [h10, h18, h22]; done) | (simp [h10, h18, h22]; omega))
      · -- 22f
        refine lv_iload_n hx hb dX4_word_25 rfl (lv_at hl 3 rfl) ?_
        refine lv_aload_n hx hb dX4_word_26 rfl (lv_at hl 0 rfl) ?_
        refine va_get (D := (dC, dI)) (ci := 4) (v := .int (nI P)) (C := RX4) (T := TX4) (N := 14) hx hb hts inX4 hown hK hP 0 rfl rfl 1 (by decide) (hts _ t_fX4_43) (fun _ h9 => h9) rfl dX4_word_27 ?_
        refine lv_icmp_ge (tgt := 47) hx hb dX4_word_30 (by decide) (fun h30 => ?_) (fun h30 => ?_)
        · -- 30t
          refine lv_iconst (v := 0) hx hb dX4_word_47 (by decide) ?_
          exact x_iret (D := (dC, dI)) (cl := vwCl) (A := A) () hQ hx hb hr hlk hP hD hS dX4_word_48 (by first | rfl | (simp [h10, h18, h22, h30]; done) | (simp [h10, h18, h22, h30]; omega))
        · -- 30f
          exact absurd ⟨h10, h18, decide_eq_true ⟨h22, h30⟩⟩ hc

abbrev rm_c_mword1 : Room := { frames := 1, cells := 0, slots := 0, locals := 22 }
set_option maxHeartbeats 4000000 in
set_option maxRecDepth 100000 in
theorem c_mword1 (l : Launch) (dC : Nat → ClassId) (dI : Nat → Nat → Nat) (cI cB cQ cJ : ClassId) (aO : Nat) (bW : Nat) (bL : Nat) (bF : Nat) (bK : Nat) (bB : Nat) (bS : Nat) (bN : Nat) (bM : Nat) (th : Nat) (P : Nat) (n : Nat) (pw : Bool) (lf : Int32) (mz : Nat) (wd : Nat → Int32) (lo : Nat → Bool) (fr : Nat → Bool) (mk : Nat → Bool) (bt : Nat → Nat) (su : Nat → Int32) (kv : Nat → Int32) (mi : Nat → Nat) (d : Nat) (q : Nat) (k : Nat) (hp5 : dr_P P) (hn : n < 5) (hd : d < P) (hq : q < n) (hk : k < P) : MG l yX4_word (Cond.code yX4_word cX4_word 4 (some .int) :: TB) rm_c_mword1 (dC, dI) vwCl (TY cI cB cQ cJ) [.ref aO, .int (nI d), .int (nI q), .int (nI k)] [(aO, .inr (4, [.int (nI th), .int (nI P), .int (nI n), .ref bW, .ref bL, .ref bF, .ref bK, .int (bI pw), .int lf, .ref bB, .ref bS, .ref bN, .ref bM, .int (nI mz)])), (bW, .inl (cI, 676, .inl wd)), (bL, .inl (cB, 13, .inl (fun z9 => bI (lo z9)))), (bF, .inl (cB, 52, .inl (fun z9 => bI (fr z9)))), (bK, .inl (cB, 4, .inl (fun z9 => bI (mk z9)))), (bB, .inl (cI, 26, .inl (fun z9 => nI (bt z9)))), (bS, .inl (cI, 26, .inl su)), (bN, .inl (cI, 26, .inl kv)), (bM, .inl (cI, 13, .inl (fun z9 => nI (mi z9))))] (fun (r : Int32) (u : Unit) => r = wd (169 * q + 13 * d + k)) (fun (u : Unit) => [(aO, .inr (4, [.int (nI 0), .int (nI P), .int (nI n), .ref bW, .ref bL, .ref bF, .ref bK, .int (bI pw), .int lf, .ref bB, .ref bS, .ref bN, .ref bM, .int (nI mz)])), (bW, .inl (cI, 676, .inl wd)), (bL, .inl (cB, 13, .inl (fun z9 => bI (lo z9)))), (bF, .inl (cB, 52, .inl (fun z9 => bI (fr z9)))), (bK, .inl (cB, 4, .inl (fun z9 => bI (mk z9)))), (bB, .inl (cI, 26, .inl (fun z9 => nI (bt z9)))), (bS, .inl (cI, 26, .inl su)), (bN, .inl (cI, 26, .inl kv)), (bM, .inl (cI, 13, .inl (fun z9 => nI (mi z9))))]) := by
  refine MG.ofW (cc := cX4_word) (maxL := 4) (rt := .int) (by decide +kernel) rfl (Nat.le_of_ble_eq_true rfl) ?_
  intro p e s m args below meth c A ls Q H locs hQ hx hb hml hr hlk hts hown hK hP hD hS hA hl
  have hts : ∀ w ∈ TB, w.before args s = true := fun w h => hts w (List.mem_cons_of_mem _ h)
  have hown : s.vm.findClass RX4 = some m.cls := hown
  have hl : lv_has ls 4 [(0, .ref aO), (1, .int (nI d)), (2, .int (nI q)), (3, .int (nI k))] := hl
  have hP : va_P (dC, dI) vwCl [(aO, .inr (4, [.int (nI th), .int (nI P), .int (nI n), .ref bW, .ref bL, .ref bF, .ref bK, .int (bI pw), .int lf, .ref bB, .ref bS, .ref bN, .ref bM, .int (nI mz)])), (bW, .inl (cI, 676, .inl wd)), (bL, .inl (cB, 13, .inl (fun z9 => bI (lo z9)))), (bF, .inl (cB, 52, .inl (fun z9 => bI (fr z9)))), (bK, .inl (cB, 4, .inl (fun z9 => bI (mk z9)))), (bB, .inl (cI, 26, .inl (fun z9 => nI (bt z9)))), (bS, .inl (cI, 26, .inl su)), (bN, .inl (cI, 26, .inl kv)), (bM, .inl (cI, 13, .inl (fun z9 => nI (mi z9))))] H := hP
  have hD : va_D A [(aO, .inr (4, [.int (nI th), .int (nI P), .int (nI n), .ref bW, .ref bL, .ref bF, .ref bK, .int (bI pw), .int lf, .ref bB, .ref bS, .ref bN, .ref bM, .int (nI mz)])), (bW, .inl (cI, 676, .inl wd)), (bL, .inl (cB, 13, .inl (fun z9 => bI (lo z9)))), (bF, .inl (cB, 52, .inl (fun z9 => bI (fr z9)))), (bK, .inl (cB, 4, .inl (fun z9 => bI (mk z9)))), (bB, .inl (cI, 26, .inl (fun z9 => nI (bt z9)))), (bS, .inl (cI, 26, .inl su)), (bN, .inl (cI, 26, .inl kv)), (bM, .inl (cI, 13, .inl (fun z9 => nI (mi z9))))] := hD
  have hp := hp5.le
  have hpp := dr_PP hp5
  have hpq := dr_PP2 hp5
  refine lv_aload_n hx hb dX4_word_0 rfl (lv_at hl 0 rfl) ?_
  refine lv_iconst (v := nI 0) hx hb dX4_word_1 (by decide) ?_
  refine va_put (D := (dC, dI)) (ci := 4) (v := .int (nI 0)) (ty := .int) (C := RX4) (T := TX4) (N := 14) hx hb hts inX4 tyX4 tyX4_ok nmX4 hown hK hP hD hS 0 rfl rfl 0 (by decide) (hts _ t_fX4_49) (fun _ h9 => h9) rfl (by decide +kernel) rfl rfl (Nat.le_of_ble_eq_true rfl) dX4_word_2 (fun H locs hP hD hS => ?_)
  have hP : va_P (dC, dI) vwCl [(aO, .inr (4, [.int (nI 0), .int (nI P), .int (nI n), .ref bW, .ref bL, .ref bF, .ref bK, .int (bI pw), .int lf, .ref bB, .ref bS, .ref bN, .ref bM, .int (nI mz)])), (bW, .inl (cI, 676, .inl wd)), (bL, .inl (cB, 13, .inl (fun z9 => bI (lo z9)))), (bF, .inl (cB, 52, .inl (fun z9 => bI (fr z9)))), (bK, .inl (cB, 4, .inl (fun z9 => bI (mk z9)))), (bB, .inl (cI, 26, .inl (fun z9 => nI (bt z9)))), (bS, .inl (cI, 26, .inl su)), (bN, .inl (cI, 26, .inl kv)), (bM, .inl (cI, 13, .inl (fun z9 => nI (mi z9))))] H := hP
  have hD : va_D A [(aO, .inr (4, [.int (nI 0), .int (nI P), .int (nI n), .ref bW, .ref bL, .ref bF, .ref bK, .int (bI pw), .int lf, .ref bB, .ref bS, .ref bN, .ref bM, .int (nI mz)])), (bW, .inl (cI, 676, .inl wd)), (bL, .inl (cB, 13, .inl (fun z9 => bI (lo z9)))), (bF, .inl (cB, 52, .inl (fun z9 => bI (fr z9)))), (bK, .inl (cB, 4, .inl (fun z9 => bI (mk z9)))), (bB, .inl (cI, 26, .inl (fun z9 => nI (bt z9)))), (bS, .inl (cI, 26, .inl su)), (bN, .inl (cI, 26, .inl kv)), (bM, .inl (cI, 13, .inl (fun z9 => nI (mi z9))))] := hD
  refine lv_aload_n hx hb dX4_word_5 rfl (lv_at hl 0 rfl) ?_
  refine lv_iload_n hx hb dX4_word_6 rfl (lv_at hl 1 rfl) ?_
  refine gV (wr := []) (pre := [(aO, .inr (4, [.int (nI 0), .int (nI P), .int (nI n), .ref bW, .ref bL, .ref bF, .ref bK, .int (bI pw), .int lf, .ref bB, .ref bS, .ref bN, .ref bM, .int (nI mz)])), (bW, .inl (cI, 676, .inl wd)), (bL, .inl (cB, 13, .inl (fun z9 => bI (lo z9)))), (bF, .inl (cB, 52, .inl (fun z9 => bI (fr z9)))), (bK, .inl (cB, 4, .inl (fun z9 => bI (mk z9)))), (bB, .inl (cI, 26, .inl (fun z9 => nI (bt z9)))), (bS, .inl (cI, 26, .inl su)), (bN, .inl (cI, 26, .inl kv)), (bM, .inl (cI, 13, .inl (fun z9 => nI (mi z9))))]) (tl := []) (G := fun (u : Unit) => [(aO, .inr (4, [.int (nI 0), .int (nI P), .int (nI n), .ref bW, .ref bL, .ref bF, .ref bK, .int (bI pw), .int lf, .ref bB, .ref bS, .ref bN, .ref bM, .int (nI mz)])), (bW, .inl (cI, 676, .inl wd)), (bL, .inl (cB, 13, .inl (fun z9 => bI (lo z9)))), (bF, .inl (cB, 52, .inl (fun z9 => bI (fr z9)))), (bK, .inl (cB, 4, .inl (fun z9 => bI (mk z9)))), (bB, .inl (cI, 26, .inl (fun z9 => nI (bt z9)))), (bS, .inl (cI, 26, .inl su)), (bN, .inl (cI, 26, .inl kv)), (bM, .inl (cI, 13, .inl (fun z9 => nI (mi z9))))]) (b := aO) (As := [.int (nI d)]) (rst := []) ⟨hx, hb, hml, hown, hts⟩ (c_mDrive l dC dI cI cB cQ cJ aO bW bL bF bK bB bS bN bM 0 P n pw lf mz wd lo fr mk bt su kv mi (nI d) (by omega) (by omega)) (cwV 1 hts (gdV t_mX4_93 t_inst_X4_isDrive t_sel_X4_isDrive t_ini_X4 t_code_X4_isDrive) rfl rfl rfl (by decide +kernel) ⟨Nat.le_of_ble_eq_true rfl, Nat.le_of_ble_eq_true rfl⟩) hK hP hD hS hA [0, 1, 2, 3, 4, 5, 6, 7, 8] [] [0, 1, 2, 3, 4, 5, 6, 7, 8] rfl (by decide) (fun _ => rfl) (by decide) (ci := 4) rfl rfl rfl rfl hl.1 rfl (Nat.le_of_ble_eq_true rfl) dX4_word_7 ⟨Nat.zero_le _, Nat.zero_le _⟩ (fun r u H locs hu1 hP hD hS => ?_)
  have hr7 := hu1
  have hr7 : r = bI (dr_in (nI d) P) := hr7
  subst hr7
  have hP : va_P (dC, dI) vwCl [(aO, .inr (4, [.int (nI 0), .int (nI P), .int (nI n), .ref bW, .ref bL, .ref bF, .ref bK, .int (bI pw), .int lf, .ref bB, .ref bS, .ref bN, .ref bM, .int (nI mz)])), (bW, .inl (cI, 676, .inl wd)), (bL, .inl (cB, 13, .inl (fun z9 => bI (lo z9)))), (bF, .inl (cB, 52, .inl (fun z9 => bI (fr z9)))), (bK, .inl (cB, 4, .inl (fun z9 => bI (mk z9)))), (bB, .inl (cI, 26, .inl (fun z9 => nI (bt z9)))), (bS, .inl (cI, 26, .inl su)), (bN, .inl (cI, 26, .inl kv)), (bM, .inl (cI, 13, .inl (fun z9 => nI (mi z9))))] H := hP
  have hD : va_D A [(aO, .inr (4, [.int (nI 0), .int (nI P), .int (nI n), .ref bW, .ref bL, .ref bF, .ref bK, .int (bI pw), .int lf, .ref bB, .ref bS, .ref bN, .ref bM, .int (nI mz)])), (bW, .inl (cI, 676, .inl wd)), (bL, .inl (cB, 13, .inl (fun z9 => bI (lo z9)))), (bF, .inl (cB, 52, .inl (fun z9 => bI (fr z9)))), (bK, .inl (cB, 4, .inl (fun z9 => bI (mk z9)))), (bB, .inl (cI, 26, .inl (fun z9 => nI (bt z9)))), (bS, .inl (cI, 26, .inl su)), (bN, .inl (cI, 26, .inl kv)), (bM, .inl (cI, 13, .inl (fun z9 => nI (mi z9))))] := hD
  refine x_top (show bI (dr_in (nI d) P) = bI true from (congrArg bI (dr_in_of (by omega) hd))) ?_
  refine x_ifF (tgt := 47) hx hb dX4_word_10 (by decide) (fun z9 => by cases z9) (fun _ => ?_)
  refine lv_aload_n hx hb dX4_word_13 rfl (lv_at hl 0 rfl) ?_
  refine lv_iload_n hx hb dX4_word_14 rfl (lv_at hl 2 rfl) ?_
  refine gV (wr := []) (pre := [(aO, .inr (4, [.int (nI 0), .int (nI P), .int (nI n), .ref bW, .ref bL, .ref bF, .ref bK, .int (bI pw), .int lf, .ref bB, .ref bS, .ref bN, .ref bM, .int (nI mz)])), (bW, .inl (cI, 676, .inl wd)), (bL, .inl (cB, 13, .inl (fun z9 => bI (lo z9)))), (bF, .inl (cB, 52, .inl (fun z9 => bI (fr z9)))), (bK, .inl (cB, 4, .inl (fun z9 => bI (mk z9)))), (bB, .inl (cI, 26, .inl (fun z9 => nI (bt z9)))), (bS, .inl (cI, 26, .inl su)), (bN, .inl (cI, 26, .inl kv)), (bM, .inl (cI, 13, .inl (fun z9 => nI (mi z9))))]) (tl := []) (G := fun (u : Unit) => [(aO, .inr (4, [.int (nI 0), .int (nI P), .int (nI n), .ref bW, .ref bL, .ref bF, .ref bK, .int (bI pw), .int lf, .ref bB, .ref bS, .ref bN, .ref bM, .int (nI mz)])), (bW, .inl (cI, 676, .inl wd)), (bL, .inl (cB, 13, .inl (fun z9 => bI (lo z9)))), (bF, .inl (cB, 52, .inl (fun z9 => bI (fr z9)))), (bK, .inl (cB, 4, .inl (fun z9 => bI (mk z9)))), (bB, .inl (cI, 26, .inl (fun z9 => nI (bt z9)))), (bS, .inl (cI, 26, .inl su)), (bN, .inl (cI, 26, .inl kv)), (bM, .inl (cI, 13, .inl (fun z9 => nI (mi z9))))]) (b := aO) (As := [.int (nI q)]) (rst := []) ⟨hx, hb, hml, hown, hts⟩ (c_mStripe l dC dI cI cB cQ cJ aO bW bL bF bK bB bS bN bM 0 P n pw lf mz wd lo fr mk bt su kv mi (nI q) (by omega) (by omega)) (cwV 1 hts (gdV t_mX4_102 t_inst_X4_isStripe t_sel_X4_isStripe t_ini_X4 t_code_X4_isStripe) rfl rfl rfl (by decide +kernel) ⟨Nat.le_of_ble_eq_true rfl, Nat.le_of_ble_eq_true rfl⟩) hK hP hD hS hA [0, 1, 2, 3, 4, 5, 6, 7, 8] [] [0, 1, 2, 3, 4, 5, 6, 7, 8] rfl (by decide) (fun _ => rfl) (by decide) (ci := 4) rfl rfl rfl rfl hl.1 rfl (Nat.le_of_ble_eq_true rfl) dX4_word_15 ⟨Nat.zero_le _, Nat.zero_le _⟩ (fun r u H locs hu2 hP hD hS => ?_)
  have hr15 := hu2
  have hr15 : r = bI (dr_in (nI q) n) := hr15
  subst hr15
  have hP : va_P (dC, dI) vwCl [(aO, .inr (4, [.int (nI 0), .int (nI P), .int (nI n), .ref bW, .ref bL, .ref bF, .ref bK, .int (bI pw), .int lf, .ref bB, .ref bS, .ref bN, .ref bM, .int (nI mz)])), (bW, .inl (cI, 676, .inl wd)), (bL, .inl (cB, 13, .inl (fun z9 => bI (lo z9)))), (bF, .inl (cB, 52, .inl (fun z9 => bI (fr z9)))), (bK, .inl (cB, 4, .inl (fun z9 => bI (mk z9)))), (bB, .inl (cI, 26, .inl (fun z9 => nI (bt z9)))), (bS, .inl (cI, 26, .inl su)), (bN, .inl (cI, 26, .inl kv)), (bM, .inl (cI, 13, .inl (fun z9 => nI (mi z9))))] H := hP
  have hD : va_D A [(aO, .inr (4, [.int (nI 0), .int (nI P), .int (nI n), .ref bW, .ref bL, .ref bF, .ref bK, .int (bI pw), .int lf, .ref bB, .ref bS, .ref bN, .ref bM, .int (nI mz)])), (bW, .inl (cI, 676, .inl wd)), (bL, .inl (cB, 13, .inl (fun z9 => bI (lo z9)))), (bF, .inl (cB, 52, .inl (fun z9 => bI (fr z9)))), (bK, .inl (cB, 4, .inl (fun z9 => bI (mk z9)))), (bB, .inl (cI, 26, .inl (fun z9 => nI (bt z9)))), (bS, .inl (cI, 26, .inl su)), (bN, .inl (cI, 26, .inl kv)), (bM, .inl (cI, 13, .inl (fun z9 => nI (mi z9))))] := hD
  refine x_top (show bI (dr_in (nI q) n) = bI true from (congrArg bI (dr_in_of (by omega) hq))) ?_
  refine x_ifF (tgt := 47) hx hb dX4_word_18 (by decide) (fun z9 => by cases z9) (fun _ => ?_)
  refine lv_iload_n hx hb dX4_word_21 rfl (lv_at hl 3 rfl) ?_
  refine lv_if_lt (tgt := 47) hx hb dX4_word_22 (by decide) (fun h22 => ?_) (fun h22 => ?_)
  · -- 22t
    exact absurd h22 (nI_pos (by omega))
  · -- 22f
    refine lv_iload_n hx hb dX4_word_25 rfl (lv_at hl 3 rfl) ?_
    refine lv_aload_n hx hb dX4_word_26 rfl (lv_at hl 0 rfl) ?_
    refine va_get (D := (dC, dI)) (ci := 4) (v := .int (nI P)) (C := RX4) (T := TX4) (N := 14) hx hb hts inX4 hown hK hP 0 rfl rfl 1 (by decide) (hts _ t_fX4_43) (fun _ h9 => h9) rfl dX4_word_27 ?_
    refine x_cge (tgt := 47) hx hb dX4_word_30 (by decide) (by omega) (by omega) (fun h30 => ?_) (fun h30 => ?_)
    · -- 30t
      omega
    · -- 30f
      refine lv_aload_n hx hb dX4_word_33 rfl (lv_at hl 0 rfl) ?_
      refine va_get (D := (dC, dI)) (ci := 4) (v := .ref bW) (C := RX4) (T := TX4) (N := 14) hx hb hts inX4 hown hK hP 0 rfl rfl 3 (by decide) (hts _ t_fX4_7) (fun _ h9 => h9) rfl dX4_word_34 ?_
      refine lv_iload_n hx hb dX4_word_37 rfl (lv_at hl 2 rfl) ?_
      refine lv_iload_n hx hb dX4_word_38 rfl (lv_at hl 1 rfl) ?_
      refine lv_iload_n hx hb dX4_word_39 rfl (lv_at hl 3 rfl) ?_
      refine gS (wr := [(aO, .inr (4, [.int (nI 0), .int (nI P), .int (nI n), .ref bW, .ref bL, .ref bF, .ref bK, .int (bI pw), .int lf, .ref bB, .ref bS, .ref bN, .ref bM, .int (nI mz)])), (bW, .inl (cI, 676, .inl wd)), (bL, .inl (cB, 13, .inl (fun z9 => bI (lo z9)))), (bF, .inl (cB, 52, .inl (fun z9 => bI (fr z9)))), (bK, .inl (cB, 4, .inl (fun z9 => bI (mk z9)))), (bB, .inl (cI, 26, .inl (fun z9 => nI (bt z9)))), (bS, .inl (cI, 26, .inl su)), (bN, .inl (cI, 26, .inl kv)), (bM, .inl (cI, 13, .inl (fun z9 => nI (mi z9))))]) (pre := [(aO, .inr (4, [.int (nI 0), .int (nI P), .int (nI n), .ref bW, .ref bL, .ref bF, .ref bK, .int (bI pw), .int lf, .ref bB, .ref bS, .ref bN, .ref bM, .int (nI mz)])), (bW, .inl (cI, 676, .inl wd)), (bL, .inl (cB, 13, .inl (fun z9 => bI (lo z9)))), (bF, .inl (cB, 52, .inl (fun z9 => bI (fr z9)))), (bK, .inl (cB, 4, .inl (fun z9 => bI (mk z9)))), (bB, .inl (cI, 26, .inl (fun z9 => nI (bt z9)))), (bS, .inl (cI, 26, .inl su)), (bN, .inl (cI, 26, .inl kv)), (bM, .inl (cI, 13, .inl (fun z9 => nI (mi z9))))]) (tl := []) (G := fun (u : Unit) => [(aO, .inr (4, [.int (nI 0), .int (nI P), .int (nI n), .ref bW, .ref bL, .ref bF, .ref bK, .int (bI pw), .int lf, .ref bB, .ref bS, .ref bN, .ref bM, .int (nI mz)])), (bW, .inl (cI, 676, .inl wd)), (bL, .inl (cB, 13, .inl (fun z9 => bI (lo z9)))), (bF, .inl (cB, 52, .inl (fun z9 => bI (fr z9)))), (bK, .inl (cB, 4, .inl (fun z9 => bI (mk z9)))), (bB, .inl (cI, 26, .inl (fun z9 => nI (bt z9)))), (bS, .inl (cI, 26, .inl su)), (bN, .inl (cI, 26, .inl kv)), (bM, .inl (cI, 13, .inl (fun z9 => nI (mi z9))))]) (As := [.int (nI q), .int (nI d), .int (nI k)]) (rst := [.ref bW]) ⟨hx, hb, hml, hown, hts⟩ (c_at l dC dI cI cB cQ cJ q d k ) (va_cwS 3 hts (gdS t_mX4_59 t_stat_X4_at t_ini_X4 t_code_X4_at) rfl rfl rfl (by decide +kernel) ⟨Nat.le_of_ble_eq_true rfl, Nat.le_of_ble_eq_true rfl⟩) hK hP hD hS hA [] [0, 1, 2, 3, 4, 5, 6, 7, 8] [0, 1, 2, 3, 4, 5, 6, 7, 8] rfl (by decide) (fun _ => rfl) (by decide) rfl hl.1 rfl (Nat.le_of_ble_eq_true rfl) dX4_word_40 ⟨Nat.zero_le _, Nat.zero_le _⟩ (fun r u H locs hu3 hP hD hS => ?_)
      have hr40 := hu3
      have hr40 : r = nI (169 * q + 13 * d + k) := hr40
      subst hr40
      have hP : va_P (dC, dI) vwCl [(aO, .inr (4, [.int (nI 0), .int (nI P), .int (nI n), .ref bW, .ref bL, .ref bF, .ref bK, .int (bI pw), .int lf, .ref bB, .ref bS, .ref bN, .ref bM, .int (nI mz)])), (bW, .inl (cI, 676, .inl wd)), (bL, .inl (cB, 13, .inl (fun z9 => bI (lo z9)))), (bF, .inl (cB, 52, .inl (fun z9 => bI (fr z9)))), (bK, .inl (cB, 4, .inl (fun z9 => bI (mk z9)))), (bB, .inl (cI, 26, .inl (fun z9 => nI (bt z9)))), (bS, .inl (cI, 26, .inl su)), (bN, .inl (cI, 26, .inl kv)), (bM, .inl (cI, 13, .inl (fun z9 => nI (mi z9))))] H := hP
      have hD : va_D A [(aO, .inr (4, [.int (nI 0), .int (nI P), .int (nI n), .ref bW, .ref bL, .ref bF, .ref bK, .int (bI pw), .int lf, .ref bB, .ref bS, .ref bN, .ref bM, .int (nI mz)])), (bW, .inl (cI, 676, .inl wd)), (bL, .inl (cB, 13, .inl (fun z9 => bI (lo z9)))), (bF, .inl (cB, 52, .inl (fun z9 => bI (fr z9)))), (bK, .inl (cB, 4, .inl (fun z9 => bI (mk z9)))), (bB, .inl (cI, 26, .inl (fun z9 => nI (bt z9)))), (bS, .inl (cI, 26, .inl su)), (bN, .inl (cI, 26, .inl kv)), (bM, .inl (cI, 13, .inl (fun z9 => nI (mi z9))))] := hD
      refine x_iald (f := wd) hx hb hK hP 1 0 rfl rfl dX4_word_43 (by omega) (by omega) ?_
      refine lv_goto (tgt := 48) hx hb dX4_word_44 (by decide) ?_
      exact x_iret (D := (dC, dI)) (cl := vwCl) (A := A) () hQ hx hb hr hlk hP hD hS dX4_word_48 (by first | rfl | (simp [h22, h30]; done) | (simp [h22, h30]; omega))
