abbrev rm_c_settle : Room := { frames := 2, cells := 0, slots := 0, locals := 45 }
set_option maxHeartbeats 4000000 in
set_option maxRecDepth 100000 in
theorem c_settle (l : Launch) (dC : Nat → ClassId) (dI : Nat → Nat → Nat) (cI cB cQ cJ : ClassId) (aE : Nat) (aS : Nat) (aEW : Nat) (aEK : Nat) (P : Nat) (tw : Nat → Int32) (kn : Nat → Bool) (un : Int32) (o : Nat) (row : Nat) (hp5 : dr_P P) (ho : o < P) (hrw : dr_row P row) : MV l yX2_settle (Cond.code yX2_settle cX2_settle 9 none :: TB) rm_c_settle (dC, dI) vwCl (TY cI cB cQ cJ) [.ref aE, .int (nI o), .int (nI row)] [(aE, .inr (2, [.ref aS, .ref aEW, .ref aEK, .int un])), (aEW, .inl (cI, P * P, .inl tw)), (aEK, .inl (cB, P * P, .inl (fun z9 => bI (kn z9)))), (aS, .inr (0, [.int (nI P), .int (nI (P - 2)), .int (nI (P - 1)), .int (nI (P * (P - 2)))]))] (fun (u : Unit) => True) (fun (u : Unit) => [(aE, .inr (2, [.ref aS, .ref aEW, .ref aEK, .int ((dr_st P o row (kn, tw, un)).2.2)])), (aEW, .inl (cI, P * P, .inl ((dr_st P o row (kn, tw, un)).2.1))), (aEK, .inl (cB, P * P, .inl (fun z9 => bI (((dr_st P o row (kn, tw, un)).1) z9)))), (aS, .inr (0, [.int (nI P), .int (nI (P - 2)), .int (nI (P - 1)), .int (nI (P * (P - 2)))]))]) := by
  refine MV.ofW (cc := cX2_settle) (maxL := 9) (by decide +kernel) rfl (Nat.le_of_ble_eq_true rfl) ?_
  intro p e s m args below meth c A ls Q H locs hQ hx hb hml hr hlk hts hown hK hP hD hS hA hl
  have hts : ∀ w ∈ TB, w.before args s = true := fun w h => hts w (List.mem_cons_of_mem _ h)
  have hown : s.vm.findClass RX2 = some m.cls := hown
  have hl : lv_has ls 9 [(0, .ref aE), (1, .int (nI o)), (2, .int (nI row))] := hl
  have hP : va_P (dC, dI) vwCl [(aE, .inr (2, [.ref aS, .ref aEW, .ref aEK, .int un])), (aEW, .inl (cI, P * P, .inl tw)), (aEK, .inl (cB, P * P, .inl (fun z9 => bI (kn z9)))), (aS, .inr (0, [.int (nI P), .int (nI (P - 2)), .int (nI (P - 1)), .int (nI (P * (P - 2)))]))] H := hP
  have hD : va_D A [(aE, .inr (2, [.ref aS, .ref aEW, .ref aEK, .int un])), (aEW, .inl (cI, P * P, .inl tw)), (aEK, .inl (cB, P * P, .inl (fun z9 => bI (kn z9)))), (aS, .inr (0, [.int (nI P), .int (nI (P - 2)), .int (nI (P - 1)), .int (nI (P * (P - 2)))]))] := hD
  have hp := hp5.le
  have hpp := dr_PP hp5
  have hpq := dr_PP2 hp5
  have hrl : row < P := by rcases hrw with rfl | rfl <;> omega
  have hsl := dr_sh_le P kn o row (P - 2)
  have hso := dr_so_lt hp5 (kn := kn) ho hrw (P - 2) (Nat.le_refl _)
  refine lv_aload_n hx hb dX2_settle_0 rfl (lv_at hl 0 rfl) ?_
  refine va_get (D := (dC, dI)) (ci := 2) (v := .ref aS) (C := RX2) (T := TX2) (N := 4) hx hb hts inX2 hown hK hP 0 rfl rfl 0 (by decide) (hts _ t_fX2_7) (fun _ h9 => h9) rfl dX2_settle_1 ?_
  refine lv_iload_n hx hb dX2_settle_4 rfl (lv_at hl 1 rfl) ?_
  refine lv_iload_n hx hb dX2_settle_5 rfl (lv_at hl 2 rfl) ?_
  refine gV (wr := [(aE, .inr (2, [.ref aS, .ref aEW, .ref aEK, .int un])), (aEW, .inl (cI, P * P, .inl tw)), (aEK, .inl (cB, P * P, .inl (fun z9 => bI (kn z9))))]) (pre := [(aE, .inr (2, [.ref aS, .ref aEW, .ref aEK, .int un])), (aEW, .inl (cI, P * P, .inl tw)), (aEK, .inl (cB, P * P, .inl (fun z9 => bI (kn z9)))), (aS, .inr (0, [.int (nI P), .int (nI (P - 2)), .int (nI (P - 1)), .int (nI (P * (P - 2)))]))]) (tl := []) (G := fun (u : Unit) => [(aE, .inr (2, [.ref aS, .ref aEW, .ref aEK, .int un])), (aEW, .inl (cI, P * P, .inl tw)), (aEK, .inl (cB, P * P, .inl (fun z9 => bI (kn z9)))), (aS, .inr (0, [.int (nI P), .int (nI (P - 2)), .int (nI (P - 1)), .int (nI (P * (P - 2)))]))]) (b := aS) (As := [.int (nI o), .int (nI row)]) (rst := []) ⟨hx, hb, hml, hown, hts⟩ (c_place l dC dI cI cB cQ cJ aS P o row ) (cwV 2 hts (gdV t_mX2_44 t_inst_X0_place t_sel_X0_place t_ini_X0 t_code_X0_place) rfl rfl rfl (by decide +kernel) ⟨Nat.le_of_ble_eq_true rfl, Nat.le_of_ble_eq_true rfl⟩) hK hP hD hS hA [3] [0, 1, 2] [1, 2, 3, 0] rfl (by decide) (fun _ => rfl) (by decide) (ci := 0) rfl rfl rfl rfl hl.1 rfl (Nat.le_of_ble_eq_true rfl) dX2_settle_6 ⟨Nat.zero_le _, Nat.zero_le _⟩ (fun r u H locs hu1 hP hD hS => ?_)
  have hr6 := hu1
  have hr6 : r = nI (o * P + row) := hr6
  subst hr6
  have hP : va_P (dC, dI) vwCl [(aE, .inr (2, [.ref aS, .ref aEW, .ref aEK, .int un])), (aEW, .inl (cI, P * P, .inl tw)), (aEK, .inl (cB, P * P, .inl (fun z9 => bI (kn z9)))), (aS, .inr (0, [.int (nI P), .int (nI (P - 2)), .int (nI (P - 1)), .int (nI (P * (P - 2)))]))] H := hP
  have hD : va_D A [(aE, .inr (2, [.ref aS, .ref aEW, .ref aEK, .int un])), (aEW, .inl (cI, P * P, .inl tw)), (aEK, .inl (cB, P * P, .inl (fun z9 => bI (kn z9)))), (aS, .inr (0, [.int (nI P), .int (nI (P - 2)), .int (nI (P - 1)), .int (nI (P * (P - 2)))]))] := hD
  refine lv_istore_n hx hb dX2_settle_9 rfl hl (by decide) rfl (fun ls hl => ?_)
  have hl : lv_has ls 9 [(3, .int (nI (o * P + row))), (0, .ref aE), (1, .int (nI o)), (2, .int (nI row))] := hl
  refine lv_aload_n hx hb dX2_settle_10 rfl (lv_at hl 1 rfl) ?_
  refine va_get (D := (dC, dI)) (ci := 2) (v := .ref aEW) (C := RX2) (T := TX2) (N := 4) hx hb hts inX2 hown hK hP 0 rfl rfl 1 (by decide) (hts _ t_fX2_19) (fun _ h9 => h9) rfl dX2_settle_11 ?_
  refine lv_iload_n hx hb dX2_settle_14 rfl (lv_at hl 0 rfl) ?_
  refine x_iald (f := tw) hx hb hK hP 1 0 rfl rfl dX2_settle_15 (dr_pl ho hrl) (by omega) ?_
  refine lv_istore hx hb dX2_settle_16 hl (by decide) rfl (fun ls hl => ?_)
  have hl : lv_has ls 9 [(4, .int (tw (o * P + row))), (3, .int (nI (o * P + row))), (0, .ref aE), (1, .int (nI o)), (2, .int (nI row))] := hl
  refine lv_aload_n hx hb dX2_settle_18 rfl (lv_at hl 2 rfl) ?_
  refine va_get (D := (dC, dI)) (ci := 2) (v := .ref aEK) (C := RX2) (T := TX2) (N := 4) hx hb hts inX2 hown hK hP 0 rfl rfl 2 (by decide) (hts _ t_fX2_23) (fun _ h9 => h9) rfl dX2_settle_19 ?_
  refine lv_iload_n hx hb dX2_settle_22 rfl (lv_at hl 1 rfl) ?_
  refine x_zald (g := kn) hx hb hK hP 2 1 rfl rfl dX2_settle_23 (dr_pl ho hrl) (by omega) ?_
  refine x_ifF (tgt := 31) hx hb dX2_settle_24 (by decide) (fun h24 => ?_) (fun h24 => ?_)
  · -- 24t
    refine lv_iconst (v := nI 1) hx hb dX2_settle_31 (by decide) ?_
    refine x_top (show nI 1 = nI (dr_sh P kn o row 0) from (by simp [dr_sh, h24])) ?_
    have lp32 : ∀  (ls : Array Slot) (H : Heap) (locs : List Loc), lv_has ls 9 [(4, .int (tw (o * P + row))), (3, .int (nI (o * P + row))), (2, .int (nI row)), (1, .int (nI o)), (0, .ref aE)] → va_P (dC, dI) vwCl [(aE, .inr (2, [.ref aS, .ref aEW, .ref aEK, .int un])), (aEW, .inl (cI, P * P, .inl tw)), (aEK, .inl (cB, P * P, .inl (fun z9 => bI (kn z9)))), (aS, .inr (0, [.int (nI P), .int (nI (P - 2)), .int (nI (P - 1)), .int (nI (P * (P - 2)))]))] H → va_D A [(aE, .inr (2, [.ref aS, .ref aEW, .ref aEK, .int un])), (aEW, .inl (cI, P * P, .inl tw)), (aEK, .inl (cB, P * P, .inl (fun z9 => bI (kn z9)))), (aS, .inr (0, [.int (nI P), .int (nI (P - 2)), .int (nI (P - 1)), .int (nI (P * (P - 2)))]))] → va_S A s.heap H locs → W p l e rm_c_settle s m args below meth c H locs 0 0 Q (F0 m 32 ls [.int (nI (dr_sh P kn o row 0))]) := by
      intro  ls H locs  hl hP hD hS
      refine lv_istore hx hb dX2_settle_32 hl (by decide) rfl (fun ls hl => ?_)
      have hl : lv_has ls 9 [(5, .int (nI (dr_sh P kn o row 0))), (4, .int (tw (o * P + row))), (3, .int (nI (o * P + row))), (2, .int (nI row)), (1, .int (nI o)), (0, .ref aE)] := hl
      refine lv_iload_n hx hb dX2_settle_34 rfl (lv_at hl 2 rfl) ?_
      refine lv_istore hx hb dX2_settle_35 hl (by decide) rfl (fun ls hl => ?_)
      have hl : lv_has ls 9 [(6, .int (nI (o * P + row))), (5, .int (nI (dr_sh P kn o row 0))), (4, .int (tw (o * P + row))), (3, .int (nI (o * P + row))), (2, .int (nI row)), (1, .int (nI o)), (0, .ref aE)] := hl
      refine lv_iconst (v := nI 0) hx hb dX2_settle_37 (by decide) ?_
      refine lv_istore hx hb dX2_settle_38 hl (by decide) rfl (fun ls hl => ?_)
      have hl : lv_has ls 9 [(7, .int (nI 0)), (6, .int (nI (o * P + row))), (5, .int (nI (dr_sh P kn o row 0))), (4, .int (tw (o * P + row))), (3, .int (nI (o * P + row))), (2, .int (nI row)), (1, .int (nI o)), (0, .ref aE)] := hl
      have lp40 : ∀ (n9 : Nat) (i : Nat) (ls : Array Slot) (H : Heap) (locs : List Loc), P - 2 - i < n9 → (i ≤ P - 2) → lv_has ls 9 [(7, .int (nI i)), (6, .int (nI (dr_so P kn o row i))), (5, .int (nI (dr_sh P kn o row i))), (4, .int (dr_ss P tw o row i)), (3, .int (nI (o * P + row))), (2, .int (nI row)), (1, .int (nI o)), (0, .ref aE)] → va_P (dC, dI) vwCl [(aE, .inr (2, [.ref aS, .ref aEW, .ref aEK, .int un])), (aEW, .inl (cI, P * P, .inl tw)), (aEK, .inl (cB, P * P, .inl (fun z9 => bI (kn z9)))), (aS, .inr (0, [.int (nI P), .int (nI (P - 2)), .int (nI (P - 1)), .int (nI (P * (P - 2)))]))] H → va_D A [(aE, .inr (2, [.ref aS, .ref aEW, .ref aEK, .int un])), (aEW, .inl (cI, P * P, .inl tw)), (aEK, .inl (cB, P * P, .inl (fun z9 => bI (kn z9)))), (aS, .inr (0, [.int (nI P), .int (nI (P - 2)), .int (nI (P - 1)), .int (nI (P * (P - 2)))]))] → va_S A s.heap H locs → W p l e rm_c_settle s m args below meth c H locs 0 0 Q (F0 m 40 ls []) := by
        intro n9
        induction n9 with
        | zero => intro i ls H locs hn9; omega
        | succ n9 ih40 =>
          intro i ls H locs hn9 hi hl hP hD hS
          refine lv_iload hx hb dX2_settle_40 (lv_at hl 0 rfl) ?_
          refine lv_aload_n hx hb dX2_settle_42 rfl (lv_at hl 7 rfl) ?_
          refine va_get (D := (dC, dI)) (ci := 2) (v := .ref aS) (C := RX2) (T := TX2) (N := 4) hx hb hts inX2 hown hK hP 0 rfl rfl 0 (by decide) (hts _ t_fX2_7) (fun _ h9 => h9) rfl dX2_settle_43 ?_
          refine va_get (D := (dC, dI)) (ci := 0) (v := .int (nI (P - 2))) (C := RX0) (T := TX0) (N := 4) hx hb hts inX0 hown hK hP 3 rfl rfl 1 (by decide) (hts _ t_fX2_34) (fun _ h9 => h9) rfl dX2_settle_46 ?_
          refine x_cge (tgt := 109) hx hb dX2_settle_49 (by decide) (by omega) (by omega) (fun h49 => ?_) (fun h49 => ?_)
          · -- 49t
            have hie49 : i = P - 2 := by omega
            try rw [hie49] at hl
            try rw [hie49] at hP
            try rw [hie49] at hD
            have hl : lv_has ls 9 [(7, .int (nI (P - 2))), (6, .int (nI (dr_so P kn o row (P - 2)))), (5, .int (nI (dr_sh P kn o row (P - 2)))), (4, .int (dr_ss P tw o row (P - 2))), (3, .int (nI (o * P + row))), (2, .int (nI row)), (1, .int (nI o)), (0, .ref aE)] := hl
            have hP : va_P (dC, dI) vwCl [(aE, .inr (2, [.ref aS, .ref aEW, .ref aEK, .int un])), (aEW, .inl (cI, P * P, .inl tw)), (aEK, .inl (cB, P * P, .inl (fun z9 => bI (kn z9)))), (aS, .inr (0, [.int (nI P), .int (nI (P - 2)), .int (nI (P - 1)), .int (nI (P * (P - 2)))]))] H := hP
            have hD : va_D A [(aE, .inr (2, [.ref aS, .ref aEW, .ref aEK, .int un])), (aEW, .inl (cI, P * P, .inl tw)), (aEK, .inl (cB, P * P, .inl (fun z9 => bI (kn z9)))), (aS, .inr (0, [.int (nI P), .int (nI (P - 2)), .int (nI (P - 1)), .int (nI (P * (P - 2)))]))] := hD
            refine lv_iload hx hb dX2_settle_109 (lv_at hl 2 rfl) ?_
            refine lv_iconst (v := nI 1) hx hb dX2_settle_111 (by decide) ?_
            refine x_cne (tgt := 142) hx hb dX2_settle_112 (by decide) (by omega) (by omega) (fun h112 => ?_) (fun h112 => ?_)
            · -- 112t
              have e2 : ((dr_st P o row (kn, tw, un)).2.2) = un := by first | rfl | (simp [dr_st, h49, h112]; done)
              have e3 : ((dr_st P o row (kn, tw, un)).2.1) = tw := by first | rfl | (simp [dr_st, h49, h112]; done)
              have e4 : ((dr_st P o row (kn, tw, un)).1) = kn := by first | rfl | (simp [dr_st, h49, h112]; done)
              exact x_vret (D := (dC, dI)) (cl := vwCl) (A := A) () hQ hx hb hr hlk (by rw [e2, e3, e4]; exact hP) (by rw [e2, e3, e4]; exact hD) hS dX2_settle_142 trivial
            · -- 112f
              refine lv_aload_n hx hb dX2_settle_115 rfl (lv_at hl 7 rfl) ?_
              refine va_get (D := (dC, dI)) (ci := 2) (v := .ref aEW) (C := RX2) (T := TX2) (N := 4) hx hb hts inX2 hown hK hP 0 rfl rfl 1 (by decide) (hts _ t_fX2_19) (fun _ h9 => h9) rfl dX2_settle_116 ?_
              refine lv_iload hx hb dX2_settle_119 (lv_at hl 1 rfl) ?_
              refine lv_iload hx hb dX2_settle_121 (lv_at hl 3 rfl) ?_
              refine x_iast (f := tw) hx hb hK hP hD hS 1 0 rfl rfl dX2_settle_123 hso (by omega) (fun H locs hP hD hS => ?_)
              have hP : va_P (dC, dI) vwCl [(aE, .inr (2, [.ref aS, .ref aEW, .ref aEK, .int un])), (aEW, .inl (cI, P * P, .inl (va_up tw (dr_so P kn o row (P - 2)) (dr_ss P tw o row (P - 2))))), (aEK, .inl (cB, P * P, .inl (fun z9 => bI (kn z9)))), (aS, .inr (0, [.int (nI P), .int (nI (P - 2)), .int (nI (P - 1)), .int (nI (P * (P - 2)))]))] H := hP
              have hD : va_D A [(aE, .inr (2, [.ref aS, .ref aEW, .ref aEK, .int un])), (aEW, .inl (cI, P * P, .inl (va_up tw (dr_so P kn o row (P - 2)) (dr_ss P tw o row (P - 2))))), (aEK, .inl (cB, P * P, .inl (fun z9 => bI (kn z9)))), (aS, .inr (0, [.int (nI P), .int (nI (P - 2)), .int (nI (P - 1)), .int (nI (P * (P - 2)))]))] := hD
              refine lv_aload_n hx hb dX2_settle_124 rfl (lv_at hl 7 rfl) ?_
              refine va_get (D := (dC, dI)) (ci := 2) (v := .ref aEK) (C := RX2) (T := TX2) (N := 4) hx hb hts inX2 hown hK hP 0 rfl rfl 2 (by decide) (hts _ t_fX2_23) (fun _ h9 => h9) rfl dX2_settle_125 ?_
              refine lv_iload hx hb dX2_settle_128 (lv_at hl 1 rfl) ?_
              refine lv_iconst (v := bI true) hx hb dX2_settle_130 (by decide) ?_
              refine x_zast (g := kn) hx hb hK hP hD hS 2 1 rfl rfl dX2_settle_131 hso (by omega) (fun H locs hP hD hS => ?_)
              have hP : va_P (dC, dI) vwCl [(aE, .inr (2, [.ref aS, .ref aEW, .ref aEK, .int un])), (aEW, .inl (cI, P * P, .inl (va_up tw (dr_so P kn o row (P - 2)) (dr_ss P tw o row (P - 2))))), (aEK, .inl (cB, P * P, .inl (fun z9 => bI ((va_up kn (dr_so P kn o row (P - 2)) true) z9)))), (aS, .inr (0, [.int (nI P), .int (nI (P - 2)), .int (nI (P - 1)), .int (nI (P * (P - 2)))]))] H := hP
              have hD : va_D A [(aE, .inr (2, [.ref aS, .ref aEW, .ref aEK, .int un])), (aEW, .inl (cI, P * P, .inl (va_up tw (dr_so P kn o row (P - 2)) (dr_ss P tw o row (P - 2))))), (aEK, .inl (cB, P * P, .inl (fun z9 => bI ((va_up kn (dr_so P kn o row (P - 2)) true) z9)))), (aS, .inr (0, [.int (nI P), .int (nI (P - 2)), .int (nI (P - 1)), .int (nI (P * (P - 2)))]))] := hD
              refine lv_aload_n hx hb dX2_settle_132 rfl (lv_at hl 7 rfl) ?_
              refine lv_dup hx hb dX2_settle_133 rfl ?_
              refine va_get (D := (dC, dI)) (ci := 2) (v := .int un) (C := RX2) (T := TX2) (N := 4) hx hb hts inX2 hown hK hP 0 rfl rfl 3 (by decide) (hts _ t_fX2_31) (fun _ h9 => h9) rfl dX2_settle_134 ?_
              refine lv_iconst (v := 1) hx hb dX2_settle_137 (by decide) ?_
              refine lv_isub hx hb dX2_settle_138 ?_
              refine va_put (D := (dC, dI)) (ci := 2) (v := .int (un - 1)) (ty := .int) (C := RX2) (T := TX2) (N := 4) hx hb hts inX2 tyX2 tyX2_ok nmX2 hown hK hP hD hS 0 rfl rfl 3 (by decide) (hts _ t_fX2_31) (fun _ h9 => h9) rfl (by decide +kernel) rfl rfl (Nat.le_of_ble_eq_true rfl) dX2_settle_139 (fun H locs hP hD hS => ?_)
              have hP : va_P (dC, dI) vwCl [(aE, .inr (2, [.ref aS, .ref aEW, .ref aEK, .int (un - 1)])), (aEW, .inl (cI, P * P, .inl (va_up tw (dr_so P kn o row (P - 2)) (dr_ss P tw o row (P - 2))))), (aEK, .inl (cB, P * P, .inl (fun z9 => bI ((va_up kn (dr_so P kn o row (P - 2)) true) z9)))), (aS, .inr (0, [.int (nI P), .int (nI (P - 2)), .int (nI (P - 1)), .int (nI (P * (P - 2)))]))] H := hP
              have hD : va_D A [(aE, .inr (2, [.ref aS, .ref aEW, .ref aEK, .int (un - 1)])), (aEW, .inl (cI, P * P, .inl (va_up tw (dr_so P kn o row (P - 2)) (dr_ss P tw o row (P - 2))))), (aEK, .inl (cB, P * P, .inl (fun z9 => bI ((va_up kn (dr_so P kn o row (P - 2)) true) z9)))), (aS, .inr (0, [.int (nI P), .int (nI (P - 2)), .int (nI (P - 1)), .int (nI (P * (P - 2)))]))] := hD
              have e5 : ((dr_st P o row (kn, tw, un)).2.2) = (un - 1) := by first | rfl | (simp [dr_st, h49, h112]; done)
              have e6 : ((dr_st P o row (kn, tw, un)).2.1) = (va_up tw (dr_so P kn o row (P - 2)) (dr_ss P tw o row (P - 2))) := by first | rfl | (simp [dr_st, h49, h112]; done)
              have e7 : ((dr_st P o row (kn, tw, un)).1) = (va_up kn (dr_so P kn o row (P - 2)) true) := by first | rfl | (simp [dr_st, h49, h112]; done)
              exact x_vret (D := (dC, dI)) (cl := vwCl) (A := A) () hQ hx hb hr hlk (by rw [e5, e6, e7]; exact hP) (by rw [e5, e6, e7]; exact hD) hS dX2_settle_142 trivial
          · -- 49f
            refine lv_aload_n hx hb dX2_settle_52 rfl (lv_at hl 7 rfl) ?_
            refine va_get (D := (dC, dI)) (ci := 2) (v := .ref aS) (C := RX2) (T := TX2) (N := 4) hx hb hts inX2 hown hK hP 0 rfl rfl 0 (by decide) (hts _ t_fX2_7) (fun _ h9 => h9) rfl dX2_settle_53 ?_
            refine lv_aload_n hx hb dX2_settle_56 rfl (lv_at hl 7 rfl) ?_
            refine va_get (D := (dC, dI)) (ci := 2) (v := .ref aS) (C := RX2) (T := TX2) (N := 4) hx hb hts inX2 hown hK hP 0 rfl rfl 0 (by decide) (hts _ t_fX2_7) (fun _ h9 => h9) rfl dX2_settle_57 ?_
            refine lv_iload_n hx hb dX2_settle_60 rfl (lv_at hl 6 rfl) ?_
            refine lv_iload hx hb dX2_settle_61 (lv_at hl 0 rfl) ?_
            refine lv_iload_n hx hb dX2_settle_63 rfl (lv_at hl 5 rfl) ?_
            refine gV (wr := [(aE, .inr (2, [.ref aS, .ref aEW, .ref aEK, .int un])), (aEW, .inl (cI, P * P, .inl tw)), (aEK, .inl (cB, P * P, .inl (fun z9 => bI (kn z9))))]) (pre := [(aE, .inr (2, [.ref aS, .ref aEW, .ref aEK, .int un])), (aEW, .inl (cI, P * P, .inl tw)), (aEK, .inl (cB, P * P, .inl (fun z9 => bI (kn z9)))), (aS, .inr (0, [.int (nI P), .int (nI (P - 2)), .int (nI (P - 1)), .int (nI (P * (P - 2)))]))]) (tl := []) (G := fun (u : Unit) => [(aE, .inr (2, [.ref aS, .ref aEW, .ref aEK, .int un])), (aEW, .inl (cI, P * P, .inl tw)), (aEK, .inl (cB, P * P, .inl (fun z9 => bI (kn z9)))), (aS, .inr (0, [.int (nI P), .int (nI (P - 2)), .int (nI (P - 1)), .int (nI (P * (P - 2)))]))]) (b := aS) (As := [.int (nI o), .int (nI i), .int (nI row)]) (rst := [.ref aS]) ⟨hx, hb, hml, hown, hts⟩ (c_dd l dC dI cI cB cQ cJ aS P o i row hp5 ho (by omega) hrw) (cwV 3 hts (gdV t_mX2_54 t_inst_X0_dataDrive t_sel_X0_dataDrive t_ini_X0 t_code_X0_dataDrive) rfl rfl rfl (by decide +kernel) ⟨Nat.le_of_ble_eq_true rfl, Nat.le_of_ble_eq_true rfl⟩) hK hP hD hS hA [3] [0, 1, 2] [1, 2, 3, 0] rfl (by decide) (fun _ => rfl) (by decide) (ci := 0) rfl rfl rfl rfl hl.1 rfl (Nat.le_of_ble_eq_true rfl) dX2_settle_64 ⟨Nat.zero_le _, Nat.zero_le _⟩ (fun r u H locs hu8 hP hD hS => ?_)
            have hr64 := hu8
            have hr64 : r = nI (dr_dd P o i row) := hr64
            subst hr64
            have hP : va_P (dC, dI) vwCl [(aE, .inr (2, [.ref aS, .ref aEW, .ref aEK, .int un])), (aEW, .inl (cI, P * P, .inl tw)), (aEK, .inl (cB, P * P, .inl (fun z9 => bI (kn z9)))), (aS, .inr (0, [.int (nI P), .int (nI (P - 2)), .int (nI (P - 1)), .int (nI (P * (P - 2)))]))] H := hP
            have hD : va_D A [(aE, .inr (2, [.ref aS, .ref aEW, .ref aEK, .int un])), (aEW, .inl (cI, P * P, .inl tw)), (aEK, .inl (cB, P * P, .inl (fun z9 => bI (kn z9)))), (aS, .inr (0, [.int (nI P), .int (nI (P - 2)), .int (nI (P - 1)), .int (nI (P * (P - 2)))]))] := hD
            refine lv_iload hx hb dX2_settle_67 (lv_at hl 0 rfl) ?_
            refine gV (wr := [(aE, .inr (2, [.ref aS, .ref aEW, .ref aEK, .int un])), (aEW, .inl (cI, P * P, .inl tw)), (aEK, .inl (cB, P * P, .inl (fun z9 => bI (kn z9))))]) (pre := [(aE, .inr (2, [.ref aS, .ref aEW, .ref aEK, .int un])), (aEW, .inl (cI, P * P, .inl tw)), (aEK, .inl (cB, P * P, .inl (fun z9 => bI (kn z9)))), (aS, .inr (0, [.int (nI P), .int (nI (P - 2)), .int (nI (P - 1)), .int (nI (P * (P - 2)))]))]) (tl := []) (G := fun (u : Unit) => [(aE, .inr (2, [.ref aS, .ref aEW, .ref aEK, .int un])), (aEW, .inl (cI, P * P, .inl tw)), (aEK, .inl (cB, P * P, .inl (fun z9 => bI (kn z9)))), (aS, .inr (0, [.int (nI P), .int (nI (P - 2)), .int (nI (P - 1)), .int (nI (P * (P - 2)))]))]) (b := aS) (As := [.int (nI (dr_dd P o i row)), .int (nI i)]) (rst := []) ⟨hx, hb, hml, hown, hts⟩ (c_place l dC dI cI cB cQ cJ aS P (dr_dd P o i row) i ) (cwV 2 hts (gdV t_mX2_44 t_inst_X0_place t_sel_X0_place t_ini_X0 t_code_X0_place) rfl rfl rfl (by decide +kernel) ⟨Nat.le_of_ble_eq_true rfl, Nat.le_of_ble_eq_true rfl⟩) hK hP hD hS hA [3] [0, 1, 2] [1, 2, 3, 0] rfl (by decide) (fun _ => rfl) (by decide) (ci := 0) rfl rfl rfl rfl hl.1 rfl (Nat.le_of_ble_eq_true rfl) dX2_settle_69 ⟨Nat.zero_le _, Nat.zero_le _⟩ (fun r u H locs hu9 hP hD hS => ?_)
            have hr69 := hu9
            have hr69 : r = nI ((dr_dd P o i row) * P + i) := hr69
            subst hr69
            have hP : va_P (dC, dI) vwCl [(aE, .inr (2, [.ref aS, .ref aEW, .ref aEK, .int un])), (aEW, .inl (cI, P * P, .inl tw)), (aEK, .inl (cB, P * P, .inl (fun z9 => bI (kn z9)))), (aS, .inr (0, [.int (nI P), .int (nI (P - 2)), .int (nI (P - 1)), .int (nI (P * (P - 2)))]))] H := hP
            have hD : va_D A [(aE, .inr (2, [.ref aS, .ref aEW, .ref aEK, .int un])), (aEW, .inl (cI, P * P, .inl tw)), (aEK, .inl (cB, P * P, .inl (fun z9 => bI (kn z9)))), (aS, .inr (0, [.int (nI P), .int (nI (P - 2)), .int (nI (P - 1)), .int (nI (P * (P - 2)))]))] := hD
            refine lv_istore hx hb dX2_settle_72 hl (by decide) rfl (fun ls hl => ?_)
            have hl : lv_has ls 9 [(8, .int (nI ((dr_dd P o i row) * P + i))), (7, .int (nI i)), (6, .int (nI (dr_so P kn o row i))), (5, .int (nI (dr_sh P kn o row i))), (4, .int (dr_ss P tw o row i)), (3, .int (nI (o * P + row))), (2, .int (nI row)), (1, .int (nI o)), (0, .ref aE)] := hl
            refine lv_iload hx hb dX2_settle_74 (lv_at hl 4 rfl) ?_
            refine lv_aload_n hx hb dX2_settle_76 rfl (lv_at hl 8 rfl) ?_
            refine va_get (D := (dC, dI)) (ci := 2) (v := .ref aEW) (C := RX2) (T := TX2) (N := 4) hx hb hts inX2 hown hK hP 0 rfl rfl 1 (by decide) (hts _ t_fX2_19) (fun _ h9 => h9) rfl dX2_settle_77 ?_
            refine lv_iload hx hb dX2_settle_80 (lv_at hl 0 rfl) ?_
            refine x_iald (f := tw) hx hb hK hP 1 0 rfl rfl dX2_settle_82 (dr_pl (dr_dd_lt hp5) (by omega)) (by omega) ?_
            refine lv_ixor hx hb dX2_settle_83 ?_
            refine lv_istore hx hb dX2_settle_84 hl (by decide) rfl (fun ls hl => ?_)
            have hl : lv_has ls 9 [(4, .int ((dr_ss P tw o row i) ^^^ (tw ((dr_dd P o i row) * P + i)))), (8, .int (nI ((dr_dd P o i row) * P + i))), (7, .int (nI i)), (6, .int (nI (dr_so P kn o row i))), (5, .int (nI (dr_sh P kn o row i))), (3, .int (nI (o * P + row))), (2, .int (nI row)), (1, .int (nI o)), (0, .ref aE)] := hl
            refine lv_aload_n hx hb dX2_settle_86 rfl (lv_at hl 8 rfl) ?_
            refine va_get (D := (dC, dI)) (ci := 2) (v := .ref aEK) (C := RX2) (T := TX2) (N := 4) hx hb hts inX2 hown hK hP 0 rfl rfl 2 (by decide) (hts _ t_fX2_23) (fun _ h9 => h9) rfl dX2_settle_87 ?_
            refine lv_iload hx hb dX2_settle_90 (lv_at hl 1 rfl) ?_
            refine x_zald (g := kn) hx hb hK hP 2 1 rfl rfl dX2_settle_92 (dr_pl (dr_dd_lt hp5) (by omega)) (by omega) ?_
            refine x_ifT (tgt := 103) hx hb dX2_settle_93 (by decide) (fun h93 => ?_) (fun h93 => ?_)
            · -- 93t
              refine lv_iinc (v := nI (i + 1)) hx hb dX2_settle_103 hl (k := 2) rfl (x_inc _) (by decide) rfl (fun ls hl => ?_)
              have hl : lv_has ls 9 [(7, .int (nI (i + 1))), (4, .int ((dr_ss P tw o row i) ^^^ (tw ((dr_dd P o i row) * P + i)))), (8, .int (nI ((dr_dd P o i row) * P + i))), (6, .int (nI (dr_so P kn o row i))), (5, .int (nI (dr_sh P kn o row i))), (3, .int (nI (o * P + row))), (2, .int (nI row)), (1, .int (nI o)), (0, .ref aE)] := hl
              refine lv_goto (tgt := 40) hx hb dX2_settle_106 (by decide) ?_
              have e10 : (dr_so P kn o row (i + 1)) = (dr_so P kn o row i) := by first | rfl | (simp [dr_sh, dr_so, h49, h93]; done) | (simp [dr_sh, dr_so, h49, h93]; omega)
              have e11 : (dr_sh P kn o row (i + 1)) = (dr_sh P kn o row i) := by first | rfl | (simp [dr_sh, dr_so, h49, h93]; done) | (simp [dr_sh, dr_so, h49, h93]; omega)
              have e12 : (dr_ss P tw o row (i + 1)) = ((dr_ss P tw o row i) ^^^ (tw ((dr_dd P o i row) * P + i))) := by first | rfl | (simp [dr_sh, dr_so, h49, h93]; done) | (simp [dr_sh, dr_so, h49, h93]; omega)
              exact ih40 (i + 1) ls H locs (by omega) (by omega) (by rw [e10, e11, e12]; exact lv_sub hl [0, 3, 4, 1, 5, 6, 7, 8] rfl) hP hD hS
            · -- 93f
              refine lv_iinc (v := nI (dr_sh P kn o row i + 1)) hx hb dX2_settle_96 hl (k := 4) rfl (x_inc _) (by decide) rfl (fun ls hl => ?_)
              have hl : lv_has ls 9 [(5, .int (nI (dr_sh P kn o row i + 1))), (4, .int ((dr_ss P tw o row i) ^^^ (tw ((dr_dd P o i row) * P + i)))), (8, .int (nI ((dr_dd P o i row) * P + i))), (7, .int (nI i)), (6, .int (nI (dr_so P kn o row i))), (3, .int (nI (o * P + row))), (2, .int (nI row)), (1, .int (nI o)), (0, .ref aE)] := hl
              refine lv_iload hx hb dX2_settle_99 (lv_at hl 2 rfl) ?_
              refine lv_istore hx hb dX2_settle_101 hl (by decide) rfl (fun ls hl => ?_)
              have hl : lv_has ls 9 [(6, .int (nI ((dr_dd P o i row) * P + i))), (5, .int (nI (dr_sh P kn o row i + 1))), (4, .int ((dr_ss P tw o row i) ^^^ (tw ((dr_dd P o i row) * P + i)))), (8, .int (nI ((dr_dd P o i row) * P + i))), (7, .int (nI i)), (3, .int (nI (o * P + row))), (2, .int (nI row)), (1, .int (nI o)), (0, .ref aE)] := hl
              refine lv_iinc (v := nI (i + 1)) hx hb dX2_settle_103 hl (k := 4) rfl (x_inc _) (by decide) rfl (fun ls hl => ?_)
              have hl : lv_has ls 9 [(7, .int (nI (i + 1))), (6, .int (nI ((dr_dd P o i row) * P + i))), (5, .int (nI (dr_sh P kn o row i + 1))), (4, .int ((dr_ss P tw o row i) ^^^ (tw ((dr_dd P o i row) * P + i)))), (8, .int (nI ((dr_dd P o i row) * P + i))), (3, .int (nI (o * P + row))), (2, .int (nI row)), (1, .int (nI o)), (0, .ref aE)] := hl
              refine lv_goto (tgt := 40) hx hb dX2_settle_106 (by decide) ?_
              have e13 : (dr_so P kn o row (i + 1)) = ((dr_dd P o i row) * P + i) := by first | rfl | (simp [dr_sh, dr_so, h49, h93]; done) | (simp [dr_sh, dr_so, h49, h93]; omega)
              have e14 : (dr_sh P kn o row (i + 1)) = (dr_sh P kn o row i + 1) := by first | rfl | (simp [dr_sh, dr_so, h49, h93]; done) | (simp [dr_sh, dr_so, h49, h93]; omega)
              have e15 : (dr_ss P tw o row (i + 1)) = ((dr_ss P tw o row i) ^^^ (tw ((dr_dd P o i row) * P + i))) := by first | rfl | (simp [dr_sh, dr_so, h49, h93]; done) | (simp [dr_sh, dr_so, h49, h93]; omega)
              exact ih40 (i + 1) ls H locs (by omega) (by omega) (by rw [e13, e14, e15]; exact lv_sub hl [0, 1, 2, 3, 5, 6, 7, 8] rfl) hP hD hS
      have e16 : (dr_so P kn o row 0) = (o * P + row) := by first | rfl | (simp [dr_sh, dr_so]; done) | (simp [dr_sh, dr_so]; omega)
      have e17 : (dr_ss P tw o row 0) = (tw (o * P + row)) := by first | rfl | (simp [dr_sh, dr_so]; done) | (simp [dr_sh, dr_so]; omega)
      exact lp40 (P - 2 - 0 + 1) 0 ls H locs (by omega) (by omega) (by rw [e16, e17]; exact lv_sub hl [0, 1, 2, 3, 4, 5, 6, 7] rfl) hP hD hS
    exact lp32  ls H locs   (lv_sub hl [0, 1, 4, 3, 2] rfl) hP hD hS
  · -- 24f
    refine lv_iconst (v := nI 0) hx hb dX2_settle_27 (by decide) ?_
    refine x_top (show nI 0 = nI (dr_sh P kn o row 0) from (by simp [dr_sh, h24])) ?_
    refine lv_goto (tgt := 32) hx hb dX2_settle_28 (by decide) ?_
    have lp32 : ∀  (ls : Array Slot) (H : Heap) (locs : List Loc), lv_has ls 9 [(4, .int (tw (o * P + row))), (3, .int (nI (o * P + row))), (2, .int (nI row)), (1, .int (nI o)), (0, .ref aE)] → va_P (dC, dI) vwCl [(aE, .inr (2, [.ref aS, .ref aEW, .ref aEK, .int un])), (aEW, .inl (cI, P * P, .inl tw)), (aEK, .inl (cB, P * P, .inl (fun z9 => bI (kn z9)))), (aS, .inr (0, [.int (nI P), .int (nI (P - 2)), .int (nI (P - 1)), .int (nI (P * (P - 2)))]))] H → va_D A [(aE, .inr (2, [.ref aS, .ref aEW, .ref aEK, .int un])), (aEW, .inl (cI, P * P, .inl tw)), (aEK, .inl (cB, P * P, .inl (fun z9 => bI (kn z9)))), (aS, .inr (0, [.int (nI P), .int (nI (P - 2)), .int (nI (P - 1)), .int (nI (P * (P - 2)))]))] → va_S A s.heap H locs → W p l e rm_c_settle s m args below meth c H locs 0 0 Q (F0 m 32 ls [.int (nI (dr_sh P kn o row 0))]) := by
      intro  ls H locs  hl hP hD hS
      refine lv_istore hx hb dX2_settle_32 hl (by decide) rfl (fun ls hl => ?_)
      have hl : lv_has ls 9 [(5, .int (nI (dr_sh P kn o row 0))), (4, .int (tw (o * P + row))), (3, .int (nI (o * P + row))), (2, .int (nI row)), (1, .int (nI o)), (0, .ref aE)] := hl
      refine lv_iload_n hx hb dX2_settle_34 rfl (lv_at hl 2 rfl) ?_
      refine lv_istore hx hb dX2_settle_35 hl (by decide) rfl (fun ls hl => ?_)
      have hl : lv_has ls 9 [(6, .int (nI (o * P + row))), (5, .int (nI (dr_sh P kn o row 0))), (4, .int (tw (o * P + row))), (3, .int (nI (o * P + row))), (2, .int (nI row)), (1, .int (nI o)), (0, .ref aE)] := hl
      refine lv_iconst (v := nI 0) hx hb dX2_settle_37 (by decide) ?_
      refine lv_istore hx hb dX2_settle_38 hl (by decide) rfl (fun ls hl => ?_)
      have hl : lv_has ls 9 [(7, .int (nI 0)), (6, .int (nI (o * P + row))), (5, .int (nI (dr_sh P kn o row 0))), (4, .int (tw (o * P + row))), (3, .int (nI (o * P + row))), (2, .int (nI row)), (1, .int (nI o)), (0, .ref aE)] := hl
      have lp40 : ∀ (n9 : Nat) (i : Nat) (ls : Array Slot) (H : Heap) (locs : List Loc), P - 2 - i < n9 → (i ≤ P - 2) → lv_has ls 9 [(7, .int (nI i)), (6, .int (nI (dr_so P kn o row i))), (5, .int (nI (dr_sh P kn o row i))), (4, .int (dr_ss P tw o row i)), (3, .int (nI (o * P + row))), (2, .int (nI row)), (1, .int (nI o)), (0, .ref aE)] → va_P (dC, dI) vwCl [(aE, .inr (2, [.ref aS, .ref aEW, .ref aEK, .int un])), (aEW, .inl (cI, P * P, .inl tw)), (aEK, .inl (cB, P * P, .inl (fun z9 => bI (kn z9)))), (aS, .inr (0, [.int (nI P), .int (nI (P - 2)), .int (nI (P - 1)), .int (nI (P * (P - 2)))]))] H → va_D A [(aE, .inr (2, [.ref aS, .ref aEW, .ref aEK, .int un])), (aEW, .inl (cI, P * P, .inl tw)), (aEK, .inl (cB, P * P, .inl (fun z9 => bI (kn z9)))), (aS, .inr (0, [.int (nI P), .int (nI (P - 2)), .int (nI (P - 1)), .int (nI (P * (P - 2)))]))] → va_S A s.heap H locs → W p l e rm_c_settle s m args below meth c H locs 0 0 Q (F0 m 40 ls []) := by
        intro n9
        induction n9 with
        | zero => intro i ls H locs hn9; omega
        | succ n9 ih40 =>
          intro i ls H locs hn9 hi hl hP hD hS
          refine lv_iload hx hb dX2_settle_40 (lv_at hl 0 rfl) ?_
          refine lv_aload_n hx hb dX2_settle_42 rfl (lv_at hl 7 rfl) ?_
          refine va_get (D := (dC, dI)) (ci := 2) (v := .ref aS) (C := RX2) (T := TX2) (N := 4) hx hb hts inX2 hown hK hP 0 rfl rfl 0 (by decide) (hts _ t_fX2_7) (fun _ h9 => h9) rfl dX2_settle_43 ?_
          refine va_get (D := (dC, dI)) (ci := 0) (v := .int (nI (P - 2))) (C := RX0) (T := TX0) (N := 4) hx hb hts inX0 hown hK hP 3 rfl rfl 1 (by decide) (hts _ t_fX2_34) (fun _ h9 => h9) rfl dX2_settle_46 ?_
          refine x_cge (tgt := 109) hx hb dX2_settle_49 (by decide) (by omega) (by omega) (fun h49 => ?_) (fun h49 => ?_)
          · -- 49t
            have hie49 : i = P - 2 := by omega
            try rw [hie49] at hl
            try rw [hie49] at hP
            try rw [hie49] at hD
            have hl : lv_has ls 9 [(7, .int (nI (P - 2))), (6, .int (nI (dr_so P kn o row (P - 2)))), (5, .int (nI (dr_sh P kn o row (P - 2)))), (4, .int (dr_ss P tw o row (P - 2))), (3, .int (nI (o * P + row))), (2, .int (nI row)), (1, .int (nI o)), (0, .ref aE)] := hl
            have hP : va_P (dC, dI) vwCl [(aE, .inr (2, [.ref aS, .ref aEW, .ref aEK, .int un])), (aEW, .inl (cI, P * P, .inl tw)), (aEK, .inl (cB, P * P, .inl (fun z9 => bI (kn z9)))), (aS, .inr (0, [.int (nI P), .int (nI (P - 2)), .int (nI (P - 1)), .int (nI (P * (P - 2)))]))] H := hP
            have hD : va_D A [(aE, .inr (2, [.ref aS, .ref aEW, .ref aEK, .int un])), (aEW, .inl (cI, P * P, .inl tw)), (aEK, .inl (cB, P * P, .inl (fun z9 => bI (kn z9)))), (aS, .inr (0, [.int (nI P), .int (nI (P - 2)), .int (nI (P - 1)), .int (nI (P * (P - 2)))]))] := hD
            refine lv_iload hx hb dX2_settle_109 (lv_at hl 2 rfl) ?_
            refine lv_iconst (v := nI 1) hx hb dX2_settle_111 (by decide) ?_
            refine x_cne (tgt := 142) hx hb dX2_settle_112 (by decide) (by omega) (by omega) (fun h112 => ?_) (fun h112 => ?_)
            · -- 112t
              have e18 : ((dr_st P o row (kn, tw, un)).2.2) = un := by first | rfl | (simp [dr_st, h49, h112]; done)
              have e19 : ((dr_st P o row (kn, tw, un)).2.1) = tw := by first | rfl | (simp [dr_st, h49, h112]; done)
              have e20 : ((dr_st P o row (kn, tw, un)).1) = kn := by first | rfl | (simp [dr_st, h49, h112]; done)
              exact x_vret (D := (dC, dI)) (cl := vwCl) (A := A) () hQ hx hb hr hlk (by rw [e18, e19, e20]; exact hP) (by rw [e18, e19, e20]; exact hD) hS dX2_settle_142 trivial
            · -- 112f
              refine lv_aload_n hx hb dX2_settle_115 rfl (lv_at hl 7 rfl) ?_
              refine va_get (D := (dC, dI)) (ci := 2) (v := .ref aEW) (C := RX2) (T := TX2) (N := 4) hx hb hts inX2 hown hK hP 0 rfl rfl 1 (by decide) (hts _ t_fX2_19) (fun _ h9 => h9) rfl dX2_settle_116 ?_
              refine lv_iload hx hb dX2_settle_119 (lv_at hl 1 rfl) ?_
              refine lv_iload hx hb dX2_settle_121 (lv_at hl 3 rfl) ?_
              refine x_iast (f := tw) hx hb hK hP hD hS 1 0 rfl rfl dX2_settle_123 hso (by omega) (fun H locs hP hD hS => ?_)
              have hP : va_P (dC, dI) vwCl [(aE, .inr (2, [.ref aS, .ref aEW, .ref aEK, .int un])), (aEW, .inl (cI, P * P, .inl (va_up tw (dr_so P kn o row (P - 2)) (dr_ss P tw o row (P - 2))))), (aEK, .inl (cB, P * P, .inl (fun z9 => bI (kn z9)))), (aS, .inr (0, [.int (nI P), .int (nI (P - 2)), .int (nI (P - 1)), .int (nI (P * (P - 2)))]))] H := hP
              have hD : va_D A [(aE, .inr (2, [.ref aS, .ref aEW, .ref aEK, .int un])), (aEW, .inl (cI, P * P, .inl (va_up tw (dr_so P kn o row (P - 2)) (dr_ss P tw o row (P - 2))))), (aEK, .inl (cB, P * P, .inl (fun z9 => bI (kn z9)))), (aS, .inr (0, [.int (nI P), .int (nI (P - 2)), .int (nI (P - 1)), .int (nI (P * (P - 2)))]))] := hD
              refine lv_aload_n hx hb dX2_settle_124 rfl (lv_at hl 7 rfl) ?_
              refine va_get (D := (dC, dI)) (ci := 2) (v := .ref aEK) (C := RX2) (T := TX2) (N := 4) hx hb hts inX2 hown hK hP 0 rfl rfl 2 (by decide) (hts _ t_fX2_23) (fun _ h9 => h9) rfl dX2_settle_125 ?_
              refine lv_iload hx hb dX2_settle_128 (lv_at hl 1 rfl) ?_
              refine lv_iconst (v := bI true) hx hb dX2_settle_130 (by decide) ?_
              refine x_zast (g := kn) hx hb hK hP hD hS 2 1 rfl rfl dX2_settle_131 hso (by omega) (fun H locs hP hD hS => ?_)
              have hP : va_P (dC, dI) vwCl [(aE, .inr (2, [.ref aS, .ref aEW, .ref aEK, .int un])), (aEW, .inl (cI, P * P, .inl (va_up tw (dr_so P kn o row (P - 2)) (dr_ss P tw o row (P - 2))))), (aEK, .inl (cB, P * P, .inl (fun z9 => bI ((va_up kn (dr_so P kn o row (P - 2)) true) z9)))), (aS, .inr (0, [.int (nI P), .int (nI (P - 2)), .int (nI (P - 1)), .int (nI (P * (P - 2)))]))] H := hP
              have hD : va_D A [(aE, .inr (2, [.ref aS, .ref aEW, .ref aEK, .int un])), (aEW, .inl (cI, P * P, .inl (va_up tw (dr_so P kn o row (P - 2)) (dr_ss P tw o row (P - 2))))), (aEK, .inl (cB, P * P, .inl (fun z9 => bI ((va_up kn (dr_so P kn o row (P - 2)) true) z9)))), (aS, .inr (0, [.int (nI P), .int (nI (P - 2)), .int (nI (P - 1)), .int (nI (P * (P - 2)))]))] := hD
              refine lv_aload_n hx hb dX2_settle_132 rfl (lv_at hl 7 rfl) ?_
              refine lv_dup hx hb dX2_settle_133 rfl ?_
              refine va_get (D := (dC, dI)) (ci := 2) (v := .int un) (C := RX2) (T := TX2) (N := 4) hx hb hts inX2 hown hK hP 0 rfl rfl 3 (by decide) (hts _ t_fX2_31) (fun _ h9 => h9) rfl dX2_settle_134 ?_
              refine lv_iconst (v := 1) hx hb dX2_settle_137 (by decide) ?_
              refine lv_isub hx hb dX2_settle_138 ?_
              refine va_put (D := (dC, dI)) (ci := 2) (v := .int (un - 1)) (ty := .int) (C := RX2) (T := TX2) (N := 4) hx hb hts inX2 tyX2 tyX2_ok nmX2 hown hK hP hD hS 0 rfl rfl 3 (by decide) (hts _ t_fX2_31) (fun _ h9 => h9) rfl (by decide +kernel) rfl rfl (Nat.le_of_ble_eq_true rfl) dX2_settle_139 (fun H locs hP hD hS => ?_)
              have hP : va_P (dC, dI) vwCl [(aE, .inr (2, [.ref aS, .ref aEW, .ref aEK, .int (un - 1)])), (aEW, .inl (cI, P * P, .inl (va_up tw (dr_so P kn o row (P - 2)) (dr_ss P tw o row (P - 2))))), (aEK, .inl (cB, P * P, .inl (fun z9 => bI ((va_up kn (dr_so P kn o row (P - 2)) true) z9)))), (aS, .inr (0, [.int (nI P), .int (nI (P - 2)), .int (nI (P - 1)), .int (nI (P * (P - 2)))]))] H := hP
              have hD : va_D A [(aE, .inr (2, [.ref aS, .ref aEW, .ref aEK, .int (un - 1)])), (aEW, .inl (cI, P * P, .inl (va_up tw (dr_so P kn o row (P - 2)) (dr_ss P tw o row (P - 2))))), (aEK, .inl (cB, P * P, .inl (fun z9 => bI ((va_up kn (dr_so P kn o row (P - 2)) true) z9)))), (aS, .inr (0, [.int (nI P), .int (nI (P - 2)), .int (nI (P - 1)), .int (nI (P * (P - 2)))]))] := hD
              have e21 : ((dr_st P o row (kn, tw, un)).2.2) = (un - 1) := by first | rfl | (simp [dr_st, h49, h112]; done)
              have e22 : ((dr_st P o row (kn, tw, un)).2.1) = (va_up tw (dr_so P kn o row (P - 2)) (dr_ss P tw o row (P - 2))) := by first | rfl | (simp [dr_st, h49, h112]; done)
              have e23 : ((dr_st P o row (kn, tw, un)).1) = (va_up kn (dr_so P kn o row (P - 2)) true) := by first | rfl | (simp [dr_st, h49, h112]; done)
              exact x_vret (D := (dC, dI)) (cl := vwCl) (A := A) () hQ hx hb hr hlk (by rw [e21, e22, e23]; exact hP) (by rw [e21, e22, e23]; exact hD) hS dX2_settle_142 trivial
          · -- 49f
            refine lv_aload_n hx hb dX2_settle_52 rfl (lv_at hl 7 rfl) ?_
            refine va_get (D := (dC, dI)) (ci := 2) (v := .ref aS) (C := RX2) (T := TX2) (N := 4) hx hb hts inX2 hown hK hP 0 rfl rfl 0 (by decide) (hts _ t_fX2_7) (fun _ h9 => h9) rfl dX2_settle_53 ?_
            refine lv_aload_n hx hb dX2_settle_56 rfl (lv_at hl 7 rfl) ?_
            refine va_get (D := (dC, dI)) (ci := 2) (v := .ref aS) (C := RX2) (T := TX2) (N := 4) hx hb hts inX2 hown hK hP 0 rfl rfl 0 (by decide) (hts _ t_fX2_7) (fun _ h9 => h9) rfl dX2_settle_57 ?_
            refine lv_iload_n hx hb dX2_settle_60 rfl (lv_at hl 6 rfl) ?_
            refine lv_iload hx hb dX2_settle_61 (lv_at hl 0 rfl) ?_
            refine lv_iload_n hx hb dX2_settle_63 rfl (lv_at hl 5 rfl) ?_
            refine gV (wr := [(aE, .inr (2, [.ref aS, .ref aEW, .ref aEK, .int un])), (aEW, .inl (cI, P * P, .inl tw)), (aEK, .inl (cB, P * P, .inl (fun z9 => bI (kn z9))))]) (pre := [(aE, .inr (2, [.ref aS, .ref aEW, .ref aEK, .int un])), (aEW, .inl (cI, P * P, .inl tw)), (aEK, .inl (cB, P * P, .inl (fun z9 => bI (kn z9)))), (aS, .inr (0, [.int (nI P), .int (nI (P - 2)), .int (nI (P - 1)), .int (nI (P * (P - 2)))]))]) (tl := []) (G := fun (u : Unit) => [(aE, .inr (2, [.ref aS, .ref aEW, .ref aEK, .int un])), (aEW, .inl (cI, P * P, .inl tw)), (aEK, .inl (cB, P * P, .inl (fun z9 => bI (kn z9)))), (aS, .inr (0, [.int (nI P), .int (nI (P - 2)), .int (nI (P - 1)), .int (nI (P * (P - 2)))]))]) (b := aS) (As := [.int (nI o), .int (nI i), .int (nI row)]) (rst := [.ref aS]) ⟨hx, hb, hml, hown, hts⟩ (c_dd l dC dI cI cB cQ cJ aS P o i row hp5 ho (by omega) hrw) (cwV 3 hts (gdV t_mX2_54 t_inst_X0_dataDrive t_sel_X0_dataDrive t_ini_X0 t_code_X0_dataDrive) rfl rfl rfl (by decide +kernel) ⟨Nat.le_of_ble_eq_true rfl, Nat.le_of_ble_eq_true rfl⟩) hK hP hD hS hA [3] [0, 1, 2] [1, 2, 3, 0] rfl (by decide) (fun _ => rfl) (by decide) (ci := 0) rfl rfl rfl rfl hl.1 rfl (Nat.le_of_ble_eq_true rfl) dX2_settle_64 ⟨Nat.zero_le _, Nat.zero_le _⟩ (fun r u H locs hu24 hP hD hS => ?_)
            have hr64 := hu24
            have hr64 : r = nI (dr_dd P o i row) := hr64
            subst hr64
            have hP : va_P (dC, dI) vwCl [(aE, .inr (2, [.ref aS, .ref aEW, .ref aEK, .int un])), (aEW, .inl (cI, P * P, .inl tw)), (aEK, .inl (cB, P * P, .inl (fun z9 => bI (kn z9)))), (aS, .inr (0, [.int (nI P), .int (nI (P - 2)), .int (nI (P - 1)), .int (nI (P * (P - 2)))]))] H := hP
            have hD : va_D A [(aE, .inr (2, [.ref aS, .ref aEW, .ref aEK, .int un])), (aEW, .inl (cI, P * P, .inl tw)), (aEK, .inl (cB, P * P, .inl (fun z9 => bI (kn z9)))), (aS, .inr (0, [.int (nI P), .int (nI (P - 2)), .int (nI (P - 1)), .int (nI (P * (P - 2)))]))] := hD
            refine lv_iload hx hb dX2_settle_67 (lv_at hl 0 rfl) ?_
            refine gV (wr := [(aE, .inr (2, [.ref aS, .ref aEW, .ref aEK, .int un])), (aEW, .inl (cI, P * P, .inl tw)), (aEK, .inl (cB, P * P, .inl (fun z9 => bI (kn z9))))]) (pre := [(aE, .inr (2, [.ref aS, .ref aEW, .ref aEK, .int un])), (aEW, .inl (cI, P * P, .inl tw)), (aEK, .inl (cB, P * P, .inl (fun z9 => bI (kn z9)))), (aS, .inr (0, [.int (nI P), .int (nI (P - 2)), .int (nI (P - 1)), .int (nI (P * (P - 2)))]))]) (tl := []) (G := fun (u : Unit) => [(aE, .inr (2, [.ref aS, .ref aEW, .ref aEK, .int un])), (aEW, .inl (cI, P * P, .inl tw)), (aEK, .inl (cB, P * P, .inl (fun z9 => bI (kn z9)))), (aS, .inr (0, [.int (nI P), .int (nI (P - 2)), .int (nI (P - 1)), .int (nI (P * (P - 2)))]))]) (b := aS) (As := [.int (nI (dr_dd P o i row)), .int (nI i)]) (rst := []) ⟨hx, hb, hml, hown, hts⟩ (c_place l dC dI cI cB cQ cJ aS P (dr_dd P o i row) i ) (cwV 2 hts (gdV t_mX2_44 t_inst_X0_place t_sel_X0_place t_ini_X0 t_code_X0_place) rfl rfl rfl (by decide +kernel) ⟨Nat.le_of_ble_eq_true rfl, Nat.le_of_ble_eq_true rfl⟩) hK hP hD hS hA [3] [0, 1, 2] [1, 2, 3, 0] rfl (by decide) (fun _ => rfl) (by decide) (ci := 0) rfl rfl rfl rfl hl.1 rfl (Nat.le_of_ble_eq_true rfl) dX2_settle_69 ⟨Nat.zero_le _, Nat.zero_le _⟩ (fun r u H locs hu25 hP hD hS => ?_)
            have hr69 := hu25
            have hr69 : r = nI ((dr_dd P o i row) * P + i) := hr69
            subst hr69
            have hP : va_P (dC, dI) vwCl [(aE, .inr (2, [.ref aS, .ref aEW, .ref aEK, .int un])), (aEW, .inl (cI, P * P, .inl tw)), (aEK, .inl (cB, P * P, .inl (fun z9 => bI (kn z9)))), (aS, .inr (0, [.int (nI P), .int (nI (P - 2)), .int (nI (P - 1)), .int (nI (P * (P - 2)))]))] H := hP
            have hD : va_D A [(aE, .inr (2, [.ref aS, .ref aEW, .ref aEK, .int un])), (aEW, .inl (cI, P * P, .inl tw)), (aEK, .inl (cB, P * P, .inl (fun z9 => bI (kn z9)))), (aS, .inr (0, [.int (nI P), .int (nI (P - 2)), .int (nI (P - 1)), .int (nI (P * (P - 2)))]))] := hD
            refine lv_istore hx hb dX2_settle_72 hl (by decide) rfl (fun ls hl => ?_)
            have hl : lv_has ls 9 [(8, .int (nI ((dr_dd P o i row) * P + i))), (7, .int (nI i)), (6, .int (nI (dr_so P kn o row i))), (5, .int (nI (dr_sh P kn o row i))), (4, .int (dr_ss P tw o row i)), (3, .int (nI (o * P + row))), (2, .int (nI row)), (1, .int (nI o)), (0, .ref aE)] := hl
            refine lv_iload hx hb dX2_settle_74 (lv_at hl 4 rfl) ?_
            refine lv_aload_n hx hb dX2_settle_76 rfl (lv_at hl 8 rfl) ?_
            refine va_get (D := (dC, dI)) (ci := 2) (v := .ref aEW) (C := RX2) (T := TX2) (N := 4) hx hb hts inX2 hown hK hP 0 rfl rfl 1 (by decide) (hts _ t_fX2_19) (fun _ h9 => h9) rfl dX2_settle_77 ?_
            refine lv_iload hx hb dX2_settle_80 (lv_at hl 0 rfl) ?_
            refine x_iald (f := tw) hx hb hK hP 1 0 rfl rfl dX2_settle_82 (dr_pl (dr_dd_lt hp5) (by omega)) (by omega) ?_
            refine lv_ixor hx hb dX2_settle_83 ?_
            refine lv_istore hx hb dX2_settle_84 hl (by decide) rfl (fun ls hl => ?_)
            have hl : lv_has ls 9 [(4, .int ((dr_ss P tw o row i) ^^^ (tw ((dr_dd P o i row) * P + i)))), (8, .int (nI ((dr_dd P o i row) * P + i))), (7, .int (nI i)), (6, .int (nI (dr_so P kn o row i))), (5, .int (nI (dr_sh P kn o row i))), (3, .int (nI (o * P + row))), (2, .int (nI row)), (1, .int (nI o)), (0, .ref aE)] := hl
            refine lv_aload_n hx hb dX2_settle_86 rfl (lv_at hl 8 rfl) ?_
            refine va_get (D := (dC, dI)) (ci := 2) (v := .ref aEK) (C := RX2) (T := TX2) (N := 4) hx hb hts inX2 hown hK hP 0 rfl rfl 2 (by decide) (hts _ t_fX2_23) (fun _ h9 => h9) rfl dX2_settle_87 ?_
            refine lv_iload hx hb dX2_settle_90 (lv_at hl 1 rfl) ?_
            refine x_zald (g := kn) hx hb hK hP 2 1 rfl rfl dX2_settle_92 (dr_pl (dr_dd_lt hp5) (by omega)) (by omega) ?_
            refine x_ifT (tgt := 103) hx hb dX2_settle_93 (by decide) (fun h93 => ?_) (fun h93 => ?_)
            · -- 93t
              refine lv_iinc (v := nI (i + 1)) hx hb dX2_settle_103 hl (k := 2) rfl (x_inc _) (by decide) rfl (fun ls hl => ?_)
              have hl : lv_has ls 9 [(7, .int (nI (i + 1))), (4, .int ((dr_ss P tw o row i) ^^^ (tw ((dr_dd P o i row) * P + i)))), (8, .int (nI ((dr_dd P o i row) * P + i))), (6, .int (nI (dr_so P kn o row i))), (5, .int (nI (dr_sh P kn o row i))), (3, .int (nI (o * P + row))), (2, .int (nI row)), (1, .int (nI o)), (0, .ref aE)] := hl
              refine lv_goto (tgt := 40) hx hb dX2_settle_106 (by decide) ?_
              have e26 : (dr_so P kn o row (i + 1)) = (dr_so P kn o row i) := by first | rfl | (simp [dr_sh, dr_so, h49, h93]; done) | (simp [dr_sh, dr_so, h49, h93]; omega)
              have e27 : (dr_sh P kn o row (i + 1)) = (dr_sh P kn o row i) := by first | rfl | (simp [dr_sh, dr_so, h49, h93]; done) | (simp [dr_sh, dr_so, h49, h93]; omega)
              have e28 : (dr_ss P tw o row (i + 1)) = ((dr_ss P tw o row i) ^^^ (tw ((dr_dd P o i row) * P + i))) := by first | rfl | (simp [dr_sh, dr_so, h49, h93]; done) | (simp [dr_sh, dr_so, h49, h93]; omega)
              exact ih40 (i + 1) ls H locs (by omega) (by omega) (by rw [e26, e27, e28]; exact lv_sub hl [0, 3, 4, 1, 5, 6, 7, 8] rfl) hP hD hS
            · -- 93f
              refine lv_iinc (v := nI (dr_sh P kn o row i + 1)) hx hb dX2_settle_96 hl (k := 4) rfl (x_inc _) (by decide) rfl (fun ls hl => ?_)
              have hl : lv_has ls 9 [(5, .int (nI (dr_sh P kn o row i + 1))), (4, .int ((dr_ss P tw o row i) ^^^ (tw ((dr_dd P o i row) * P + i)))), (8, .int (nI ((dr_dd P o i row) * P + i))), (7, .int (nI i)), (6, .int (nI (dr_so P kn o row i))), (3, .int (nI (o * P + row))), (2, .int (nI row)), (1, .int (nI o)), (0, .ref aE)] := hl
              refine lv_iload hx hb dX2_settle_99 (lv_at hl 2 rfl) ?_
              refine lv_istore hx hb dX2_settle_101 hl (by decide) rfl (fun ls hl => ?_)
              have hl : lv_has ls 9 [(6, .int (nI ((dr_dd P o i row) * P + i))), (5, .int (nI (dr_sh P kn o row i + 1))), (4, .int ((dr_ss P tw o row i) ^^^ (tw ((dr_dd P o i row) * P + i)))), (8, .int (nI ((dr_dd P o i row) * P + i))), (7, .int (nI i)), (3, .int (nI (o * P + row))), (2, .int (nI row)), (1, .int (nI o)), (0, .ref aE)] := hl
              refine lv_iinc (v := nI (i + 1)) hx hb dX2_settle_103 hl (k := 4) rfl (x_inc _) (by decide) rfl (fun ls hl => ?_)
              have hl : lv_has ls 9 [(7, .int (nI (i + 1))), (6, .int (nI ((dr_dd P o i row) * P + i))), (5, .int (nI (dr_sh P kn o row i + 1))), (4, .int ((dr_ss P tw o row i) ^^^ (tw ((dr_dd P o i row) * P + i)))), (8, .int (nI ((dr_dd P o i row) * P + i))), (3, .int (nI (o * P + row))), (2, .int (nI row)), (1, .int (nI o)), (0, .ref aE)] := hl
              refine lv_goto (tgt := 40) hx hb dX2_settle_106 (by decide) ?_
              have e29 : (dr_so P kn o row (i + 1)) = ((dr_dd P o i row) * P + i) := by first | rfl | (simp [dr_sh, dr_so, h49, h93]; done) | (simp [dr_sh, dr_so, h49, h93]; omega)
              have e30 : (dr_sh P kn o row (i + 1)) = (dr_sh P kn o row i + 1) := by first | rfl | (simp [dr_sh, dr_so, h49, h93]; done) | (simp [dr_sh, dr_so, h49, h93]; omega)
              have e31 : (dr_ss P tw o row (i + 1)) = ((dr_ss P tw o row i) ^^^ (tw ((dr_dd P o i row) * P + i))) := by first | rfl | (simp [dr_sh, dr_so, h49, h93]; done) | (simp [dr_sh, dr_so, h49, h93]; omega)
              exact ih40 (i + 1) ls H locs (by omega) (by omega) (by rw [e29, e30, e31]; exact lv_sub hl [0, 1, 2, 3, 5, 6, 7, 8] rfl) hP hD hS
      have e32 : (dr_so P kn o row 0) = (o * P + row) := by first | rfl | (simp [dr_sh, dr_so]; done) | (simp [dr_sh, dr_so]; omega)
      have e33 : (dr_ss P tw o row 0) = (tw (o * P + row)) := by first | rfl | (simp [dr_sh, dr_so]; done) | (simp [dr_sh, dr_so]; omega)
      exact lp40 (P - 2 - 0 + 1) 0 ls H locs (by omega) (by omega) (by rw [e32, e33]; exact lv_sub hl [0, 1, 2, 3, 4, 5, 6, 7] rfl) hP hD hS
    exact lp32  ls H locs   (lv_sub hl [0, 1, 4, 3, 2] rfl) hP hD hS

abbrev rm_c_load : Room := { frames := 1, cells := 0, slots := 0, locals := 22 }
set_option maxHeartbeats 4000000 in
set_option maxRecDepth 100000 in
theorem c_load (l : Launch) (dC : Nat → ClassId) (dI : Nat → Nat → Nat) (cI cB cQ cJ : ClassId) (aE : Nat) (aS : Nat) (aEW : Nat) (aEK : Nat) (P : Nat) (tw : Nat → Int32) (kn : Nat → Bool) (un : Int32) (aT : Nat) (aW : Nat) (aM : Nat) (w : Nat → Int32) (ms : Nat → Bool) (mk : Bool) (hp5 : dr_P P) : MV l yX2_load (Cond.code yX2_load cX2_load 5 none :: TB) rm_c_load (dC, dI) vwCl (TY cI cB cQ cJ) [.ref aE, .ref aT] [(aE, .inr (2, [.ref aS, .ref aEW, .ref aEK, .int un])), (aEW, .inl (cI, P * P, .inl tw)), (aEK, .inl (cB, P * P, .inl (fun z9 => bI (kn z9)))), (aS, .inr (0, [.int (nI P), .int (nI (P - 2)), .int (nI (P - 1)), .int (nI (P * (P - 2)))])), (aT, .inr (1, [.ref aS, .ref aW, .ref aM, .int (bI mk)])), (aW, .inl (cI, P * P, .inl w)), (aM, .inl (cB, P, .inl (fun z9 => bI (ms z9))))] (fun (u : Unit) => True) (fun (u : Unit) => [(aE, .inr (2, [.ref aS, .ref aEW, .ref aEK, .int (nI (dr_un P ms P))])), (aEW, .inl (cI, P * P, .inl (dr_LW P ms w tw P))), (aEK, .inl (cB, P * P, .inl (fun z9 => bI ((dr_LK P ms kn P) z9)))), (aS, .inr (0, [.int (nI P), .int (nI (P - 2)), .int (nI (P - 1)), .int (nI (P * (P - 2)))])), (aT, .inr (1, [.ref aS, .ref aW, .ref aM, .int (bI mk)])), (aW, .inl (cI, P * P, .inl w)), (aM, .inl (cB, P, .inl (fun z9 => bI (ms z9))))]) := by
  refine MV.ofW (cc := cX2_load) (maxL := 5) (by decide +kernel) rfl (Nat.le_of_ble_eq_true rfl) ?_
  intro p e s m args below meth c A ls Q H locs hQ hx hb hml hr hlk hts hown hK hP hD hS hA hl
  have hts : ∀ w ∈ TB, w.before args s = true := fun w h => hts w (List.mem_cons_of_mem _ h)
  have hown : s.vm.findClass RX2 = some m.cls := hown
  have hl : lv_has ls 5 [(0, .ref aE), (1, .ref aT)] := hl
  have hP : va_P (dC, dI) vwCl [(aE, .inr (2, [.ref aS, .ref aEW, .ref aEK, .int un])), (aEW, .inl (cI, P * P, .inl tw)), (aEK, .inl (cB, P * P, .inl (fun z9 => bI (kn z9)))), (aS, .inr (0, [.int (nI P), .int (nI (P - 2)), .int (nI (P - 1)), .int (nI (P * (P - 2)))])), (aT, .inr (1, [.ref aS, .ref aW, .ref aM, .int (bI mk)])), (aW, .inl (cI, P * P, .inl w)), (aM, .inl (cB, P, .inl (fun z9 => bI (ms z9))))] H := hP
  have hD : va_D A [(aE, .inr (2, [.ref aS, .ref aEW, .ref aEK, .int un])), (aEW, .inl (cI, P * P, .inl tw)), (aEK, .inl (cB, P * P, .inl (fun z9 => bI (kn z9)))), (aS, .inr (0, [.int (nI P), .int (nI (P - 2)), .int (nI (P - 1)), .int (nI (P * (P - 2)))])), (aT, .inr (1, [.ref aS, .ref aW, .ref aM, .int (bI mk)])), (aW, .inl (cI, P * P, .inl w)), (aM, .inl (cB, P, .inl (fun z9 => bI (ms z9))))] := hD
  have hp := hp5.le
  have hpp := dr_PP hp5
  have hpq := dr_PP2 hp5
  refine lv_aload_n hx hb dX2_load_0 rfl (lv_at hl 0 rfl) ?_
  refine lv_iconst (v := nI 0) hx hb dX2_load_1 (by decide) ?_
  refine va_put (D := (dC, dI)) (ci := 2) (v := .int (nI 0)) (ty := .int) (C := RX2) (T := TX2) (N := 4) hx hb hts inX2 tyX2 tyX2_ok nmX2 hown hK hP hD hS 0 rfl rfl 3 (by decide) (hts _ t_fX2_31) (fun _ h9 => h9) rfl (by decide +kernel) rfl rfl (Nat.le_of_ble_eq_true rfl) dX2_load_2 (fun H locs hP hD hS => ?_)
  have hP : va_P (dC, dI) vwCl [(aE, .inr (2, [.ref aS, .ref aEW, .ref aEK, .int (nI 0)])), (aEW, .inl (cI, P * P, .inl tw)), (aEK, .inl (cB, P * P, .inl (fun z9 => bI (kn z9)))), (aS, .inr (0, [.int (nI P), .int (nI (P - 2)), .int (nI (P - 1)), .int (nI (P * (P - 2)))])), (aT, .inr (1, [.ref aS, .ref aW, .ref aM, .int (bI mk)])), (aW, .inl (cI, P * P, .inl w)), (aM, .inl (cB, P, .inl (fun z9 => bI (ms z9))))] H := hP
  have hD : va_D A [(aE, .inr (2, [.ref aS, .ref aEW, .ref aEK, .int (nI 0)])), (aEW, .inl (cI, P * P, .inl tw)), (aEK, .inl (cB, P * P, .inl (fun z9 => bI (kn z9)))), (aS, .inr (0, [.int (nI P), .int (nI (P - 2)), .int (nI (P - 1)), .int (nI (P * (P - 2)))])), (aT, .inr (1, [.ref aS, .ref aW, .ref aM, .int (bI mk)])), (aW, .inl (cI, P * P, .inl w)), (aM, .inl (cB, P, .inl (fun z9 => bI (ms z9))))] := hD
  refine lv_iconst (v := nI 0) hx hb dX2_load_5 (by decide) ?_
  refine lv_istore_n hx hb dX2_load_6 rfl hl (by decide) rfl (fun ls hl => ?_)
  have hl : lv_has ls 5 [(2, .int (nI 0)), (0, .ref aE), (1, .ref aT)] := hl
  have lp7 : ∀ (n9 : Nat) (i : Nat) (ls : Array Slot) (H : Heap) (locs : List Loc), P - i < n9 → (i ≤ P) → lv_has ls 5 [(2, .int (nI i)), (1, .ref aT), (0, .ref aE)] → va_P (dC, dI) vwCl [(aE, .inr (2, [.ref aS, .ref aEW, .ref aEK, .int (nI (dr_un P ms i))])), (aEW, .inl (cI, P * P, .inl (dr_LW P ms w tw i))), (aEK, .inl (cB, P * P, .inl (fun z9 => bI ((dr_LK P ms kn i) z9)))), (aS, .inr (0, [.int (nI P), .int (nI (P - 2)), .int (nI (P - 1)), .int (nI (P * (P - 2)))])), (aT, .inr (1, [.ref aS, .ref aW, .ref aM, .int (bI mk)])), (aW, .inl (cI, P * P, .inl w)), (aM, .inl (cB, P, .inl (fun z9 => bI (ms z9))))] H → va_D A [(aE, .inr (2, [.ref aS, .ref aEW, .ref aEK, .int (nI (dr_un P ms i))])), (aEW, .inl (cI, P * P, .inl (dr_LW P ms w tw i))), (aEK, .inl (cB, P * P, .inl (fun z9 => bI ((dr_LK P ms kn i) z9)))), (aS, .inr (0, [.int (nI P), .int (nI (P - 2)), .int (nI (P - 1)), .int (nI (P * (P - 2)))])), (aT, .inr (1, [.ref aS, .ref aW, .ref aM, .int (bI mk)])), (aW, .inl (cI, P * P, .inl w)), (aM, .inl (cB, P, .inl (fun z9 => bI (ms z9))))] → va_S A s.heap H locs → W p l e rm_c_load s m args below meth c H locs 0 0 Q (F0 m 7 ls []) := by
    intro n9
    induction n9 with
    | zero => intro i ls H locs hn9; omega
    | succ n9 ih7 =>
      intro i ls H locs hn9 hi hl hP hD hS
      refine lv_iload_n hx hb dX2_load_7 rfl (lv_at hl 0 rfl) ?_
      refine lv_aload_n hx hb dX2_load_8 rfl (lv_at hl 2 rfl) ?_
      refine va_get (D := (dC, dI)) (ci := 2) (v := .ref aS) (C := RX2) (T := TX2) (N := 4) hx hb hts inX2 hown hK hP 0 rfl rfl 0 (by decide) (hts _ t_fX2_7) (fun _ h9 => h9) rfl dX2_load_9 ?_
      refine va_get (D := (dC, dI)) (ci := 0) (v := .int (nI P)) (C := RX0) (T := TX0) (N := 4) hx hb hts inX0 hown hK hP 3 rfl rfl 0 (by decide) (hts _ t_fX2_13) (fun _ h9 => h9) rfl dX2_load_12 ?_
      refine x_cge (tgt := 128) hx hb dX2_load_15 (by decide) (by omega) (by omega) (fun h15 => ?_) (fun h15 => ?_)
      · -- 15t
        have hie15 : i = P := by omega
        try rw [hie15] at hl
        try rw [hie15] at hP
        try rw [hie15] at hD
        have hl : lv_has ls 5 [(2, .int (nI P)), (1, .ref aT), (0, .ref aE)] := hl
        have hP : va_P (dC, dI) vwCl [(aE, .inr (2, [.ref aS, .ref aEW, .ref aEK, .int (nI (dr_un P ms P))])), (aEW, .inl (cI, P * P, .inl (dr_LW P ms w tw P))), (aEK, .inl (cB, P * P, .inl (fun z9 => bI ((dr_LK P ms kn P) z9)))), (aS, .inr (0, [.int (nI P), .int (nI (P - 2)), .int (nI (P - 1)), .int (nI (P * (P - 2)))])), (aT, .inr (1, [.ref aS, .ref aW, .ref aM, .int (bI mk)])), (aW, .inl (cI, P * P, .inl w)), (aM, .inl (cB, P, .inl (fun z9 => bI (ms z9))))] H := hP
        have hD : va_D A [(aE, .inr (2, [.ref aS, .ref aEW, .ref aEK, .int (nI (dr_un P ms P))])), (aEW, .inl (cI, P * P, .inl (dr_LW P ms w tw P))), (aEK, .inl (cB, P * P, .inl (fun z9 => bI ((dr_LK P ms kn P) z9)))), (aS, .inr (0, [.int (nI P), .int (nI (P - 2)), .int (nI (P - 1)), .int (nI (P * (P - 2)))])), (aT, .inr (1, [.ref aS, .ref aW, .ref aM, .int (bI mk)])), (aW, .inl (cI, P * P, .inl w)), (aM, .inl (cB, P, .inl (fun z9 => bI (ms z9))))] := hD
        exact x_vret (D := (dC, dI)) (cl := vwCl) (A := A) () hQ hx hb hr hlk hP hD hS dX2_load_128 trivial
      · -- 15f
        refine lv_iconst (v := nI 0) hx hb dX2_load_18 (by decide) ?_
        refine lv_istore_n hx hb dX2_load_19 rfl hl (by decide) rfl (fun ls hl => ?_)
        have hl : lv_has ls 5 [(3, .int (nI 0)), (2, .int (nI i)), (1, .ref aT), (0, .ref aE)] := hl
        have lp20 : ∀ (n9 : Nat) (j : Nat) (ls : Array Slot) (H : Heap) (locs : List Loc), P - j < n9 → (j ≤ P) → lv_has ls 5 [(3, .int (nI j)), (2, .int (nI i)), (1, .ref aT), (0, .ref aE)] → va_P (dC, dI) vwCl [(aE, .inr (2, [.ref aS, .ref aEW, .ref aEK, .int (nI (dr_un P ms i))])), (aEW, .inl (cI, P * P, .inl (dr_lw P ms w i (dr_LW P ms w tw i) j))), (aEK, .inl (cB, P * P, .inl (fun z9 => bI ((dr_lk P ms i (dr_LK P ms kn i) j) z9)))), (aS, .inr (0, [.int (nI P), .int (nI (P - 2)), .int (nI (P - 1)), .int (nI (P * (P - 2)))])), (aT, .inr (1, [.ref aS, .ref aW, .ref aM, .int (bI mk)])), (aW, .inl (cI, P * P, .inl w)), (aM, .inl (cB, P, .inl (fun z9 => bI (ms z9))))] H → va_D A [(aE, .inr (2, [.ref aS, .ref aEW, .ref aEK, .int (nI (dr_un P ms i))])), (aEW, .inl (cI, P * P, .inl (dr_lw P ms w i (dr_LW P ms w tw i) j))), (aEK, .inl (cB, P * P, .inl (fun z9 => bI ((dr_lk P ms i (dr_LK P ms kn i) j) z9)))), (aS, .inr (0, [.int (nI P), .int (nI (P - 2)), .int (nI (P - 1)), .int (nI (P * (P - 2)))])), (aT, .inr (1, [.ref aS, .ref aW, .ref aM, .int (bI mk)])), (aW, .inl (cI, P * P, .inl w)), (aM, .inl (cB, P, .inl (fun z9 => bI (ms z9))))] → va_S A s.heap H locs → W p l e rm_c_load s m args below meth c H locs 0 0 Q (F0 m 20 ls []) := by
          intro n9
          induction n9 with
          | zero => intro j ls H locs hn9; omega
          | succ n9 ih20 =>
            intro j ls H locs hn9 hj hl hP hD hS
            refine lv_iload_n hx hb dX2_load_20 rfl (lv_at hl 0 rfl) ?_
            refine lv_aload_n hx hb dX2_load_21 rfl (lv_at hl 3 rfl) ?_
            refine va_get (D := (dC, dI)) (ci := 2) (v := .ref aS) (C := RX2) (T := TX2) (N := 4) hx hb hts inX2 hown hK hP 0 rfl rfl 0 (by decide) (hts _ t_fX2_7) (fun _ h9 => h9) rfl dX2_load_22 ?_
            refine va_get (D := (dC, dI)) (ci := 0) (v := .int (nI P)) (C := RX0) (T := TX0) (N := 4) hx hb hts inX0 hown hK hP 3 rfl rfl 0 (by decide) (hts _ t_fX2_13) (fun _ h9 => h9) rfl dX2_load_25 ?_
            refine x_cge (tgt := 97) hx hb dX2_load_28 (by decide) (by omega) (by omega) (fun h28 => ?_) (fun h28 => ?_)
            · -- 28t
              have hie28 : j = P := by omega
              try rw [hie28] at hl
              try rw [hie28] at hP
              try rw [hie28] at hD
              have hl : lv_has ls 5 [(3, .int (nI P)), (2, .int (nI i)), (1, .ref aT), (0, .ref aE)] := hl
              have hP : va_P (dC, dI) vwCl [(aE, .inr (2, [.ref aS, .ref aEW, .ref aEK, .int (nI (dr_un P ms i))])), (aEW, .inl (cI, P * P, .inl (dr_lw P ms w i (dr_LW P ms w tw i) P))), (aEK, .inl (cB, P * P, .inl (fun z9 => bI ((dr_lk P ms i (dr_LK P ms kn i) P) z9)))), (aS, .inr (0, [.int (nI P), .int (nI (P - 2)), .int (nI (P - 1)), .int (nI (P * (P - 2)))])), (aT, .inr (1, [.ref aS, .ref aW, .ref aM, .int (bI mk)])), (aW, .inl (cI, P * P, .inl w)), (aM, .inl (cB, P, .inl (fun z9 => bI (ms z9))))] H := hP
              have hD : va_D A [(aE, .inr (2, [.ref aS, .ref aEW, .ref aEK, .int (nI (dr_un P ms i))])), (aEW, .inl (cI, P * P, .inl (dr_lw P ms w i (dr_LW P ms w tw i) P))), (aEK, .inl (cB, P * P, .inl (fun z9 => bI ((dr_lk P ms i (dr_LK P ms kn i) P) z9)))), (aS, .inr (0, [.int (nI P), .int (nI (P - 2)), .int (nI (P - 1)), .int (nI (P * (P - 2)))])), (aT, .inr (1, [.ref aS, .ref aW, .ref aM, .int (bI mk)])), (aW, .inl (cI, P * P, .inl w)), (aM, .inl (cB, P, .inl (fun z9 => bI (ms z9))))] := hD
              refine lv_aload_n hx hb dX2_load_97 rfl (lv_at hl 2 rfl) ?_
              refine va_get (D := (dC, dI)) (ci := 1) (v := .ref aM) (C := RX1) (T := TX1) (N := 4) hx hb hts inX1 hown hK hP 4 rfl rfl 2 (by decide) (hts _ t_fX2_48) (fun _ h9 => h9) rfl dX2_load_98 ?_
              refine lv_iload_n hx hb dX2_load_101 rfl (lv_at hl 1 rfl) ?_
              refine x_zald (g := ms) hx hb hK hP 6 1 rfl rfl dX2_load_102 (by omega) (by omega) ?_
              refine x_ifF (tgt := 122) hx hb dX2_load_103 (by decide) (fun h103 => ?_) (fun h103 => ?_)
              · -- 103t
                refine lv_iinc (v := nI (i + 1)) hx hb dX2_load_122 hl (k := 1) rfl (x_inc _) (by decide) rfl (fun ls hl => ?_)
                have hl : lv_has ls 5 [(2, .int (nI (i + 1))), (3, .int (nI P)), (1, .ref aT), (0, .ref aE)] := hl
                refine lv_goto (tgt := 7) hx hb dX2_load_125 (by decide) ?_
                have e1 : (nI (dr_un P ms (i + 1))) = (nI (dr_un P ms i)) := by first | rfl | (simp [dr_un, h28, h103]; done) | (simp [dr_un, h28, h103]; omega)
                have e2 : (dr_LW P ms w tw (i + 1)) = (dr_lw P ms w i (dr_LW P ms w tw i) P) := by first | rfl | (simp [dr_un, h28, h103]; done) | (simp [dr_un, h28, h103]; omega)
                have e3 : (dr_LK P ms kn (i + 1)) = (dr_lk P ms i (dr_LK P ms kn i) P) := by first | rfl | (simp [dr_un, h28, h103]; done) | (simp [dr_un, h28, h103]; omega)
                exact ih7 (i + 1) ls H locs (by omega) (by omega) (lv_sub hl [0, 2, 3] rfl) (by rw [e1, e2, e3]; exact hP) (by rw [e1, e2, e3]; exact hD) hS
              · -- 103f
                refine lv_aload_n hx hb dX2_load_106 rfl (lv_at hl 3 rfl) ?_
                refine lv_dup hx hb dX2_load_107 rfl ?_
                refine va_get (D := (dC, dI)) (ci := 2) (v := .int (nI (dr_un P ms i))) (C := RX2) (T := TX2) (N := 4) hx hb hts inX2 hown hK hP 0 rfl rfl 3 (by decide) (hts _ t_fX2_31) (fun _ h9 => h9) rfl dX2_load_108 ?_
                refine lv_aload_n hx hb dX2_load_111 rfl (lv_at hl 3 rfl) ?_
                refine va_get (D := (dC, dI)) (ci := 2) (v := .ref aS) (C := RX2) (T := TX2) (N := 4) hx hb hts inX2 hown hK hP 0 rfl rfl 0 (by decide) (hts _ t_fX2_7) (fun _ h9 => h9) rfl dX2_load_112 ?_
                refine va_get (D := (dC, dI)) (ci := 0) (v := .int (nI P)) (C := RX0) (T := TX0) (N := 4) hx hb hts inX0 hown hK hP 3 rfl rfl 0 (by decide) (hts _ t_fX2_13) (fun _ h9 => h9) rfl dX2_load_115 ?_
                refine lv_iadd hx hb dX2_load_118 ?_
                refine x_top (show (nI (dr_un P ms i)) + (nI P) = nI (dr_un P ms i + P) from (nI_add _ _)) ?_
                refine va_put (D := (dC, dI)) (ci := 2) (v := .int (nI (dr_un P ms i + P))) (ty := .int) (C := RX2) (T := TX2) (N := 4) hx hb hts inX2 tyX2 tyX2_ok nmX2 hown hK hP hD hS 0 rfl rfl 3 (by decide) (hts _ t_fX2_31) (fun _ h9 => h9) rfl (by decide +kernel) rfl rfl (Nat.le_of_ble_eq_true rfl) dX2_load_119 (fun H locs hP hD hS => ?_)
                have hP : va_P (dC, dI) vwCl [(aE, .inr (2, [.ref aS, .ref aEW, .ref aEK, .int (nI (dr_un P ms i + P))])), (aEW, .inl (cI, P * P, .inl (dr_lw P ms w i (dr_LW P ms w tw i) P))), (aEK, .inl (cB, P * P, .inl (fun z9 => bI ((dr_lk P ms i (dr_LK P ms kn i) P) z9)))), (aS, .inr (0, [.int (nI P), .int (nI (P - 2)), .int (nI (P - 1)), .int (nI (P * (P - 2)))])), (aT, .inr (1, [.ref aS, .ref aW, .ref aM, .int (bI mk)])), (aW, .inl (cI, P * P, .inl w)), (aM, .inl (cB, P, .inl (fun z9 => bI (ms z9))))] H := hP
                have hD : va_D A [(aE, .inr (2, [.ref aS, .ref aEW, .ref aEK, .int (nI (dr_un P ms i + P))])), (aEW, .inl (cI, P * P, .inl (dr_lw P ms w i (dr_LW P ms w tw i) P))), (aEK, .inl (cB, P * P, .inl (fun z9 => bI ((dr_lk P ms i (dr_LK P ms kn i) P) z9)))), (aS, .inr (0, [.int (nI P), .int (nI (P - 2)), .int (nI (P - 1)), .int (nI (P * (P - 2)))])), (aT, .inr (1, [.ref aS, .ref aW, .ref aM, .int (bI mk)])), (aW, .inl (cI, P * P, .inl w)), (aM, .inl (cB, P, .inl (fun z9 => bI (ms z9))))] := hD
                refine lv_iinc (v := nI (i + 1)) hx hb dX2_load_122 hl (k := 1) rfl (x_inc _) (by decide) rfl (fun ls hl => ?_)
                have hl : lv_has ls 5 [(2, .int (nI (i + 1))), (3, .int (nI P)), (1, .ref aT), (0, .ref aE)] := hl
                refine lv_goto (tgt := 7) hx hb dX2_load_125 (by decide) ?_
                have e4 : (nI (dr_un P ms (i + 1))) = (nI (dr_un P ms i + P)) := by first | rfl | (simp [dr_un, h28, h103]; done) | (simp [dr_un, h28, h103]; omega)
                have e5 : (dr_LW P ms w tw (i + 1)) = (dr_lw P ms w i (dr_LW P ms w tw i) P) := by first | rfl | (simp [dr_un, h28, h103]; done) | (simp [dr_un, h28, h103]; omega)
                have e6 : (dr_LK P ms kn (i + 1)) = (dr_lk P ms i (dr_LK P ms kn i) P) := by first | rfl | (simp [dr_un, h28, h103]; done) | (simp [dr_un, h28, h103]; omega)
                exact ih7 (i + 1) ls H locs (by omega) (by omega) (lv_sub hl [0, 2, 3] rfl) (by rw [e4, e5, e6]; exact hP) (by rw [e4, e5, e6]; exact hD) hS
            · -- 28f
              refine lv_aload_n hx hb dX2_load_31 rfl (lv_at hl 3 rfl) ?_
              refine va_get (D := (dC, dI)) (ci := 2) (v := .ref aS) (C := RX2) (T := TX2) (N := 4) hx hb hts inX2 hown hK hP 0 rfl rfl 0 (by decide) (hts _ t_fX2_7) (fun _ h9 => h9) rfl dX2_load_32 ?_
              refine lv_iload_n hx hb dX2_load_35 rfl (lv_at hl 1 rfl) ?_
              refine lv_iload_n hx hb dX2_load_36 rfl (lv_at hl 0 rfl) ?_
              refine gV (wr := [(aE, .inr (2, [.ref aS, .ref aEW, .ref aEK, .int (nI (dr_un P ms i))])), (aEW, .inl (cI, P * P, .inl (dr_lw P ms w i (dr_LW P ms w tw i) j))), (aEK, .inl (cB, P * P, .inl (fun z9 => bI ((dr_lk P ms i (dr_LK P ms kn i) j) z9)))), (aT, .inr (1, [.ref aS, .ref aW, .ref aM, .int (bI mk)])), (aW, .inl (cI, P * P, .inl w)), (aM, .inl (cB, P, .inl (fun z9 => bI (ms z9))))]) (pre := [(aE, .inr (2, [.ref aS, .ref aEW, .ref aEK, .int (nI (dr_un P ms i))])), (aEW, .inl (cI, P * P, .inl (dr_lw P ms w i (dr_LW P ms w tw i) j))), (aEK, .inl (cB, P * P, .inl (fun z9 => bI ((dr_lk P ms i (dr_LK P ms kn i) j) z9)))), (aS, .inr (0, [.int (nI P), .int (nI (P - 2)), .int (nI (P - 1)), .int (nI (P * (P - 2)))])), (aT, .inr (1, [.ref aS, .ref aW, .ref aM, .int (bI mk)])), (aW, .inl (cI, P * P, .inl w)), (aM, .inl (cB, P, .inl (fun z9 => bI (ms z9))))]) (tl := []) (G := fun (u : Unit) => [(aE, .inr (2, [.ref aS, .ref aEW, .ref aEK, .int (nI (dr_un P ms i))])), (aEW, .inl (cI, P * P, .inl (dr_lw P ms w i (dr_LW P ms w tw i) j))), (aEK, .inl (cB, P * P, .inl (fun z9 => bI ((dr_lk P ms i (dr_LK P ms kn i) j) z9)))), (aS, .inr (0, [.int (nI P), .int (nI (P - 2)), .int (nI (P - 1)), .int (nI (P * (P - 2)))])), (aT, .inr (1, [.ref aS, .ref aW, .ref aM, .int (bI mk)])), (aW, .inl (cI, P * P, .inl w)), (aM, .inl (cB, P, .inl (fun z9 => bI (ms z9))))]) (b := aS) (As := [.int (nI i), .int (nI j)]) (rst := []) ⟨hx, hb, hml, hown, hts⟩ (c_place l dC dI cI cB cQ cJ aS P i j ) (cwV 2 hts (gdV t_mX2_44 t_inst_X0_place t_sel_X0_place t_ini_X0 t_code_X0_place) rfl rfl rfl (by decide +kernel) ⟨Nat.le_of_ble_eq_true rfl, Nat.le_of_ble_eq_true rfl⟩) hK hP hD hS hA [3] [0, 1, 2, 4, 5, 6] [1, 2, 3, 0, 4, 5, 6] rfl (by decide) (fun _ => rfl) (by decide) (ci := 0) rfl rfl rfl rfl hl.1 rfl (Nat.le_of_ble_eq_true rfl) dX2_load_37 ⟨Nat.zero_le _, Nat.zero_le _⟩ (fun r u H locs hu7 hP hD hS => ?_)
              have hr37 := hu7
              have hr37 : r = nI (i * P + j) := hr37
              subst hr37
              have hP : va_P (dC, dI) vwCl [(aE, .inr (2, [.ref aS, .ref aEW, .ref aEK, .int (nI (dr_un P ms i))])), (aEW, .inl (cI, P * P, .inl (dr_lw P ms w i (dr_LW P ms w tw i) j))), (aEK, .inl (cB, P * P, .inl (fun z9 => bI ((dr_lk P ms i (dr_LK P ms kn i) j) z9)))), (aS, .inr (0, [.int (nI P), .int (nI (P - 2)), .int (nI (P - 1)), .int (nI (P * (P - 2)))])), (aT, .inr (1, [.ref aS, .ref aW, .ref aM, .int (bI mk)])), (aW, .inl (cI, P * P, .inl w)), (aM, .inl (cB, P, .inl (fun z9 => bI (ms z9))))] H := hP
              have hD : va_D A [(aE, .inr (2, [.ref aS, .ref aEW, .ref aEK, .int (nI (dr_un P ms i))])), (aEW, .inl (cI, P * P, .inl (dr_lw P ms w i (dr_LW P ms w tw i) j))), (aEK, .inl (cB, P * P, .inl (fun z9 => bI ((dr_lk P ms i (dr_LK P ms kn i) j) z9)))), (aS, .inr (0, [.int (nI P), .int (nI (P - 2)), .int (nI (P - 1)), .int (nI (P * (P - 2)))])), (aT, .inr (1, [.ref aS, .ref aW, .ref aM, .int (bI mk)])), (aW, .inl (cI, P * P, .inl w)), (aM, .inl (cB, P, .inl (fun z9 => bI (ms z9))))] := hD
              refine lv_istore hx hb dX2_load_40 hl (by decide) rfl (fun ls hl => ?_)
              have hl : lv_has ls 5 [(4, .int (nI (i * P + j))), (3, .int (nI j)), (2, .int (nI i)), (1, .ref aT), (0, .ref aE)] := hl
              refine lv_aload_n hx hb dX2_load_42 rfl (lv_at hl 4 rfl) ?_
              refine va_get (D := (dC, dI)) (ci := 2) (v := .ref aEK) (C := RX2) (T := TX2) (N := 4) hx hb hts inX2 hown hK hP 0 rfl rfl 2 (by decide) (hts _ t_fX2_23) (fun _ h9 => h9) rfl dX2_load_43 ?_
              refine lv_iload hx hb dX2_load_46 (lv_at hl 0 rfl) ?_
              refine lv_aload_n hx hb dX2_load_48 rfl (lv_at hl 3 rfl) ?_
              refine va_get (D := (dC, dI)) (ci := 1) (v := .ref aM) (C := RX1) (T := TX1) (N := 4) hx hb hts inX1 hown hK hP 4 rfl rfl 2 (by decide) (hts _ t_fX2_48) (fun _ h9 => h9) rfl dX2_load_49 ?_
              refine lv_iload_n hx hb dX2_load_52 rfl (lv_at hl 2 rfl) ?_
              refine x_zald (g := ms) hx hb hK hP 6 1 rfl rfl dX2_load_53 (by omega) (by omega) ?_
              refine x_ifT (tgt := 61) hx hb dX2_load_54 (by decide) (fun h54 => ?_) (fun h54 => ?_)
              · -- 54t
                refine lv_iconst (v := bI false) hx hb dX2_load_61 (by decide) ?_
                refine x_top (show bI false = bI (!ms i) from (by simp [h54])) ?_
                refine x_zast (g := dr_lk P ms i (dr_LK P ms kn i) j) hx hb hK hP hD hS 2 1 rfl rfl dX2_load_62 (dr_pl (by omega) (by omega)) (by omega) (fun H locs hP hD hS => ?_)
                have hP : va_P (dC, dI) vwCl [(aE, .inr (2, [.ref aS, .ref aEW, .ref aEK, .int (nI (dr_un P ms i))])), (aEW, .inl (cI, P * P, .inl (dr_lw P ms w i (dr_LW P ms w tw i) j))), (aEK, .inl (cB, P * P, .inl (fun z9 => bI ((dr_lk P ms i (dr_LK P ms kn i) (j + 1)) z9)))), (aS, .inr (0, [.int (nI P), .int (nI (P - 2)), .int (nI (P - 1)), .int (nI (P * (P - 2)))])), (aT, .inr (1, [.ref aS, .ref aW, .ref aM, .int (bI mk)])), (aW, .inl (cI, P * P, .inl w)), (aM, .inl (cB, P, .inl (fun z9 => bI (ms z9))))] H := hP
                have hD : va_D A [(aE, .inr (2, [.ref aS, .ref aEW, .ref aEK, .int (nI (dr_un P ms i))])), (aEW, .inl (cI, P * P, .inl (dr_lw P ms w i (dr_LW P ms w tw i) j))), (aEK, .inl (cB, P * P, .inl (fun z9 => bI ((dr_lk P ms i (dr_LK P ms kn i) (j + 1)) z9)))), (aS, .inr (0, [.int (nI P), .int (nI (P - 2)), .int (nI (P - 1)), .int (nI (P * (P - 2)))])), (aT, .inr (1, [.ref aS, .ref aW, .ref aM, .int (bI mk)])), (aW, .inl (cI, P * P, .inl w)), (aM, .inl (cB, P, .inl (fun z9 => bI (ms z9))))] := hD
                refine lv_aload_n hx hb dX2_load_63 rfl (lv_at hl 4 rfl) ?_
                refine va_get (D := (dC, dI)) (ci := 2) (v := .ref aEW) (C := RX2) (T := TX2) (N := 4) hx hb hts inX2 hown hK hP 0 rfl rfl 1 (by decide) (hts _ t_fX2_19) (fun _ h9 => h9) rfl dX2_load_64 ?_
                refine lv_iload hx hb dX2_load_67 (lv_at hl 0 rfl) ?_
                refine lv_aload_n hx hb dX2_load_69 rfl (lv_at hl 4 rfl) ?_
                refine va_get (D := (dC, dI)) (ci := 2) (v := .ref aEK) (C := RX2) (T := TX2) (N := 4) hx hb hts inX2 hown hK hP 0 rfl rfl 2 (by decide) (hts _ t_fX2_23) (fun _ h9 => h9) rfl dX2_load_70 ?_
                refine lv_iload hx hb dX2_load_73 (lv_at hl 0 rfl) ?_
                refine x_zald (g := dr_lk P ms i (dr_LK P ms kn i) (j + 1)) hx hb hK hP 2 1 rfl rfl dX2_load_75 (dr_pl (by omega) (by omega)) (by omega) ?_
                refine x_top (show bI ((dr_lk P ms i (dr_LK P ms kn i) (j + 1)) (i * P + j)) = bI (!ms i) from (by rw [dr_lk, va_up_s])) ?_
                refine x_ifF (tgt := 89) hx hb dX2_load_76 (by decide) (fun h76 => ?_) (fun h76 => ?_)
                · -- 76t
                  refine lv_iconst (v := 0) hx hb dX2_load_89 (by decide) ?_
                  refine x_top (show 0 = if ms i = true then 0 else w (i * P + j) from (by rw [if_pos (by simpa using h76)])) ?_
                  refine x_iast (f := dr_lw P ms w i (dr_LW P ms w tw i) j) hx hb hK hP hD hS 1 0 rfl rfl dX2_load_90 (dr_pl (by omega) (by omega)) (by omega) (fun H locs hP hD hS => ?_)
                  have hP : va_P (dC, dI) vwCl [(aE, .inr (2, [.ref aS, .ref aEW, .ref aEK, .int (nI (dr_un P ms i))])), (aEW, .inl (cI, P * P, .inl (dr_lw P ms w i (dr_LW P ms w tw i) (j + 1)))), (aEK, .inl (cB, P * P, .inl (fun z9 => bI ((dr_lk P ms i (dr_LK P ms kn i) (j + 1)) z9)))), (aS, .inr (0, [.int (nI P), .int (nI (P - 2)), .int (nI (P - 1)), .int (nI (P * (P - 2)))])), (aT, .inr (1, [.ref aS, .ref aW, .ref aM, .int (bI mk)])), (aW, .inl (cI, P * P, .inl w)), (aM, .inl (cB, P, .inl (fun z9 => bI (ms z9))))] H := hP
                  have hD : va_D A [(aE, .inr (2, [.ref aS, .ref aEW, .ref aEK, .int (nI (dr_un P ms i))])), (aEW, .inl (cI, P * P, .inl (dr_lw P ms w i (dr_LW P ms w tw i) (j + 1)))), (aEK, .inl (cB, P * P, .inl (fun z9 => bI ((dr_lk P ms i (dr_LK P ms kn i) (j + 1)) z9)))), (aS, .inr (0, [.int (nI P), .int (nI (P - 2)), .int (nI (P - 1)), .int (nI (P * (P - 2)))])), (aT, .inr (1, [.ref aS, .ref aW, .ref aM, .int (bI mk)])), (aW, .inl (cI, P * P, .inl w)), (aM, .inl (cB, P, .inl (fun z9 => bI (ms z9))))] := hD
                  refine lv_iinc (v := nI (j + 1)) hx hb dX2_load_91 hl (k := 1) rfl (x_inc _) (by decide) rfl (fun ls hl => ?_)
                  have hl : lv_has ls 5 [(3, .int (nI (j + 1))), (4, .int (nI (i * P + j))), (2, .int (nI i)), (1, .ref aT), (0, .ref aE)] := hl
                  refine lv_goto (tgt := 20) hx hb dX2_load_94 (by decide) ?_
                  exact ih20 (j + 1) ls H locs (by omega) (by omega) (lv_sub hl [0, 2, 3, 4] rfl) hP hD hS
                · -- 76f
                  refine lv_aload_n hx hb dX2_load_79 rfl (lv_at hl 3 rfl) ?_
                  refine va_get (D := (dC, dI)) (ci := 1) (v := .ref aW) (C := RX1) (T := TX1) (N := 4) hx hb hts inX1 hown hK hP 4 rfl rfl 1 (by decide) (hts _ t_fX2_53) (fun _ h9 => h9) rfl dX2_load_80 ?_
                  refine lv_iload hx hb dX2_load_83 (lv_at hl 0 rfl) ?_
                  refine x_iald (f := w) hx hb hK hP 5 0 rfl rfl dX2_load_85 (dr_pl (by omega) (by omega)) (by omega) ?_
                  refine x_top (show w (i * P + j) = if ms i = true then 0 else w (i * P + j) from (by rw [if_neg (by simpa using h76)])) ?_
                  refine lv_goto (tgt := 90) hx hb dX2_load_86 (by decide) ?_
                  refine x_iast (f := dr_lw P ms w i (dr_LW P ms w tw i) j) hx hb hK hP hD hS 1 0 rfl rfl dX2_load_90 (dr_pl (by omega) (by omega)) (by omega) (fun H locs hP hD hS => ?_)
                  have hP : va_P (dC, dI) vwCl [(aE, .inr (2, [.ref aS, .ref aEW, .ref aEK, .int (nI (dr_un P ms i))])), (aEW, .inl (cI, P * P, .inl (dr_lw P ms w i (dr_LW P ms w tw i) (j + 1)))), (aEK, .inl (cB, P * P, .inl (fun z9 => bI ((dr_lk P ms i (dr_LK P ms kn i) (j + 1)) z9)))), (aS, .inr (0, [.int (nI P), .int (nI (P - 2)), .int (nI (P - 1)), .int (nI (P * (P - 2)))])), (aT, .inr (1, [.ref aS, .ref aW, .ref aM, .int (bI mk)])), (aW, .inl (cI, P * P, .inl w)), (aM, .inl (cB, P, .inl (fun z9 => bI (ms z9))))] H := hP
                  have hD : va_D A [(aE, .inr (2, [.ref aS, .ref aEW, .ref aEK, .int (nI (dr_un P ms i))])), (aEW, .inl (cI, P * P, .inl (dr_lw P ms w i (dr_LW P ms w tw i) (j + 1)))), (aEK, .inl (cB, P * P, .inl (fun z9 => bI ((dr_lk P ms i (dr_LK P ms kn i) (j + 1)) z9)))), (aS, .inr (0, [.int (nI P), .int (nI (P - 2)), .int (nI (P - 1)), .int (nI (P * (P - 2)))])), (aT, .inr (1, [.ref aS, .ref aW, .ref aM, .int (bI mk)])), (aW, .inl (cI, P * P, .inl w)), (aM, .inl (cB, P, .inl (fun z9 => bI (ms z9))))] := hD
                  refine lv_iinc (v := nI (j + 1)) hx hb dX2_load_91 hl (k := 1) rfl (x_inc _) (by decide) rfl (fun ls hl => ?_)
                  have hl : lv_has ls 5 [(3, .int (nI (j + 1))), (4, .int (nI (i * P + j))), (2, .int (nI i)), (1, .ref aT), (0, .ref aE)] := hl
                  refine lv_goto (tgt := 20) hx hb dX2_load_94 (by decide) ?_
                  exact ih20 (j + 1) ls H locs (by omega) (by omega) (lv_sub hl [0, 2, 3, 4] rfl) hP hD hS
              · -- 54f
                refine lv_iconst (v := bI true) hx hb dX2_load_57 (by decide) ?_
                refine x_top (show bI true = bI (!ms i) from (by simp [h54])) ?_
                refine lv_goto (tgt := 62) hx hb dX2_load_58 (by decide) ?_
                refine x_zast (g := dr_lk P ms i (dr_LK P ms kn i) j) hx hb hK hP hD hS 2 1 rfl rfl dX2_load_62 (dr_pl (by omega) (by omega)) (by omega) (fun H locs hP hD hS => ?_)
                have hP : va_P (dC, dI) vwCl [(aE, .inr (2, [.ref aS, .ref aEW, .ref aEK, .int (nI (dr_un P ms i))])), (aEW, .inl (cI, P * P, .inl (dr_lw P ms w i (dr_LW P ms w tw i) j))), (aEK, .inl (cB, P * P, .inl (fun z9 => bI ((dr_lk P ms i (dr_LK P ms kn i) (j + 1)) z9)))), (aS, .inr (0, [.int (nI P), .int (nI (P - 2)), .int (nI (P - 1)), .int (nI (P * (P - 2)))])), (aT, .inr (1, [.ref aS, .ref aW, .ref aM, .int (bI mk)])), (aW, .inl (cI, P * P, .inl w)), (aM, .inl (cB, P, .inl (fun z9 => bI (ms z9))))] H := hP
                have hD : va_D A [(aE, .inr (2, [.ref aS, .ref aEW, .ref aEK, .int (nI (dr_un P ms i))])), (aEW, .inl (cI, P * P, .inl (dr_lw P ms w i (dr_LW P ms w tw i) j))), (aEK, .inl (cB, P * P, .inl (fun z9 => bI ((dr_lk P ms i (dr_LK P ms kn i) (j + 1)) z9)))), (aS, .inr (0, [.int (nI P), .int (nI (P - 2)), .int (nI (P - 1)), .int (nI (P * (P - 2)))])), (aT, .inr (1, [.ref aS, .ref aW, .ref aM, .int (bI mk)])), (aW, .inl (cI, P * P, .inl w)), (aM, .inl (cB, P, .inl (fun z9 => bI (ms z9))))] := hD
                refine lv_aload_n hx hb dX2_load_63 rfl (lv_at hl 4 rfl) ?_
                refine va_get (D := (dC, dI)) (ci := 2) (v := .ref aEW) (C := RX2) (T := TX2) (N := 4) hx hb hts inX2 hown hK hP 0 rfl rfl 1 (by decide) (hts _ t_fX2_19) (fun _ h9 => h9) rfl dX2_load_64 ?_
                refine lv_iload hx hb dX2_load_67 (lv_at hl 0 rfl) ?_
                refine lv_aload_n hx hb dX2_load_69 rfl (lv_at hl 4 rfl) ?_
                refine va_get (D := (dC, dI)) (ci := 2) (v := .ref aEK) (C := RX2) (T := TX2) (N := 4) hx hb hts inX2 hown hK hP 0 rfl rfl 2 (by decide) (hts _ t_fX2_23) (fun _ h9 => h9) rfl dX2_load_70 ?_
                refine lv_iload hx hb dX2_load_73 (lv_at hl 0 rfl) ?_
                refine x_zald (g := dr_lk P ms i (dr_LK P ms kn i) (j + 1)) hx hb hK hP 2 1 rfl rfl dX2_load_75 (dr_pl (by omega) (by omega)) (by omega) ?_
                refine x_top (show bI ((dr_lk P ms i (dr_LK P ms kn i) (j + 1)) (i * P + j)) = bI (!ms i) from (by rw [dr_lk, va_up_s])) ?_
                refine x_ifF (tgt := 89) hx hb dX2_load_76 (by decide) (fun h76 => ?_) (fun h76 => ?_)
                · -- 76t
                  refine lv_iconst (v := 0) hx hb dX2_load_89 (by decide) ?_
                  refine x_top (show 0 = if ms i = true then 0 else w (i * P + j) from (by rw [if_pos (by simpa using h76)])) ?_
                  refine x_iast (f := dr_lw P ms w i (dr_LW P ms w tw i) j) hx hb hK hP hD hS 1 0 rfl rfl dX2_load_90 (dr_pl (by omega) (by omega)) (by omega) (fun H locs hP hD hS => ?_)
                  have hP : va_P (dC, dI) vwCl [(aE, .inr (2, [.ref aS, .ref aEW, .ref aEK, .int (nI (dr_un P ms i))])), (aEW, .inl (cI, P * P, .inl (dr_lw P ms w i (dr_LW P ms w tw i) (j + 1)))), (aEK, .inl (cB, P * P, .inl (fun z9 => bI ((dr_lk P ms i (dr_LK P ms kn i) (j + 1)) z9)))), (aS, .inr (0, [.int (nI P), .int (nI (P - 2)), .int (nI (P - 1)), .int (nI (P * (P - 2)))])), (aT, .inr (1, [.ref aS, .ref aW, .ref aM, .int (bI mk)])), (aW, .inl (cI, P * P, .inl w)), (aM, .inl (cB, P, .inl (fun z9 => bI (ms z9))))] H := hP
                  have hD : va_D A [(aE, .inr (2, [.ref aS, .ref aEW, .ref aEK, .int (nI (dr_un P ms i))])), (aEW, .inl (cI, P * P, .inl (dr_lw P ms w i (dr_LW P ms w tw i) (j + 1)))), (aEK, .inl (cB, P * P, .inl (fun z9 => bI ((dr_lk P ms i (dr_LK P ms kn i) (j + 1)) z9)))), (aS, .inr (0, [.int (nI P), .int (nI (P - 2)), .int (nI (P - 1)), .int (nI (P * (P - 2)))])), (aT, .inr (1, [.ref aS, .ref aW, .ref aM, .int (bI mk)])), (aW, .inl (cI, P * P, .inl w)), (aM, .inl (cB, P, .inl (fun z9 => bI (ms z9))))] := hD
                  refine lv_iinc (v := nI (j + 1)) hx hb dX2_load_91 hl (k := 1) rfl (x_inc _) (by decide) rfl (fun ls hl => ?_)
                  have hl : lv_has ls 5 [(3, .int (nI (j + 1))), (4, .int (nI (i * P + j))), (2, .int (nI i)), (1, .ref aT), (0, .ref aE)] := hl
                  refine lv_goto (tgt := 20) hx hb dX2_load_94 (by decide) ?_
                  exact ih20 (j + 1) ls H locs (by omega) (by omega) (lv_sub hl [0, 2, 3, 4] rfl) hP hD hS
                · -- 76f
                  refine lv_aload_n hx hb dX2_load_79 rfl (lv_at hl 3 rfl) ?_
                  refine va_get (D := (dC, dI)) (ci := 1) (v := .ref aW) (C := RX1) (T := TX1) (N := 4) hx hb hts inX1 hown hK hP 4 rfl rfl 1 (by decide) (hts _ t_fX2_53) (fun _ h9 => h9) rfl dX2_load_80 ?_
                  refine lv_iload hx hb dX2_load_83 (lv_at hl 0 rfl) ?_
                  refine x_iald (f := w) hx hb hK hP 5 0 rfl rfl dX2_load_85 (dr_pl (by omega) (by omega)) (by omega) ?_
                  refine x_top (show w (i * P + j) = if ms i = true then 0 else w (i * P + j) from (by rw [if_neg (by simpa using h76)])) ?_
                  refine lv_goto (tgt := 90) hx hb dX2_load_86 (by decide) ?_
                  refine x_iast (f := dr_lw P ms w i (dr_LW P ms w tw i) j) hx hb hK hP hD hS 1 0 rfl rfl dX2_load_90 (dr_pl (by omega) (by omega)) (by omega) (fun H locs hP hD hS => ?_)
                  have hP : va_P (dC, dI) vwCl [(aE, .inr (2, [.ref aS, .ref aEW, .ref aEK, .int (nI (dr_un P ms i))])), (aEW, .inl (cI, P * P, .inl (dr_lw P ms w i (dr_LW P ms w tw i) (j + 1)))), (aEK, .inl (cB, P * P, .inl (fun z9 => bI ((dr_lk P ms i (dr_LK P ms kn i) (j + 1)) z9)))), (aS, .inr (0, [.int (nI P), .int (nI (P - 2)), .int (nI (P - 1)), .int (nI (P * (P - 2)))])), (aT, .inr (1, [.ref aS, .ref aW, .ref aM, .int (bI mk)])), (aW, .inl (cI, P * P, .inl w)), (aM, .inl (cB, P, .inl (fun z9 => bI (ms z9))))] H := hP
                  have hD : va_D A [(aE, .inr (2, [.ref aS, .ref aEW, .ref aEK, .int (nI (dr_un P ms i))])), (aEW, .inl (cI, P * P, .inl (dr_lw P ms w i (dr_LW P ms w tw i) (j + 1)))), (aEK, .inl (cB, P * P, .inl (fun z9 => bI ((dr_lk P ms i (dr_LK P ms kn i) (j + 1)) z9)))), (aS, .inr (0, [.int (nI P), .int (nI (P - 2)), .int (nI (P - 1)), .int (nI (P * (P - 2)))])), (aT, .inr (1, [.ref aS, .ref aW, .ref aM, .int (bI mk)])), (aW, .inl (cI, P * P, .inl w)), (aM, .inl (cB, P, .inl (fun z9 => bI (ms z9))))] := hD
                  refine lv_iinc (v := nI (j + 1)) hx hb dX2_load_91 hl (k := 1) rfl (x_inc _) (by decide) rfl (fun ls hl => ?_)
                  have hl : lv_has ls 5 [(3, .int (nI (j + 1))), (4, .int (nI (i * P + j))), (2, .int (nI i)), (1, .ref aT), (0, .ref aE)] := hl
                  refine lv_goto (tgt := 20) hx hb dX2_load_94 (by decide) ?_
                  exact ih20 (j + 1) ls H locs (by omega) (by omega) (lv_sub hl [0, 2, 3, 4] rfl) hP hD hS
        have e8 : (dr_lw P ms w i (dr_LW P ms w tw i) 0) = (dr_LW P ms w tw i) := by first | rfl | (simp [h15]; done) | (simp [h15]; omega)
        have e9 : (dr_lk P ms i (dr_LK P ms kn i) 0) = (dr_LK P ms kn i) := by first | rfl | (simp [h15]; done) | (simp [h15]; omega)
        exact lp20 (P - 0 + 1) 0 ls H locs (by omega) (by omega) (lv_sub hl [0, 1, 2, 3] rfl) (by rw [e8, e9]; exact hP) (by rw [e8, e9]; exact hD) hS
  have e10 : (nI (dr_un P ms 0)) = (nI 0) := by first | rfl | (simp [dr_un]; done) | (simp [dr_un]; omega)
  have e11 : (dr_LW P ms w tw 0) = tw := by first | rfl | (simp [dr_un]; done) | (simp [dr_un]; omega)
  have e12 : (dr_LK P ms kn 0) = kn := by first | rfl | (simp [dr_un]; done) | (simp [dr_un]; omega)
  exact lp7 (P - 0 + 1) 0 ls H locs (by omega) (by omega) (lv_sub hl [0, 2, 1] rfl) (by rw [e10, e11, e12]; exact hP) (by rw [e10, e11, e12]; exact hD) hS

abbrev rm_c_tell : Room := { frames := 3, cells := 0, slots := 0, locals := 73 }
set_option maxHeartbeats 4000000 in
set_option maxRecDepth 100000 in
theorem c_tell (l : Launch) (dC : Nat → ClassId) (dI : Nat → Nat → Nat) (cI cB cQ cJ : ClassId) (aE : Nat) (aS : Nat) (aEW : Nat) (aEK : Nat) (P : Nat) (tw : Nat → Int32) (kn : Nat → Bool) (un : Int32) (aT : Nat) (aW : Nat) (aM : Nat) (w : Nat → Int32) (ms : Nat → Bool) (mk : Bool) (hp5 : dr_P P) : MV l yX2_tell (Cond.code yX2_tell cX2_tell 5 none :: TB) rm_c_tell (dC, dI) vwCl (TY cI cB cQ cJ) [.ref aE, .ref aT] [(aE, .inr (2, [.ref aS, .ref aEW, .ref aEK, .int un])), (aEW, .inl (cI, P * P, .inl tw)), (aEK, .inl (cB, P * P, .inl (fun z9 => bI (kn z9)))), (aS, .inr (0, [.int (nI P), .int (nI (P - 2)), .int (nI (P - 1)), .int (nI (P * (P - 2)))])), (aT, .inr (1, [.ref aS, .ref aW, .ref aM, .int (bI mk)])), (aW, .inl (cI, P * P, .inl w)), (aM, .inl (cB, P, .inl (fun z9 => bI (ms z9))))] (fun (u : Unit) => True) (fun (u : Unit) => [(aE, .inr (2, [.ref aS, .ref aEW, .ref aEK, .int ((dr_tell P ms w kn tw).2.2)])), (aEW, .inl (cI, P * P, .inl ((dr_tell P ms w kn tw).2.1))), (aEK, .inl (cB, P * P, .inl (fun z9 => bI (((dr_tell P ms w kn tw).1) z9)))), (aS, .inr (0, [.int (nI P), .int (nI (P - 2)), .int (nI (P - 1)), .int (nI (P * (P - 2)))])), (aT, .inr (1, [.ref aS, .ref aW, .ref aM, .int (bI mk)])), (aW, .inl (cI, P * P, .inl w)), (aM, .inl (cB, P, .inl (fun z9 => bI (ms z9))))]) := by
  refine MV.ofW (cc := cX2_tell) (maxL := 5) (by decide +kernel) rfl (Nat.le_of_ble_eq_true rfl) ?_
  intro p e s m args below meth c A ls Q H locs hQ hx hb hml hr hlk hts hown hK hP hD hS hA hl
  have hts : ∀ w ∈ TB, w.before args s = true := fun w h => hts w (List.mem_cons_of_mem _ h)
  have hown : s.vm.findClass RX2 = some m.cls := hown
  have hl : lv_has ls 5 [(0, .ref aE), (1, .ref aT)] := hl
  have hP : va_P (dC, dI) vwCl [(aE, .inr (2, [.ref aS, .ref aEW, .ref aEK, .int un])), (aEW, .inl (cI, P * P, .inl tw)), (aEK, .inl (cB, P * P, .inl (fun z9 => bI (kn z9)))), (aS, .inr (0, [.int (nI P), .int (nI (P - 2)), .int (nI (P - 1)), .int (nI (P * (P - 2)))])), (aT, .inr (1, [.ref aS, .ref aW, .ref aM, .int (bI mk)])), (aW, .inl (cI, P * P, .inl w)), (aM, .inl (cB, P, .inl (fun z9 => bI (ms z9))))] H := hP
  have hD : va_D A [(aE, .inr (2, [.ref aS, .ref aEW, .ref aEK, .int un])), (aEW, .inl (cI, P * P, .inl tw)), (aEK, .inl (cB, P * P, .inl (fun z9 => bI (kn z9)))), (aS, .inr (0, [.int (nI P), .int (nI (P - 2)), .int (nI (P - 1)), .int (nI (P * (P - 2)))])), (aT, .inr (1, [.ref aS, .ref aW, .ref aM, .int (bI mk)])), (aW, .inl (cI, P * P, .inl w)), (aM, .inl (cB, P, .inl (fun z9 => bI (ms z9))))] := hD
  have hp := hp5.le
  have hpp := dr_PP hp5
  have hpq := dr_PP2 hp5
  have hun := dr_un_le P ms P
  refine lv_aload_n hx hb dX2_tell_0 rfl (lv_at hl 0 rfl) ?_
  refine lv_aload_n hx hb dX2_tell_1 rfl (lv_at hl 1 rfl) ?_
  refine gVv (wr := []) (pre := [(aE, .inr (2, [.ref aS, .ref aEW, .ref aEK, .int un])), (aEW, .inl (cI, P * P, .inl tw)), (aEK, .inl (cB, P * P, .inl (fun z9 => bI (kn z9)))), (aS, .inr (0, [.int (nI P), .int (nI (P - 2)), .int (nI (P - 1)), .int (nI (P * (P - 2)))])), (aT, .inr (1, [.ref aS, .ref aW, .ref aM, .int (bI mk)])), (aW, .inl (cI, P * P, .inl w)), (aM, .inl (cB, P, .inl (fun z9 => bI (ms z9))))]) (tl := []) (G := fun (u : Unit) => [(aE, .inr (2, [.ref aS, .ref aEW, .ref aEK, .int (nI (dr_un P ms P))])), (aEW, .inl (cI, P * P, .inl (dr_LW P ms w tw P))), (aEK, .inl (cB, P * P, .inl (fun z9 => bI ((dr_LK P ms kn P) z9)))), (aS, .inr (0, [.int (nI P), .int (nI (P - 2)), .int (nI (P - 1)), .int (nI (P * (P - 2)))])), (aT, .inr (1, [.ref aS, .ref aW, .ref aM, .int (bI mk)])), (aW, .inl (cI, P * P, .inl w)), (aM, .inl (cB, P, .inl (fun z9 => bI (ms z9))))]) (b := aE) (As := [.ref aT]) (rst := []) ⟨hx, hb, hml, hown, hts⟩ (c_load l dC dI cI cB cQ cJ aE aS aEW aEK P tw kn un aT aW aM w ms mk hp5) (cwV 1 hts (gdV t_mX2_27 t_inst_X2_load t_sel_X2_load t_ini_X2 t_code_X2_load) rfl rfl rfl (by decide +kernel) ⟨Nat.le_of_ble_eq_true rfl, Nat.le_of_ble_eq_true rfl⟩) hK hP hD hS hA [0, 1, 2, 3, 4, 5, 6] [] [0, 1, 2, 3, 4, 5, 6] rfl (by decide) (fun _ => rfl) (by decide) (ci := 2) rfl rfl rfl rfl hl.1 rfl (Nat.le_of_ble_eq_true rfl) dX2_tell_2 ⟨Nat.zero_le _, Nat.zero_le _⟩ (fun u H locs hu1 hP hD hS => ?_)
  have hP : va_P (dC, dI) vwCl [(aE, .inr (2, [.ref aS, .ref aEW, .ref aEK, .int (nI (dr_un P ms P))])), (aEW, .inl (cI, P * P, .inl (dr_LW P ms w tw P))), (aEK, .inl (cB, P * P, .inl (fun z9 => bI ((dr_LK P ms kn P) z9)))), (aS, .inr (0, [.int (nI P), .int (nI (P - 2)), .int (nI (P - 1)), .int (nI (P * (P - 2)))])), (aT, .inr (1, [.ref aS, .ref aW, .ref aM, .int (bI mk)])), (aW, .inl (cI, P * P, .inl w)), (aM, .inl (cB, P, .inl (fun z9 => bI (ms z9))))] H := hP
  have hD : va_D A [(aE, .inr (2, [.ref aS, .ref aEW, .ref aEK, .int (nI (dr_un P ms P))])), (aEW, .inl (cI, P * P, .inl (dr_LW P ms w tw P))), (aEK, .inl (cB, P * P, .inl (fun z9 => bI ((dr_LK P ms kn P) z9)))), (aS, .inr (0, [.int (nI P), .int (nI (P - 2)), .int (nI (P - 1)), .int (nI (P * (P - 2)))])), (aT, .inr (1, [.ref aS, .ref aW, .ref aM, .int (bI mk)])), (aW, .inl (cI, P * P, .inl w)), (aM, .inl (cB, P, .inl (fun z9 => bI (ms z9))))] := hD
  refine lv_aload_n hx hb dX2_tell_5 rfl (lv_at hl 0 rfl) ?_
  refine va_get (D := (dC, dI)) (ci := 2) (v := .int (nI (dr_un P ms P))) (C := RX2) (T := TX2) (N := 4) hx hb hts inX2 hown hK hP 0 rfl rfl 3 (by decide) (hts _ t_fX2_31) (fun _ h9 => h9) rfl dX2_tell_6 ?_
  refine x_top (show nI (dr_un P ms P) = nI (dr_un P ms P) from rfl) ?_
  refine lv_istore_n hx hb dX2_tell_9 rfl hl (by decide) rfl (fun ls hl => ?_)
  have hl : lv_has ls 5 [(2, .int (nI (dr_un P ms P))), (0, .ref aE), (1, .ref aT)] := hl
  refine lv_iconst (v := nI 0) hx hb dX2_tell_10 (by decide) ?_
  refine lv_istore_n hx hb dX2_tell_11 rfl hl (by decide) rfl (fun ls hl => ?_)
  have hl : lv_has ls 5 [(3, .int (nI 0)), (2, .int (nI (dr_un P ms P))), (0, .ref aE), (1, .ref aT)] := hl
  have lp12 : ∀ (n9 : Nat) (i : Nat) (x : dr_T) (ls : Array Slot) (H : Heap) (locs : List Loc), dr_un P ms P - i < n9 → (i ≤ dr_un P ms P) → (dr_tl P (dr_un P ms P - i) x = dr_tell P ms w kn tw) → lv_has ls 5 [(3, .int (nI i)), (2, .int (nI (dr_un P ms P))), (1, .ref aT), (0, .ref aE)] → va_P (dC, dI) vwCl [(aE, .inr (2, [.ref aS, .ref aEW, .ref aEK, .int x.2.2])), (aEW, .inl (cI, P * P, .inl x.2.1)), (aEK, .inl (cB, P * P, .inl (fun z9 => bI (x.1 z9)))), (aS, .inr (0, [.int (nI P), .int (nI (P - 2)), .int (nI (P - 1)), .int (nI (P * (P - 2)))])), (aT, .inr (1, [.ref aS, .ref aW, .ref aM, .int (bI mk)])), (aW, .inl (cI, P * P, .inl w)), (aM, .inl (cB, P, .inl (fun z9 => bI (ms z9))))] H → va_D A [(aE, .inr (2, [.ref aS, .ref aEW, .ref aEK, .int x.2.2])), (aEW, .inl (cI, P * P, .inl x.2.1)), (aEK, .inl (cB, P * P, .inl (fun z9 => bI (x.1 z9)))), (aS, .inr (0, [.int (nI P), .int (nI (P - 2)), .int (nI (P - 1)), .int (nI (P * (P - 2)))])), (aT, .inr (1, [.ref aS, .ref aW, .ref aM, .int (bI mk)])), (aW, .inl (cI, P * P, .inl w)), (aM, .inl (cB, P, .inl (fun z9 => bI (ms z9))))] → va_S A s.heap H locs → W p l e rm_c_tell s m args below meth c H locs 0 0 Q (F0 m 12 ls []) := by
    intro n9
    induction n9 with
    | zero => intro i x ls H locs hn9; omega
    | succ n9 ih12 =>
      intro i x ls H locs hn9 hi hx9 hl hP hD hS
      refine lv_iload_n hx hb dX2_tell_12 rfl (lv_at hl 0 rfl) ?_
      refine lv_iload_n hx hb dX2_tell_13 rfl (lv_at hl 1 rfl) ?_
      refine x_cge (tgt := 77) hx hb dX2_tell_14 (by decide) (by omega) (by omega) (fun h14 => ?_) (fun h14 => ?_)
      · -- 14t
        have e2 : ((dr_tell P ms w kn tw).2.2) = x.2.2 := by first | (rw [← hx9, show dr_un P ms P - i = 0 by omega]; rfl) | (rw [← hx9, dr_tl_stop (Int32.not_lt.mpr h21)])
        have e3 : ((dr_tell P ms w kn tw).2.1) = x.2.1 := by first | (rw [← hx9, show dr_un P ms P - i = 0 by omega]; rfl) | (rw [← hx9, dr_tl_stop (Int32.not_lt.mpr h21)])
        have e4 : ((dr_tell P ms w kn tw).1) = x.1 := by first | (rw [← hx9, show dr_un P ms P - i = 0 by omega]; rfl) | (rw [← hx9, dr_tl_stop (Int32.not_lt.mpr h21)])
        exact x_vret (D := (dC, dI)) (cl := vwCl) (A := A) () hQ hx hb hr hlk (by rw [e2, e3, e4]; exact hP) (by rw [e2, e3, e4]; exact hD) hS dX2_tell_77 trivial
      · -- 14f
        refine lv_aload_n hx hb dX2_tell_17 rfl (lv_at hl 3 rfl) ?_
        refine va_get (D := (dC, dI)) (ci := 2) (v := .int x.2.2) (C := RX2) (T := TX2) (N := 4) hx hb hts inX2 hown hK hP 0 rfl rfl 3 (by decide) (hts _ t_fX2_31) (fun _ h9 => h9) rfl dX2_tell_18 ?_
        refine lv_if_le (tgt := 77) hx hb dX2_tell_21 (by decide) (fun h21 => ?_) (fun h21 => ?_)
        · -- 21t
          have e5 : ((dr_tell P ms w kn tw).2.2) = x.2.2 := by first | (rw [← hx9, show dr_un P ms P - i = 0 by omega]; rfl) | (rw [← hx9, dr_tl_stop (Int32.not_lt.mpr h21)])
          have e6 : ((dr_tell P ms w kn tw).2.1) = x.2.1 := by first | (rw [← hx9, show dr_un P ms P - i = 0 by omega]; rfl) | (rw [← hx9, dr_tl_stop (Int32.not_lt.mpr h21)])
          have e7 : ((dr_tell P ms w kn tw).1) = x.1 := by first | (rw [← hx9, show dr_un P ms P - i = 0 by omega]; rfl) | (rw [← hx9, dr_tl_stop (Int32.not_lt.mpr h21)])
          exact x_vret (D := (dC, dI)) (cl := vwCl) (A := A) () hQ hx hb hr hlk (by rw [e5, e6, e7]; exact hP) (by rw [e5, e6, e7]; exact hD) hS dX2_tell_77 trivial
        · -- 21f
          refine lv_iconst (v := nI 0) hx hb dX2_tell_24 (by decide) ?_
          refine lv_istore hx hb dX2_tell_25 hl (by decide) rfl (fun ls hl => ?_)
          have hl : lv_has ls 5 [(4, .int (nI 0)), (3, .int (nI i)), (2, .int (nI (dr_un P ms P))), (1, .ref aT), (0, .ref aE)] := hl
          have lp27 : ∀ (n9 : Nat) (j : Nat) (ls : Array Slot) (H : Heap) (locs : List Loc), P - j < n9 → (j ≤ P) → lv_has ls 5 [(4, .int (nI j)), (3, .int (nI i)), (2, .int (nI (dr_un P ms P))), (1, .ref aT), (0, .ref aE)] → va_P (dC, dI) vwCl [(aE, .inr (2, [.ref aS, .ref aEW, .ref aEK, .int ((dr_rd P x j).2.2)])), (aEW, .inl (cI, P * P, .inl ((dr_rd P x j).2.1))), (aEK, .inl (cB, P * P, .inl (fun z9 => bI (((dr_rd P x j).1) z9)))), (aS, .inr (0, [.int (nI P), .int (nI (P - 2)), .int (nI (P - 1)), .int (nI (P * (P - 2)))])), (aT, .inr (1, [.ref aS, .ref aW, .ref aM, .int (bI mk)])), (aW, .inl (cI, P * P, .inl w)), (aM, .inl (cB, P, .inl (fun z9 => bI (ms z9))))] H → va_D A [(aE, .inr (2, [.ref aS, .ref aEW, .ref aEK, .int ((dr_rd P x j).2.2)])), (aEW, .inl (cI, P * P, .inl ((dr_rd P x j).2.1))), (aEK, .inl (cB, P * P, .inl (fun z9 => bI (((dr_rd P x j).1) z9)))), (aS, .inr (0, [.int (nI P), .int (nI (P - 2)), .int (nI (P - 1)), .int (nI (P * (P - 2)))])), (aT, .inr (1, [.ref aS, .ref aW, .ref aM, .int (bI mk)])), (aW, .inl (cI, P * P, .inl w)), (aM, .inl (cB, P, .inl (fun z9 => bI (ms z9))))] → va_S A s.heap H locs → W p l e rm_c_tell s m args below meth c H locs 0 0 Q (F0 m 27 ls []) := by
            intro n9
            induction n9 with
            | zero => intro j ls H locs hn9; omega
            | succ n9 ih27 =>
              intro j ls H locs hn9 hj hl hP hD hS
              refine lv_iload hx hb dX2_tell_27 (lv_at hl 0 rfl) ?_
              refine lv_aload_n hx hb dX2_tell_29 rfl (lv_at hl 4 rfl) ?_
              refine va_get (D := (dC, dI)) (ci := 2) (v := .ref aS) (C := RX2) (T := TX2) (N := 4) hx hb hts inX2 hown hK hP 0 rfl rfl 0 (by decide) (hts _ t_fX2_7) (fun _ h9 => h9) rfl dX2_tell_30 ?_
              refine va_get (D := (dC, dI)) (ci := 0) (v := .int (nI P)) (C := RX0) (T := TX0) (N := 4) hx hb hts inX0 hown hK hP 3 rfl rfl 0 (by decide) (hts _ t_fX2_13) (fun _ h9 => h9) rfl dX2_tell_33 ?_
              refine x_cge (tgt := 71) hx hb dX2_tell_36 (by decide) (by omega) (by omega) (fun h36 => ?_) (fun h36 => ?_)
              · -- 36t
                have hie36 : j = P := by omega
                try rw [hie36] at hl
                try rw [hie36] at hP
                try rw [hie36] at hD
                have hl : lv_has ls 5 [(4, .int (nI P)), (3, .int (nI i)), (2, .int (nI (dr_un P ms P))), (1, .ref aT), (0, .ref aE)] := hl
                have hP : va_P (dC, dI) vwCl [(aE, .inr (2, [.ref aS, .ref aEW, .ref aEK, .int ((dr_rd P x P).2.2)])), (aEW, .inl (cI, P * P, .inl ((dr_rd P x P).2.1))), (aEK, .inl (cB, P * P, .inl (fun z9 => bI (((dr_rd P x P).1) z9)))), (aS, .inr (0, [.int (nI P), .int (nI (P - 2)), .int (nI (P - 1)), .int (nI (P * (P - 2)))])), (aT, .inr (1, [.ref aS, .ref aW, .ref aM, .int (bI mk)])), (aW, .inl (cI, P * P, .inl w)), (aM, .inl (cB, P, .inl (fun z9 => bI (ms z9))))] H := hP
                have hD : va_D A [(aE, .inr (2, [.ref aS, .ref aEW, .ref aEK, .int ((dr_rd P x P).2.2)])), (aEW, .inl (cI, P * P, .inl ((dr_rd P x P).2.1))), (aEK, .inl (cB, P * P, .inl (fun z9 => bI (((dr_rd P x P).1) z9)))), (aS, .inr (0, [.int (nI P), .int (nI (P - 2)), .int (nI (P - 1)), .int (nI (P * (P - 2)))])), (aT, .inr (1, [.ref aS, .ref aW, .ref aM, .int (bI mk)])), (aW, .inl (cI, P * P, .inl w)), (aM, .inl (cB, P, .inl (fun z9 => bI (ms z9))))] := hD
                refine lv_iinc (v := nI (i + 1)) hx hb dX2_tell_71 hl (k := 1) rfl (x_inc _) (by decide) rfl (fun ls hl => ?_)
                have hl : lv_has ls 5 [(3, .int (nI (i + 1))), (4, .int (nI P)), (2, .int (nI (dr_un P ms P))), (1, .ref aT), (0, .ref aE)] := hl
                refine lv_goto (tgt := 12) hx hb dX2_tell_74 (by decide) ?_
                exact ih12 (i + 1) (dr_rd P x P) ls H locs (by omega) (by omega) (by first | rfl | (rw [← hx9, show dr_un P ms P - i = (dr_un P ms P - (i + 1)) + 1 by omega, dr_tl, if_pos (Int32.not_le.mp h21)])) (lv_sub hl [0, 2, 3, 4] rfl) hP hD hS
              · -- 36f
                refine lv_aload_n hx hb dX2_tell_39 rfl (lv_at hl 4 rfl) ?_
                refine lv_iload hx hb dX2_tell_40 (lv_at hl 0 rfl) ?_
                refine lv_aload_n hx hb dX2_tell_42 rfl (lv_at hl 4 rfl) ?_
                refine va_get (D := (dC, dI)) (ci := 2) (v := .ref aS) (C := RX2) (T := TX2) (N := 4) hx hb hts inX2 hown hK hP 0 rfl rfl 0 (by decide) (hts _ t_fX2_7) (fun _ h9 => h9) rfl dX2_tell_43 ?_
                refine va_get (D := (dC, dI)) (ci := 0) (v := .int (nI (P - 2))) (C := RX0) (T := TX0) (N := 4) hx hb hts inX0 hown hK hP 3 rfl rfl 1 (by decide) (hts _ t_fX2_34) (fun _ h9 => h9) rfl dX2_tell_46 ?_
                refine gVv (wr := [(aT, .inr (1, [.ref aS, .ref aW, .ref aM, .int (bI mk)])), (aW, .inl (cI, P * P, .inl w)), (aM, .inl (cB, P, .inl (fun z9 => bI (ms z9))))]) (pre := [(aE, .inr (2, [.ref aS, .ref aEW, .ref aEK, .int ((dr_rd P x j).2.2)])), (aEW, .inl (cI, P * P, .inl ((dr_rd P x j).2.1))), (aEK, .inl (cB, P * P, .inl (fun z9 => bI (((dr_rd P x j).1) z9)))), (aS, .inr (0, [.int (nI P), .int (nI (P - 2)), .int (nI (P - 1)), .int (nI (P * (P - 2)))])), (aT, .inr (1, [.ref aS, .ref aW, .ref aM, .int (bI mk)])), (aW, .inl (cI, P * P, .inl w)), (aM, .inl (cB, P, .inl (fun z9 => bI (ms z9))))]) (tl := []) (G := fun (u : Unit) => [(aE, .inr (2, [.ref aS, .ref aEW, .ref aEK, .int ((dr_st P j (P - 2) (((dr_rd P x j).1), ((dr_rd P x j).2.1), ((dr_rd P x j).2.2))).2.2)])), (aEW, .inl (cI, P * P, .inl ((dr_st P j (P - 2) (((dr_rd P x j).1), ((dr_rd P x j).2.1), ((dr_rd P x j).2.2))).2.1))), (aEK, .inl (cB, P * P, .inl (fun z9 => bI (((dr_st P j (P - 2) (((dr_rd P x j).1), ((dr_rd P x j).2.1), ((dr_rd P x j).2.2))).1) z9)))), (aS, .inr (0, [.int (nI P), .int (nI (P - 2)), .int (nI (P - 1)), .int (nI (P * (P - 2)))])), (aT, .inr (1, [.ref aS, .ref aW, .ref aM, .int (bI mk)])), (aW, .inl (cI, P * P, .inl w)), (aM, .inl (cB, P, .inl (fun z9 => bI (ms z9))))]) (b := aE) (As := [.int (nI j), .int (nI (P - 2))]) (rst := []) ⟨hx, hb, hml, hown, hts⟩ (c_settle l dC dI cI cB cQ cJ aE aS aEW aEK P ((dr_rd P x j).2.1) ((dr_rd P x j).1) ((dr_rd P x j).2.2) j (P - 2) hp5 (by omega) (Or.inl rfl)) (cwV 2 hts (gdV t_mX2_37 t_inst_X2_settle t_sel_X2_settle t_ini_X2 t_code_X2_settle) rfl rfl rfl (by decide +kernel) ⟨Nat.le_of_ble_eq_true rfl, Nat.le_of_ble_eq_true rfl⟩) hK hP hD hS hA [0, 1, 2, 3] [4, 5, 6] [0, 1, 2, 3, 4, 5, 6] rfl (by decide) (fun _ => rfl) (by decide) (ci := 2) rfl rfl rfl rfl hl.1 rfl (Nat.le_of_ble_eq_true rfl) dX2_tell_49 ⟨Nat.zero_le _, Nat.zero_le _⟩ (fun u H locs hu8 hP hD hS => ?_)
                have hP : va_P (dC, dI) vwCl [(aE, .inr (2, [.ref aS, .ref aEW, .ref aEK, .int ((dr_st P j (P - 2) (dr_rd P x j)).2.2)])), (aEW, .inl (cI, P * P, .inl ((dr_st P j (P - 2) (dr_rd P x j)).2.1))), (aEK, .inl (cB, P * P, .inl (fun z9 => bI (((dr_st P j (P - 2) (dr_rd P x j)).1) z9)))), (aS, .inr (0, [.int (nI P), .int (nI (P - 2)), .int (nI (P - 1)), .int (nI (P * (P - 2)))])), (aT, .inr (1, [.ref aS, .ref aW, .ref aM, .int (bI mk)])), (aW, .inl (cI, P * P, .inl w)), (aM, .inl (cB, P, .inl (fun z9 => bI (ms z9))))] H := hP
                have hD : va_D A [(aE, .inr (2, [.ref aS, .ref aEW, .ref aEK, .int ((dr_st P j (P - 2) (dr_rd P x j)).2.2)])), (aEW, .inl (cI, P * P, .inl ((dr_st P j (P - 2) (dr_rd P x j)).2.1))), (aEK, .inl (cB, P * P, .inl (fun z9 => bI (((dr_st P j (P - 2) (dr_rd P x j)).1) z9)))), (aS, .inr (0, [.int (nI P), .int (nI (P - 2)), .int (nI (P - 1)), .int (nI (P * (P - 2)))])), (aT, .inr (1, [.ref aS, .ref aW, .ref aM, .int (bI mk)])), (aW, .inl (cI, P * P, .inl w)), (aM, .inl (cB, P, .inl (fun z9 => bI (ms z9))))] := hD
                refine lv_aload_n hx hb dX2_tell_52 rfl (lv_at hl 4 rfl) ?_
                refine lv_iload hx hb dX2_tell_53 (lv_at hl 0 rfl) ?_
                refine lv_aload_n hx hb dX2_tell_55 rfl (lv_at hl 4 rfl) ?_
                refine va_get (D := (dC, dI)) (ci := 2) (v := .ref aS) (C := RX2) (T := TX2) (N := 4) hx hb hts inX2 hown hK hP 0 rfl rfl 0 (by decide) (hts _ t_fX2_7) (fun _ h9 => h9) rfl dX2_tell_56 ?_
                refine va_get (D := (dC, dI)) (ci := 0) (v := .int (nI (P - 1))) (C := RX0) (T := TX0) (N := 4) hx hb hts inX0 hown hK hP 3 rfl rfl 2 (by decide) (hts _ t_fX2_41) (fun _ h9 => h9) rfl dX2_tell_59 ?_
                refine gVv (wr := [(aT, .inr (1, [.ref aS, .ref aW, .ref aM, .int (bI mk)])), (aW, .inl (cI, P * P, .inl w)), (aM, .inl (cB, P, .inl (fun z9 => bI (ms z9))))]) (pre := [(aE, .inr (2, [.ref aS, .ref aEW, .ref aEK, .int ((dr_st P j (P - 2) (dr_rd P x j)).2.2)])), (aEW, .inl (cI, P * P, .inl ((dr_st P j (P - 2) (dr_rd P x j)).2.1))), (aEK, .inl (cB, P * P, .inl (fun z9 => bI (((dr_st P j (P - 2) (dr_rd P x j)).1) z9)))), (aS, .inr (0, [.int (nI P), .int (nI (P - 2)), .int (nI (P - 1)), .int (nI (P * (P - 2)))])), (aT, .inr (1, [.ref aS, .ref aW, .ref aM, .int (bI mk)])), (aW, .inl (cI, P * P, .inl w)), (aM, .inl (cB, P, .inl (fun z9 => bI (ms z9))))]) (tl := []) (G := fun (u : Unit) => [(aE, .inr (2, [.ref aS, .ref aEW, .ref aEK, .int ((dr_st P j (P - 1) (((dr_st P j (P - 2) (dr_rd P x j)).1), ((dr_st P j (P - 2) (dr_rd P x j)).2.1), ((dr_st P j (P - 2) (dr_rd P x j)).2.2))).2.2)])), (aEW, .inl (cI, P * P, .inl ((dr_st P j (P - 1) (((dr_st P j (P - 2) (dr_rd P x j)).1), ((dr_st P j (P - 2) (dr_rd P x j)).2.1), ((dr_st P j (P - 2) (dr_rd P x j)).2.2))).2.1))), (aEK, .inl (cB, P * P, .inl (fun z9 => bI (((dr_st P j (P - 1) (((dr_st P j (P - 2) (dr_rd P x j)).1), ((dr_st P j (P - 2) (dr_rd P x j)).2.1), ((dr_st P j (P - 2) (dr_rd P x j)).2.2))).1) z9)))), (aS, .inr (0, [.int (nI P), .int (nI (P - 2)), .int (nI (P - 1)), .int (nI (P * (P - 2)))])), (aT, .inr (1, [.ref aS, .ref aW, .ref aM, .int (bI mk)])), (aW, .inl (cI, P * P, .inl w)), (aM, .inl (cB, P, .inl (fun z9 => bI (ms z9))))]) (b := aE) (As := [.int (nI j), .int (nI (P - 1))]) (rst := []) ⟨hx, hb, hml, hown, hts⟩ (c_settle l dC dI cI cB cQ cJ aE aS aEW aEK P ((dr_st P j (P - 2) (dr_rd P x j)).2.1) ((dr_st P j (P - 2) (dr_rd P x j)).1) ((dr_st P j (P - 2) (dr_rd P x j)).2.2) j (P - 1) hp5 (by omega) (Or.inr rfl)) (cwV 2 hts (gdV t_mX2_37 t_inst_X2_settle t_sel_X2_settle t_ini_X2 t_code_X2_settle) rfl rfl rfl (by decide +kernel) ⟨Nat.le_of_ble_eq_true rfl, Nat.le_of_ble_eq_true rfl⟩) hK hP hD hS hA [0, 1, 2, 3] [4, 5, 6] [0, 1, 2, 3, 4, 5, 6] rfl (by decide) (fun _ => rfl) (by decide) (ci := 2) rfl rfl rfl rfl hl.1 rfl (Nat.le_of_ble_eq_true rfl) dX2_tell_62 ⟨Nat.zero_le _, Nat.zero_le _⟩ (fun u H locs hu9 hP hD hS => ?_)
                have hP : va_P (dC, dI) vwCl [(aE, .inr (2, [.ref aS, .ref aEW, .ref aEK, .int ((dr_rd P x (j + 1)).2.2)])), (aEW, .inl (cI, P * P, .inl ((dr_rd P x (j + 1)).2.1))), (aEK, .inl (cB, P * P, .inl (fun z9 => bI (((dr_rd P x (j + 1)).1) z9)))), (aS, .inr (0, [.int (nI P), .int (nI (P - 2)), .int (nI (P - 1)), .int (nI (P * (P - 2)))])), (aT, .inr (1, [.ref aS, .ref aW, .ref aM, .int (bI mk)])), (aW, .inl (cI, P * P, .inl w)), (aM, .inl (cB, P, .inl (fun z9 => bI (ms z9))))] H := hP
                have hD : va_D A [(aE, .inr (2, [.ref aS, .ref aEW, .ref aEK, .int ((dr_rd P x (j + 1)).2.2)])), (aEW, .inl (cI, P * P, .inl ((dr_rd P x (j + 1)).2.1))), (aEK, .inl (cB, P * P, .inl (fun z9 => bI (((dr_rd P x (j + 1)).1) z9)))), (aS, .inr (0, [.int (nI P), .int (nI (P - 2)), .int (nI (P - 1)), .int (nI (P * (P - 2)))])), (aT, .inr (1, [.ref aS, .ref aW, .ref aM, .int (bI mk)])), (aW, .inl (cI, P * P, .inl w)), (aM, .inl (cB, P, .inl (fun z9 => bI (ms z9))))] := hD
                refine lv_iinc (v := nI (j + 1)) hx hb dX2_tell_65 hl (k := 0) rfl (x_inc _) (by decide) rfl (fun ls hl => ?_)
                have hl : lv_has ls 5 [(4, .int (nI (j + 1))), (3, .int (nI i)), (2, .int (nI (dr_un P ms P))), (1, .ref aT), (0, .ref aE)] := hl
                refine lv_goto (tgt := 27) hx hb dX2_tell_68 (by decide) ?_
                exact ih27 (j + 1) ls H locs (by omega) (by omega) (lv_sub hl [0, 1, 2, 3, 4] rfl) hP hD hS
          have e10 : ((dr_rd P x 0).2.2) = x.2.2 := by first | rfl | (simp [h14, h21]; done) | (simp [h14, h21]; omega)
          have e11 : ((dr_rd P x 0).2.1) = x.2.1 := by first | rfl | (simp [h14, h21]; done) | (simp [h14, h21]; omega)
          have e12 : ((dr_rd P x 0).1) = x.1 := by first | rfl | (simp [h14, h21]; done) | (simp [h14, h21]; omega)
          exact lp27 (P - 0 + 1) 0 ls H locs (by omega) (by omega) (lv_sub hl [0, 1, 2, 3, 4] rfl) (by rw [e10, e11, e12]; exact hP) (by rw [e10, e11, e12]; exact hD) hS
  have e13 : ((dr_ld P ms w kn tw).2.2) = (nI (dr_un P ms P)) := by first | rfl | (simp []; done) | (simp []; omega)
  have e14 : ((dr_ld P ms w kn tw).2.1) = (dr_LW P ms w tw P) := by first | rfl | (simp []; done) | (simp []; omega)
  have e15 : ((dr_ld P ms w kn tw).1) = (dr_LK P ms kn P) := by first | rfl | (simp []; done) | (simp []; omega)
  exact lp12 (dr_un P ms P - 0 + 1) 0 (dr_ld P ms w kn tw) ls H locs (by omega) (by omega) (by first | rfl | (rw [← hx9, show dr_un P ms P - i = (dr_un P ms P - (i + 1)) + 1 by omega, dr_tl, if_pos (Int32.not_le.mp h21)])) (lv_sub hl [0, 1, 3, 2] rfl) (by rw [e13, e14, e15]; exact hP) (by rw [e13, e14, e15]; exact hD) hS
