/-! the ring's constructor -/
def E_in : (Nat → Prop) → State → Prop := fun A U => E_sz A U ∧ va_AO "DriveRing$Stripe" U
theorem E_in_ok : E_ok E_in := fun B u U hvm hh h => ⟨E_sz_ok B u U hvm hh h.1, h.2.moved hvm⟩
/-- the ring's world -/
abbrev RW (cI cB cQ : ClassId) (aR aS aA aL aE aEW aEK P n : Nat) (aTs aWs aMs : Nat → Nat) (pw : Bool) (tn un : Int32) (lo kn : Nat → Bool) (tw : Nat → Int32) (w : Nat → Nat → Int32) (ms : Nat → Nat → Bool) (mk : Nat → Bool) : va_W :=
  ((aR, .inr (3, [.ref aS, .ref aA, .ref aL, .ref aE, .int (bI pw), .int tn])) :: (aS, .inr (0, [.int (nI P), .int (nI (P - 2)), .int (nI (P - 1)), .int (nI (P * (P - 2)))])) :: (aA, .inl (cQ, n, .inr (.inr (.inr (.inr (fun z8 => some (aTs z8))))))) :: (aL, .inl (cB, P, .inl (fun z9 => bI (lo z9)))) :: (aE, .inr (2, [.ref aS, .ref aEW, .ref aEK, .int un])) :: (aEW, .inl (cI, P * P, .inl tw)) :: (aEK, .inl (cB, P * P, .inl (fun z9 => bI (kn z9)))) :: (stW cI cB aS P aTs aWs aMs w ms mk n))
theorem va_P.arr {D : va_G} {cl : List vw_C} {pre post : va_W} {q : Nat} {cA : ClassId} {a b : vp_A} {H : Heap} (h : va_P D cl (pre ++ (q, .inl (cA, a)) :: post) H) (he : vp_cell cA a = vp_cell cA b) : va_P D cl (pre ++ (q, .inl (cA, b)) :: post) H := by
  intro k z hk
  have hz := List.mem_of_getElem? hk
  rcases List.mem_append.mp hz with h1 | h1
  · obtain ⟨i, hi⟩ := List.getElem?_of_mem (List.mem_append_left ((q, Sum.inl (cA, a)) :: post) h1)
    exact h i z hi
  · rcases List.mem_cons.mp h1 with rfl | h2
    · obtain ⟨i, hi⟩ := List.getElem?_of_mem (List.mem_append_right pre (List.mem_cons_self (a := (q, (Sum.inl (cA, a) : va_E))) (l := post)))
      have := h i _ hi
      show H[q]? = some (vp_cell cA b)
      rw [← he]
      exact this
    · obtain ⟨i, hi⟩ := List.getElem?_of_mem (List.mem_append_right pre (List.mem_cons_of_mem (q, (Sum.inl (cA, a) : va_E)) h2))
      exact h i z hi
theorem va_D.arr {A : Nat → Prop} {pre post : va_W} {q : Nat} {x y : va_E} (h : va_D A (pre ++ (q, x) :: post)) : va_D A (pre ++ (q, y) :: post) := by
  rw [va_D.iff] at h ⊢
  refine ⟨by simpa using h.1, fun z hz => ?_⟩
  rcases List.mem_append.mp hz with h1 | h1
  · exact h.2 z (List.mem_append_left _ h1)
  · rcases List.mem_cons.mp h1 with rfl | h2
    · exact h.2 (q, x) (List.mem_append_right _ List.mem_cons_self)
    · exact h.2 z (List.mem_append_right _ (List.mem_cons_of_mem _ h2))
theorem arrV_congr {cA : ClassId} {n : Nat} {f g : Nat → Value} (h : ∀ j, j < n → f j = g j) : arrV cA n f = arrV cA n g := by
  unfold arrV
  congr 1
  congr 1
  funext j
  exact h j.val j.isLt
theorem vp_cell_qc {cA : ClassId} {n : Nat} {f g : Nat → Option Nat} (h : ∀ j, j < n → f j = g j) : vp_cell cA (n, .inr (.inr (.inr (.inr f)))) = vp_cell cA (n, .inr (.inr (.inr (.inr g)))) := by
  show arrV cA n (fun j => va_rf (f j)) = arrV cA n (fun j => va_rf (g j))
  exact arrV_congr (fun j hj => by rw [h j hj])
theorem dr_mnx (y : Int32) : (if nI 1 < (if nI 4 < y then nI 4 else y) then (if nI 4 < y then nI 4 else y) else nI 1) = nI (dr_ns y) := by
  by_cases h4 : nI 4 < y
  · rw [if_pos h4, if_pos (by decide), dr_ns_4 (Int32.le_trans (show (1 : Int32) ≤ nI 4 by decide) (Int32.le_of_lt h4)) (Int32.not_le.mpr h4)]
  · rw [if_neg h4]
    by_cases h1 : nI 1 < y
    · rw [if_pos h1]
      exact dr_ns_in (Int32.le_of_lt h1) (Int32.not_lt.mp h4)
    · rw [if_neg h1]
      by_cases h2 : 1 ≤ y
      · have : y = nI 1 := Int32.le_antisymm (Int32.not_lt.mp h1) h2
        rw [← this]
        exact dr_ns_in h2 (Int32.not_lt.mp h4)
      · rw [dr_ns_1 h2]
theorem stW_succ {cI cB : ClassId} {aS P : Nat} {aT aW aM : Nat → Nat} {w : Nat → Nat → Int32} {ms : Nat → Nat → Bool} {mk : Nat → Bool} {n : Nat} : stW cI cB aS P aT aW aM w ms mk (n + 1) = stW cI cB aS P aT aW aM w ms mk n ++ stC cI cB aS P aT aW aM w ms mk n := by
  unfold stW
  rw [List.range_succ, List.flatMap_append]
  simp
theorem stW_congr {cI cB : ClassId} {aS P : Nat} {aT aW aM aT' aW' aM' : Nat → Nat} {w : Nat → Nat → Int32} {ms : Nat → Nat → Bool} {mk : Nat → Bool} : ∀ {n : Nat}, (∀ j, j < n → aT' j = aT j ∧ aW' j = aW j ∧ aM' j = aM j) → stW cI cB aS P aT' aW' aM' w ms mk n = stW cI cB aS P aT aW aM w ms mk n
  | 0, _ => rfl
  | n + 1, h => by
    rw [stW_succ, stW_succ, stW_congr (n := n) (fun j hj => h j (by omega))]
    obtain ⟨h1, h2, h3⟩ := h n (by omega)
    unfold stC
    rw [h1, h2, h3]
/-- one stripe more -/
theorem stW_new {cI cB : ClassId} {aS P i q qW qM : Nat} {aT aW aM : Nat → Nat} : stW cI cB aS P (va_up aT i q) (va_up aW i qW) (va_up aM i qM) (fun _ _ => 0) (fun _ _ => false) (fun _ => false) (i + 1) = stW cI cB aS P aT aW aM (fun _ _ => 0) (fun _ _ => false) (fun _ => false) i ++ [(q, .inr (1, [.ref aS, .ref qW, .ref qM, .int (bI false)])), (qW, .inl (cI, P * P, .inl (fun _ => 0))), (qM, .inl (cB, P, .inl (fun z9 => bI ((fun _ => false) z9))))] := by
  rw [stW_succ, stW_congr (fun j hj => ⟨va_up_n (by omega), va_up_n (by omega), va_up_n (by omega)⟩)]
  unfold stC
  rw [va_up_s, va_up_s, va_up_s]
abbrev aOf (aT : Nat → Nat) (i : Nat) : Nat → Option Nat := fun j => if j < i then some (aT j) else none
theorem aOf_up {aT : Nat → Nat} {i q : Nat} : va_up (aOf aT i) i (some q) = aOf (va_up aT i q) (i + 1) := by
  funext j
  by_cases h : j = i
  · subst h
    rw [va_up_s]
    show _ = if j < j + 1 then some (va_up aT j q j) else none
    rw [if_pos (by omega), va_up_s]
  · rw [va_up_n h]
    show (if j < i then some (aT j) else none) = if j < i + 1 then some (va_up aT i q j) else none
    rw [va_up_n h]
    by_cases h2 : j < i
    · rw [if_pos h2, if_pos (by omega)]
    · rw [if_neg h2, if_neg (by omega)]
abbrev RU : Type := Nat × Nat × Nat × Nat × Nat × Nat × (Nat → Nat) × (Nat → Nat) × (Nat → Nat)
abbrev rm_c_nRing : Room := { frames := 2, cells := 18, slots := 1107, locals := 41 }
set_option maxHeartbeats 4000000 in
set_option maxRecDepth 100000 in
theorem c_nRing (l : Launch) (dC : Nat → ClassId) (dI : Nat → Nat → Nat) (cI cB cQ cJ : ClassId) (aR : Nat) (x y : Int32) : MVE l yX3_init (Cond.code yX3_init cX3_init 6 none :: TB) rm_c_nRing (dC, dI) vwCl (TY cI cB cQ cJ) [.ref aR, .int x, .int y] [(aR, .inr (3, [.null, .null, .null, .null, .int 0, .int 0]))] E_in (fun (_ : RU) => True)
    (fun (u : RU) => RW cI cB cQ aR u.1 u.2.1 u.2.2.1 u.2.2.2.1 u.2.2.2.2.1 u.2.2.2.2.2.1 (dr_sz x) (dr_ns y) u.2.2.2.2.2.2.1 u.2.2.2.2.2.2.2.1 u.2.2.2.2.2.2.2.2 true (-1) 0 (fun _ => false) (fun _ => false) (fun _ => 0) (fun _ _ => 0) (fun _ _ => false) (fun _ => false)) 18 1107 := by
  refine MVE.ofW (cc := cX3_init) (maxL := 6) (by decide +kernel) rfl (Nat.le_of_ble_eq_true rfl) ?_
  intro p e s m args below meth c A ls Q H locs hQ hE hin hx hb hml hr hlk hts hown hK hP hD hS hA hl
  have hts : ∀ w ∈ TB, w.before args s = true := fun w h => hts w (List.mem_cons_of_mem _ h)
  have hown : s.vm.findClass RX3 = some m.cls := hown
  have hin : meth.name = "<init>" := hin
  have hl : lv_has ls 6 [(0, .ref aR), (1, .int x), (2, .int y)] := hl
  refine lv_aload_n hx hb dX3_init_0 rfl (lv_at hl 0 rfl) ?_
  refine W.objInit hx hb hown (hts _ t_mX3_1) (hts _ t_obj_instanceMethod) (hts _ t_obj_code) rfl (by rw [hml]; exact hl.1) rfl dX3_init_1 (Nat.le_of_ble_eq_true rfl) (Nat.le_of_ble_eq_true rfl) ?_
  refine W.eq (g2 := F0 m 4 ls []) rfl ?_
  refine va_new (ci := 0) (fs := [.int 0, .int 0, .int 0, .int 0]) (C := RX0) (T := TX0) (N := 4) hx hb hts inX0 tyX0 tyX0_ok hown (hts _ t_cX3_7) (hts _ t_new_X0) (hts _ t_ini_X0) hK hP hD hS hA rfl (fun j hj => by rcases (show j = 0 ∨ j = 1 ∨ j = 2 ∨ j = 3 by omega) with rfl | rfl | rfl | rfl <;> rfl) (Nat.le_of_ble_eq_true rfl) (Nat.le_of_ble_eq_true rfl) dX3_init_4 (fun aS H hP hD hS => ?_)
  refine lv_dup hx hb dX3_init_7 rfl ?_
  refine lv_iload_n hx hb dX3_init_8 rfl (lv_at hl 1 rfl) ?_
  refine gSE (wc := []) (wr := [(aR, .inr (3, [.null, .null, .null, .null, .int 0, .int 0])), (aS, .inr (0, [.int 0, .int 0, .int 0, .int 0]))]) (As := [.int x]) (rst := [.ref aS, .ref aS]) ⟨hx, hb, hml, hown, hts⟩ (c_near l dC dI cI cB cQ cJ x) (va_cwS 1 hts (gdS t_mX3_9 t_stat_X3_nearestSize t_ini_X3 t_code_X3_nearestSize) rfl rfl rfl (by decide +kernel) ⟨Nat.le_of_ble_eq_true rfl, Nat.le_of_ble_eq_true rfl⟩) E_sz_ok (fun U hU hvm => hE.1.call hS (fun q h => by rcases h with ⟨k, e9, h⟩ | h; exact absurd h (by simp); exact hA q (Nat.le_trans hS.1 h)) hU hvm) hK hP hD hS hA rfl hl.1 rfl (Nat.le_of_ble_eq_true rfl) dX3_init_9 ⟨Nat.le_of_ble_eq_true rfl, Nat.le_of_ble_eq_true rfl⟩ (fun r u H locs hu hP hD hS => ?_)
  have hu : r = nI (dr_sz x) := hu
  subst hu
  have hp5 := dr_sz_P x
  generalize dr_sz x = P at hp5 hQ ⊢
  have hp := hp5.le
  have hpv := dr_PP169 hp5
  have hP : va_P (dC, dI) vwCl ([(aR, .inr (3, [.null, .null, .null, .null, .int 0, .int 0])), (aS, .inr (0, [.int 0, .int 0, .int 0, .int 0]))] ++ []) H := hP
  have hD : va_D A ([(aR, .inr (3, [.null, .null, .null, .null, .int 0, .int 0])), (aS, .inr (0, [.int 0, .int 0, .int 0, .int 0]))] ++ []) := hD
  have hP := hP.pre (pre' := [(aS, .inr (0, [.int 0, .int 0, .int 0, .int 0])), (aR, .inr (3, [.null, .null, .null, .null, .int 0, .int 0]))]) [1, 0] rfl
  have hD := hD.pre (pre' := [(aS, .inr (0, [.int 0, .int 0, .int 0, .int 0])), (aR, .inr (3, [.null, .null, .null, .null, .int 0, .int 0]))]) [1, 0] (by decide) rfl
  refine gI (wc := [(aS, .inr (0, [.int 0, .int 0, .int 0, .int 0]))]) (wr := [(aR, .inr (3, [.null, .null, .null, .null, .int 0, .int 0]))]) (b := aS) (As := [.int (nI P)]) (rst := [.ref aS]) ⟨hx, hb, hml, hown, hts⟩ (c_nShape l dC dI cI cB cQ cJ aS P hp5) (cwI 1 hts (fun w hw => by rcases List.mem_cons.mp hw with rfl | h; exact ⟨t_code_X0_init, TB_good t_code_X0_init⟩; exact ⟨h, TB_good h⟩) rfl rfl rfl (hts _ t_ini_X0) (hts _ t_mX3_15) (hts _ t_inst_X0_init) rfl (by decide +kernel) ⟨Nat.le_of_ble_eq_true rfl, Nat.le_of_ble_eq_true rfl⟩) E0_ok (fun _ _ _ => trivial) hK hP hD hS hA rfl hl.1 rfl (Nat.le_of_ble_eq_true rfl) dX3_init_12 ⟨Nat.le_of_ble_eq_true rfl, Nat.le_of_ble_eq_true rfl⟩ (fun u H locs hu hP hD hS => ?_)
  refine lv_astore_n hx hb dX3_init_15 rfl hl (by decide) rfl (fun ls hl => ?_)
  have hl : lv_has ls 6 [(3, .ref aS), (0, .ref aR), (1, .int x), (2, .int y)] := hl
  refine lv_iconst (v := nI 1) hx hb dX3_init_16 (by decide) ?_
  refine lv_iload_n hx hb dX3_init_17 rfl (lv_at hl 3 rfl) ?_
  refine lv_iconst (v := nI 4) hx hb dX3_init_18 (by decide) ?_
  refine va_mmin hx hb (by rw [hml]; exact hl.1.symm) hown (hts _ t_mX3_18) (hts _ t_stat_J9_min) (hts _ t_ini_J9) (hts _ t_code_J9_min) (Nat.le_of_ble_eq_true rfl) (Nat.le_of_ble_eq_true rfl) (Nat.le_of_ble_eq_true rfl) (Nat.le_of_ble_eq_true rfl) dX3_init_19 ?_
  refine va_mmax hx hb (by rw [hml]; exact hl.1.symm) hown (hts _ t_mX3_24) (hts _ t_stat_J9_max) (hts _ t_ini_J9) (hts _ t_code_J9_max) (Nat.le_of_ble_eq_true rfl) (Nat.le_of_ble_eq_true rfl) (Nat.le_of_ble_eq_true rfl) (Nat.le_of_ble_eq_true rfl) dX3_init_22 ?_
  refine x_top (dr_mnx y) ?_
  have hn4 := dr_ns_le y
  generalize dr_ns y = n at hn4 hQ ⊢
  refine x_newQ (N := n) (cap := 4) hx hb hown (hts _ t_cX3_27) hE.2 hK hP hD hS hA (by omega) (by decide) (Nat.le_of_ble_eq_true rfl) (Nat.le_of_ble_eq_true rfl) dX3_init_25 (fun aA H hP hD hS => ?_)
  have hP : va_P (dC, dI) vwCl ([(aS, .inr (0, [.int (nI P), .int (nI (P - 2)), .int (nI (P - 1)), .int (nI (P * (P - 2)))])), (aR, .inr (3, [.null, .null, .null, .null, .int 0, .int 0])), (aA, .inl (cQ, n, .inr (.inr (.inr (.inr (fun _ => none))))))] ++ []) H := hP
  have hD : va_D A ([(aS, .inr (0, [.int (nI P), .int (nI (P - 2)), .int (nI (P - 1)), .int (nI (P * (P - 2)))])), (aR, .inr (3, [.null, .null, .null, .null, .int 0, .int 0])), (aA, .inl (cQ, n, .inr (.inr (.inr (.inr (fun _ => none))))))] ++ []) := hD
  have hP := hP.pre (pre' := [(aR, .inr (3, [.null, .null, .null, .null, .int 0, .int 0])), (aS, .inr (0, [.int (nI P), .int (nI (P - 2)), .int (nI (P - 1)), .int (nI (P * (P - 2)))])), (aA, .inl (cQ, n, .inr (.inr (.inr (.inr (fun _ => none))))))]) (tl := []) [1, 0, 2] rfl
  have hD := hD.pre (pre' := [(aR, .inr (3, [.null, .null, .null, .null, .int 0, .int 0])), (aS, .inr (0, [.int (nI P), .int (nI (P - 2)), .int (nI (P - 1)), .int (nI (P * (P - 2)))])), (aA, .inl (cQ, n, .inr (.inr (.inr (.inr (fun _ => none))))))]) (tl := []) [1, 0, 2] (by decide) rfl
  refine lv_astore hx hb dX3_init_28 hl (by decide) rfl (fun ls hl => ?_)
  have hl : lv_has ls 6 [(4, .ref aA), (3, .ref aS), (0, .ref aR), (1, .int x), (2, .int y)] := hl
  refine lv_iconst (v := nI 0) hx hb dX3_init_30 (by decide) ?_
  refine lv_istore hx hb dX3_init_31 hl (by decide) rfl (fun ls hl => ?_)
  have hl : lv_has ls 6 [(5, .int (nI 0)), (4, .ref aA), (3, .ref aS), (0, .ref aR), (1, .int x), (2, .int y)] := hl
  have lp33 : ∀ (n9 : Nat) (i : Nat) (aT aW aM : Nat → Nat) (ls : Array Slot) (H : Heap) (locs : List Loc), n - i < n9 → i ≤ n → lv_has ls 6 [(5, .int (nI i)), (4, .ref aA), (3, .ref aS), (0, .ref aR), (1, .int x), (2, .int y)] → va_P (dC, dI) vwCl ([(aR, .inr (3, [.null, .null, .null, .null, .int 0, .int 0])), (aS, .inr (0, [.int (nI P), .int (nI (P - 2)), .int (nI (P - 1)), .int (nI (P * (P - 2)))])), (aA, .inl (cQ, n, .inr (.inr (.inr (.inr (aOf aT i))))))] ++ (stW cI cB aS P aT aW aM (fun _ _ => 0) (fun _ _ => false) (fun _ => false) i)) H → va_D A ([(aR, .inr (3, [.null, .null, .null, .null, .int 0, .int 0])), (aS, .inr (0, [.int (nI P), .int (nI (P - 2)), .int (nI (P - 1)), .int (nI (P * (P - 2)))])), (aA, .inl (cQ, n, .inr (.inr (.inr (.inr (aOf aT i))))))] ++ (stW cI cB aS P aT aW aM (fun _ _ => 0) (fun _ _ => false) (fun _ => false) i)) → va_S A s.heap H locs → W p l e rm_c_nRing s m args below meth c H locs (2 + 3 * i) (8 + 186 * i) Q (F0 m 33 ls []) := by
    intro n9
    induction n9 with
    | zero => intro i aT aW aM ls H locs hn9; omega
    | succ n9 ih =>
      intro i aT aW aM ls H locs hn9 hi hl hP hD hS
      refine lv_iload hx hb dX3_init_33 (lv_at hl 0 rfl) ?_
      refine lv_aload hx hb dX3_init_35 (lv_at hl 1 rfl) ?_
      refine va_alen (v := nI n) hx hb hK hP 2 2 rfl rfl rfl dX3_init_37 ?_
      refine x_cge (tgt := 60) hx hb dX3_init_38 (by decide) (by omega) (by omega) (fun h38 => ?_) (fun h38 => ?_)
      · have hin9 : i = n := by omega
        subst hin9
        refine W.widen (k := 14) (n := 752) (by omega) (by omega) ?_
        have hP := va_P.arr (pre := [(aR, .inr (3, [.null, .null, .null, .null, .int 0, .int 0])), (aS, .inr (0, [.int (nI P), .int (nI (P - 2)), .int (nI (P - 1)), .int (nI (P * (P - 2)))]))]) (b := (i, .inr (.inr (.inr (.inr (fun z8 => some (aT z8))))))) hP (vp_cell_qc (fun j hj => if_pos hj))
        have hD := va_D.arr (pre := [(aR, .inr (3, [.null, .null, .null, .null, .int 0, .int 0])), (aS, .inr (0, [.int (nI P), .int (nI (P - 2)), .int (nI (P - 1)), .int (nI (P * (P - 2)))]))]) (y := .inl (cQ, i, .inr (.inr (.inr (.inr (fun z8 => some (aT z8))))))) hD
        have hP : va_P (dC, dI) vwCl ([(aR, .inr (3, [.null, .null, .null, .null, .int 0, .int 0])), (aS, .inr (0, [.int (nI P), .int (nI (P - 2)), .int (nI (P - 1)), .int (nI (P * (P - 2)))])), (aA, .inl (cQ, i, .inr (.inr (.inr (.inr (fun z8 => some (aT z8)))))))] ++ (stW cI cB aS P aT aW aM (fun _ _ => 0) (fun _ _ => false) (fun _ => false) i)) H := hP
        have hD : va_D A ([(aR, .inr (3, [.null, .null, .null, .null, .int 0, .int 0])), (aS, .inr (0, [.int (nI P), .int (nI (P - 2)), .int (nI (P - 1)), .int (nI (P * (P - 2)))])), (aA, .inl (cQ, i, .inr (.inr (.inr (.inr (fun z8 => some (aT z8)))))))] ++ (stW cI cB aS P aT aW aM (fun _ _ => 0) (fun _ _ => false) (fun _ => false) i)) := hD
        refine lv_aload_n hx hb dX3_init_60 rfl (lv_at hl 3 rfl) ?_
        refine lv_aload_n hx hb dX3_init_61 rfl (lv_at hl 2 rfl) ?_
        refine va_putF (D := (dC, dI)) (ci := 3) (v := .ref aS) (ty := (.object "DriveRing$Shape")) (C := RX3) (T := TX3) (N := 6) hx hb hts inX3 tyX3 tyX3_ok nmX3 hown hK hP hD hS 0 rfl rfl 0 (by decide) (hts _ t_fX3_32) (fun _ h9 => h9) rfl hin rfl (by decide +kernel) rfl rfl (Nat.le_of_ble_eq_true rfl) dX3_init_62 (fun H locs hP hD hS => ?_)
        have hP : va_P (dC, dI) vwCl ([(aR, .inr (3, [.ref aS, .null, .null, .null, .int 0, .int 0])), (aS, .inr (0, [.int (nI P), .int (nI (P - 2)), .int (nI (P - 1)), .int (nI (P * (P - 2)))])), (aA, .inl (cQ, i, .inr (.inr (.inr (.inr (fun z8 => some (aT z8)))))))] ++ (stW cI cB aS P aT aW aM (fun _ _ => 0) (fun _ _ => false) (fun _ => false) i)) H := hP
        have hD : va_D A ([(aR, .inr (3, [.ref aS, .null, .null, .null, .int 0, .int 0])), (aS, .inr (0, [.int (nI P), .int (nI (P - 2)), .int (nI (P - 1)), .int (nI (P * (P - 2)))])), (aA, .inl (cQ, i, .inr (.inr (.inr (.inr (fun z8 => some (aT z8)))))))] ++ (stW cI cB aS P aT aW aM (fun _ _ => 0) (fun _ _ => false) (fun _ => false) i)) := hD
        refine lv_aload_n hx hb dX3_init_65 rfl (lv_at hl 3 rfl) ?_
        refine lv_aload hx hb dX3_init_66 (lv_at hl 1 rfl) ?_
        refine va_putF (D := (dC, dI)) (ci := 3) (v := .ref aA) (ty := (.array (.object "DriveRing$Stripe"))) (C := RX3) (T := TX3) (N := 6) hx hb hts inX3 tyX3 tyX3_ok nmX3 hown hK hP hD hS 0 rfl rfl 1 (by decide) (hts _ t_fX3_36) (fun _ h9 => h9) rfl hin rfl (by decide +kernel) rfl rfl (Nat.le_of_ble_eq_true rfl) dX3_init_68 (fun H locs hP hD hS => ?_)
        have hP : va_P (dC, dI) vwCl ([(aR, .inr (3, [.ref aS, .ref aA, .null, .null, .int 0, .int 0])), (aS, .inr (0, [.int (nI P), .int (nI (P - 2)), .int (nI (P - 1)), .int (nI (P * (P - 2)))])), (aA, .inl (cQ, i, .inr (.inr (.inr (.inr (fun z8 => some (aT z8)))))))] ++ (stW cI cB aS P aT aW aM (fun _ _ => 0) (fun _ _ => false) (fun _ => false) i)) H := hP
        have hD : va_D A ([(aR, .inr (3, [.ref aS, .ref aA, .null, .null, .int 0, .int 0])), (aS, .inr (0, [.int (nI P), .int (nI (P - 2)), .int (nI (P - 1)), .int (nI (P * (P - 2)))])), (aA, .inl (cQ, i, .inr (.inr (.inr (.inr (fun z8 => some (aT z8)))))))] ++ (stW cI cB aS P aT aW aM (fun _ _ => 0) (fun _ _ => false) (fun _ => false) i)) := hD
        refine lv_aload_n hx hb dX3_init_71 rfl (lv_at hl 3 rfl) ?_
        refine lv_aload_n hx hb dX3_init_72 rfl (lv_at hl 2 rfl) ?_
        refine va_get (D := (dC, dI)) (ci := 0) (v := .int (nI P)) (C := RX0) (T := TX0) (N := 4) hx hb hts inX0 hown hK hP 1 rfl rfl 0 (by decide) (hts _ t_fX3_40) (fun _ h9 => h9) rfl dX3_init_73 ?_
        refine x_newB (N := P) (cap := 13) hx hb (hts _ t_arr_boolean) hK hP hD hS hA (by omega) (by decide) (Nat.le_of_ble_eq_true rfl) (Nat.le_of_ble_eq_true rfl) dX3_init_76 (fun aL H hP hD hS => ?_)
        have hP := hP.perm (ws' := [(aL, .inl (cB, P, .inl (fun z9 => bI ((fun _ => false) z9))))] ++ ([(aR, .inr (3, [.ref aS, .ref aA, .null, .null, .int 0, .int 0])), (aS, .inr (0, [.int (nI P), .int (nI (P - 2)), .int (nI (P - 1)), .int (nI (P * (P - 2)))])), (aA, .inl (cQ, i, .inr (.inr (.inr (.inr (fun z8 => some (aT z8)))))))] ++ (stW cI cB aS P aT aW aM (fun _ _ => 0) (fun _ _ => false) (fun _ => false) i))) List.perm_append_comm
        have hD := hD.perm (ws' := [(aL, .inl (cB, P, .inl (fun z9 => bI ((fun _ => false) z9))))] ++ ([(aR, .inr (3, [.ref aS, .ref aA, .null, .null, .int 0, .int 0])), (aS, .inr (0, [.int (nI P), .int (nI (P - 2)), .int (nI (P - 1)), .int (nI (P * (P - 2)))])), (aA, .inl (cQ, i, .inr (.inr (.inr (.inr (fun z8 => some (aT z8)))))))] ++ (stW cI cB aS P aT aW aM (fun _ _ => 0) (fun _ _ => false) (fun _ => false) i))) List.perm_append_comm
        have hP : va_P (dC, dI) vwCl ([(aL, .inl (cB, P, .inl (fun z9 => bI ((fun _ => false) z9)))), (aR, .inr (3, [.ref aS, .ref aA, .null, .null, .int 0, .int 0])), (aS, .inr (0, [.int (nI P), .int (nI (P - 2)), .int (nI (P - 1)), .int (nI (P * (P - 2)))])), (aA, .inl (cQ, i, .inr (.inr (.inr (.inr (fun z8 => some (aT z8)))))))] ++ (stW cI cB aS P aT aW aM (fun _ _ => 0) (fun _ _ => false) (fun _ => false) i)) H := hP
        have hD : va_D A ([(aL, .inl (cB, P, .inl (fun z9 => bI ((fun _ => false) z9)))), (aR, .inr (3, [.ref aS, .ref aA, .null, .null, .int 0, .int 0])), (aS, .inr (0, [.int (nI P), .int (nI (P - 2)), .int (nI (P - 1)), .int (nI (P * (P - 2)))])), (aA, .inl (cQ, i, .inr (.inr (.inr (.inr (fun z8 => some (aT z8)))))))] ++ (stW cI cB aS P aT aW aM (fun _ _ => 0) (fun _ _ => false) (fun _ => false) i)) := hD
        have hP := hP.pre (pre' := [(aR, .inr (3, [.ref aS, .ref aA, .null, .null, .int 0, .int 0])), (aS, .inr (0, [.int (nI P), .int (nI (P - 2)), .int (nI (P - 1)), .int (nI (P * (P - 2)))])), (aA, .inl (cQ, i, .inr (.inr (.inr (.inr (fun z8 => some (aT z8))))))), (aL, .inl (cB, P, .inl (fun z9 => bI ((fun _ => false) z9))))]) (tl := (stW cI cB aS P aT aW aM (fun _ _ => 0) (fun _ _ => false) (fun _ => false) i)) [1, 2, 3, 0] rfl
        have hD := hD.pre (pre' := [(aR, .inr (3, [.ref aS, .ref aA, .null, .null, .int 0, .int 0])), (aS, .inr (0, [.int (nI P), .int (nI (P - 2)), .int (nI (P - 1)), .int (nI (P * (P - 2)))])), (aA, .inl (cQ, i, .inr (.inr (.inr (.inr (fun z8 => some (aT z8))))))), (aL, .inl (cB, P, .inl (fun z9 => bI ((fun _ => false) z9))))]) (tl := (stW cI cB aS P aT aW aM (fun _ _ => 0) (fun _ _ => false) (fun _ => false) i)) [1, 2, 3, 0] (by decide) rfl
        refine va_putF (D := (dC, dI)) (ci := 3) (v := .ref aL) (ty := (.array .boolean)) (C := RX3) (T := TX3) (N := 6) hx hb hts inX3 tyX3 tyX3_ok nmX3 hown hK hP hD hS 0 rfl rfl 2 (by decide) (hts _ t_fX3_44) (fun _ h9 => h9) rfl hin rfl (by decide +kernel) rfl rfl (Nat.le_of_ble_eq_true rfl) dX3_init_78 (fun H locs hP hD hS => ?_)
        have hP : va_P (dC, dI) vwCl ([(aR, .inr (3, [.ref aS, .ref aA, .ref aL, .null, .int 0, .int 0])), (aS, .inr (0, [.int (nI P), .int (nI (P - 2)), .int (nI (P - 1)), .int (nI (P * (P - 2)))])), (aA, .inl (cQ, i, .inr (.inr (.inr (.inr (fun z8 => some (aT z8))))))), (aL, .inl (cB, P, .inl (fun z9 => bI ((fun _ => false) z9))))] ++ (stW cI cB aS P aT aW aM (fun _ _ => 0) (fun _ _ => false) (fun _ => false) i)) H := hP
        have hD : va_D A ([(aR, .inr (3, [.ref aS, .ref aA, .ref aL, .null, .int 0, .int 0])), (aS, .inr (0, [.int (nI P), .int (nI (P - 2)), .int (nI (P - 1)), .int (nI (P * (P - 2)))])), (aA, .inl (cQ, i, .inr (.inr (.inr (.inr (fun z8 => some (aT z8))))))), (aL, .inl (cB, P, .inl (fun z9 => bI ((fun _ => false) z9))))] ++ (stW cI cB aS P aT aW aM (fun _ _ => 0) (fun _ _ => false) (fun _ => false) i)) := hD
        refine lv_aload_n hx hb dX3_init_81 rfl (lv_at hl 3 rfl) ?_
        refine va_new (ci := 2) (fs := [.null, .null, .null, .int 0]) (C := RX2) (T := TX2) (N := 4) hx hb hts inX2 tyX2 tyX2_ok hown (hts _ t_cX3_48) (hts _ t_new_X2) (hts _ t_ini_X2) hK hP hD hS hA rfl (fun j hj => by rcases (show j = 0 ∨ j = 1 ∨ j = 2 ∨ j = 3 by omega) with rfl | rfl | rfl | rfl <;> rfl) (Nat.le_of_ble_eq_true rfl) (Nat.le_of_ble_eq_true rfl) dX3_init_82 (fun aE H hP hD hS => ?_)
        have hP := hP.perm (ws' := [(aE, .inr (2, [.null, .null, .null, .int 0]))] ++ ([(aR, .inr (3, [.ref aS, .ref aA, .ref aL, .null, .int 0, .int 0])), (aS, .inr (0, [.int (nI P), .int (nI (P - 2)), .int (nI (P - 1)), .int (nI (P * (P - 2)))])), (aA, .inl (cQ, i, .inr (.inr (.inr (.inr (fun z8 => some (aT z8))))))), (aL, .inl (cB, P, .inl (fun z9 => bI ((fun _ => false) z9))))] ++ (stW cI cB aS P aT aW aM (fun _ _ => 0) (fun _ _ => false) (fun _ => false) i))) List.perm_append_comm
        have hD := hD.perm (ws' := [(aE, .inr (2, [.null, .null, .null, .int 0]))] ++ ([(aR, .inr (3, [.ref aS, .ref aA, .ref aL, .null, .int 0, .int 0])), (aS, .inr (0, [.int (nI P), .int (nI (P - 2)), .int (nI (P - 1)), .int (nI (P * (P - 2)))])), (aA, .inl (cQ, i, .inr (.inr (.inr (.inr (fun z8 => some (aT z8))))))), (aL, .inl (cB, P, .inl (fun z9 => bI ((fun _ => false) z9))))] ++ (stW cI cB aS P aT aW aM (fun _ _ => 0) (fun _ _ => false) (fun _ => false) i))) List.perm_append_comm
        have hP : va_P (dC, dI) vwCl ([(aE, .inr (2, [.null, .null, .null, .int 0])), (aR, .inr (3, [.ref aS, .ref aA, .ref aL, .null, .int 0, .int 0])), (aS, .inr (0, [.int (nI P), .int (nI (P - 2)), .int (nI (P - 1)), .int (nI (P * (P - 2)))])), (aA, .inl (cQ, i, .inr (.inr (.inr (.inr (fun z8 => some (aT z8))))))), (aL, .inl (cB, P, .inl (fun z9 => bI ((fun _ => false) z9))))] ++ (stW cI cB aS P aT aW aM (fun _ _ => 0) (fun _ _ => false) (fun _ => false) i)) H := hP
        have hD : va_D A ([(aE, .inr (2, [.null, .null, .null, .int 0])), (aR, .inr (3, [.ref aS, .ref aA, .ref aL, .null, .int 0, .int 0])), (aS, .inr (0, [.int (nI P), .int (nI (P - 2)), .int (nI (P - 1)), .int (nI (P * (P - 2)))])), (aA, .inl (cQ, i, .inr (.inr (.inr (.inr (fun z8 => some (aT z8))))))), (aL, .inl (cB, P, .inl (fun z9 => bI ((fun _ => false) z9))))] ++ (stW cI cB aS P aT aW aM (fun _ _ => 0) (fun _ _ => false) (fun _ => false) i)) := hD
        have hP := hP.pre (pre' := [(aE, .inr (2, [.null, .null, .null, .int 0])), (aS, .inr (0, [.int (nI P), .int (nI (P - 2)), .int (nI (P - 1)), .int (nI (P * (P - 2)))])), (aR, .inr (3, [.ref aS, .ref aA, .ref aL, .null, .int 0, .int 0])), (aA, .inl (cQ, i, .inr (.inr (.inr (.inr (fun z8 => some (aT z8))))))), (aL, .inl (cB, P, .inl (fun z9 => bI ((fun _ => false) z9))))]) (tl := (stW cI cB aS P aT aW aM (fun _ _ => 0) (fun _ _ => false) (fun _ => false) i)) [0, 2, 1, 3, 4] rfl
        have hD := hD.pre (pre' := [(aE, .inr (2, [.null, .null, .null, .int 0])), (aS, .inr (0, [.int (nI P), .int (nI (P - 2)), .int (nI (P - 1)), .int (nI (P * (P - 2)))])), (aR, .inr (3, [.ref aS, .ref aA, .ref aL, .null, .int 0, .int 0])), (aA, .inl (cQ, i, .inr (.inr (.inr (.inr (fun z8 => some (aT z8))))))), (aL, .inl (cB, P, .inl (fun z9 => bI ((fun _ => false) z9))))]) (tl := (stW cI cB aS P aT aW aM (fun _ _ => 0) (fun _ _ => false) (fun _ => false) i)) [0, 2, 1, 3, 4] (by decide) rfl
        refine lv_dup hx hb dX3_init_85 rfl ?_
        refine lv_aload_n hx hb dX3_init_86 rfl (lv_at hl 2 rfl) ?_
        refine gI (wc := [(aE, .inr (2, [.null, .null, .null, .int 0])), (aS, .inr (0, [.int (nI P), .int (nI (P - 2)), .int (nI (P - 1)), .int (nI (P * (P - 2)))]))]) (wr := ([(aR, .inr (3, [.ref aS, .ref aA, .ref aL, .null, .int 0, .int 0])), (aA, .inl (cQ, i, .inr (.inr (.inr (.inr (fun z8 => some (aT z8))))))), (aL, .inl (cB, P, .inl (fun z9 => bI ((fun _ => false) z9))))] ++ (stW cI cB aS P aT aW aM (fun _ _ => 0) (fun _ _ => false) (fun _ => false) i))) (b := aE) (As := [.ref aS]) (rst := [.ref aE, .ref aR]) ⟨hx, hb, hml, hown, hts⟩ (c_nTeller l dC dI cI cB cQ cJ aE aS P hp5) (cwI 1 hts (fun w hw => by rcases List.mem_cons.mp hw with rfl | h; exact ⟨t_code_X2_init, TB_good t_code_X2_init⟩; exact ⟨h, TB_good h⟩) rfl rfl rfl (hts _ t_ini_X2) (hts _ t_mX3_50) (hts _ t_inst_X2_init) rfl (by decide +kernel) ⟨Nat.le_of_ble_eq_true rfl, Nat.le_of_ble_eq_true rfl⟩) E0_ok (fun _ _ _ => trivial) hK hP hD hS hA rfl hl.1 rfl (Nat.le_of_ble_eq_true rfl) dX3_init_87 ⟨Nat.le_of_ble_eq_true rfl, Nat.le_of_ble_eq_true rfl⟩ (fun u H locs hu hP hD hS => ?_)
        obtain ⟨aEW, aEK⟩ := u
        have hP : va_P (dC, dI) vwCl ([(aE, .inr (2, [.ref aS, .ref aEW, .ref aEK, .int 0])), (aS, .inr (0, [.int (nI P), .int (nI (P - 2)), .int (nI (P - 1)), .int (nI (P * (P - 2)))])), (aEW, .inl (cI, P * P, .inl (fun _ => 0))), (aEK, .inl (cB, P * P, .inl (fun z9 => bI ((fun _ => false) z9)))), (aR, .inr (3, [.ref aS, .ref aA, .ref aL, .null, .int 0, .int 0])), (aA, .inl (cQ, i, .inr (.inr (.inr (.inr (fun z8 => some (aT z8))))))), (aL, .inl (cB, P, .inl (fun z9 => bI ((fun _ => false) z9))))] ++ (stW cI cB aS P aT aW aM (fun _ _ => 0) (fun _ _ => false) (fun _ => false) i)) H := hP
        have hD : va_D A ([(aE, .inr (2, [.ref aS, .ref aEW, .ref aEK, .int 0])), (aS, .inr (0, [.int (nI P), .int (nI (P - 2)), .int (nI (P - 1)), .int (nI (P * (P - 2)))])), (aEW, .inl (cI, P * P, .inl (fun _ => 0))), (aEK, .inl (cB, P * P, .inl (fun z9 => bI ((fun _ => false) z9)))), (aR, .inr (3, [.ref aS, .ref aA, .ref aL, .null, .int 0, .int 0])), (aA, .inl (cQ, i, .inr (.inr (.inr (.inr (fun z8 => some (aT z8))))))), (aL, .inl (cB, P, .inl (fun z9 => bI ((fun _ => false) z9))))] ++ (stW cI cB aS P aT aW aM (fun _ _ => 0) (fun _ _ => false) (fun _ => false) i)) := hD
        refine va_putF (D := (dC, dI)) (ci := 3) (v := .ref aE) (ty := (.object "DriveRing$Teller")) (C := RX3) (T := TX3) (N := 6) hx hb hts inX3 tyX3 tyX3_ok nmX3 hown hK hP hD hS 4 rfl rfl 3 (by decide) (hts _ t_fX3_51) (fun _ h9 => h9) rfl hin rfl (by decide +kernel) rfl rfl (Nat.le_of_ble_eq_true rfl) dX3_init_90 (fun H locs hP hD hS => ?_)
        have hP : va_P (dC, dI) vwCl ([(aE, .inr (2, [.ref aS, .ref aEW, .ref aEK, .int 0])), (aS, .inr (0, [.int (nI P), .int (nI (P - 2)), .int (nI (P - 1)), .int (nI (P * (P - 2)))])), (aEW, .inl (cI, P * P, .inl (fun _ => 0))), (aEK, .inl (cB, P * P, .inl (fun z9 => bI ((fun _ => false) z9)))), (aR, .inr (3, [.ref aS, .ref aA, .ref aL, .ref aE, .int 0, .int 0])), (aA, .inl (cQ, i, .inr (.inr (.inr (.inr (fun z8 => some (aT z8))))))), (aL, .inl (cB, P, .inl (fun z9 => bI ((fun _ => false) z9))))] ++ (stW cI cB aS P aT aW aM (fun _ _ => 0) (fun _ _ => false) (fun _ => false) i)) H := hP
        have hD : va_D A ([(aE, .inr (2, [.ref aS, .ref aEW, .ref aEK, .int 0])), (aS, .inr (0, [.int (nI P), .int (nI (P - 2)), .int (nI (P - 1)), .int (nI (P * (P - 2)))])), (aEW, .inl (cI, P * P, .inl (fun _ => 0))), (aEK, .inl (cB, P * P, .inl (fun z9 => bI ((fun _ => false) z9)))), (aR, .inr (3, [.ref aS, .ref aA, .ref aL, .ref aE, .int 0, .int 0])), (aA, .inl (cQ, i, .inr (.inr (.inr (.inr (fun z8 => some (aT z8))))))), (aL, .inl (cB, P, .inl (fun z9 => bI ((fun _ => false) z9))))] ++ (stW cI cB aS P aT aW aM (fun _ _ => 0) (fun _ _ => false) (fun _ => false) i)) := hD
        refine lv_aload_n hx hb dX3_init_93 rfl (lv_at hl 3 rfl) ?_
        refine lv_iconst (v := bI true) hx hb dX3_init_94 (by decide) ?_
        refine va_put (D := (dC, dI)) (ci := 3) (v := .int (bI true)) (ty := .boolean) (C := RX3) (T := TX3) (N := 6) hx hb hts inX3 tyX3 tyX3_ok nmX3 hown hK hP hD hS 4 rfl rfl 4 (by decide) (hts _ t_fX3_55) (fun _ h9 => h9) rfl (by decide +kernel) (bI_narrow _) (bI_fits _) (Nat.le_of_ble_eq_true rfl) dX3_init_95 (fun H locs hP hD hS => ?_)
        have hP : va_P (dC, dI) vwCl ([(aE, .inr (2, [.ref aS, .ref aEW, .ref aEK, .int 0])), (aS, .inr (0, [.int (nI P), .int (nI (P - 2)), .int (nI (P - 1)), .int (nI (P * (P - 2)))])), (aEW, .inl (cI, P * P, .inl (fun _ => 0))), (aEK, .inl (cB, P * P, .inl (fun z9 => bI ((fun _ => false) z9)))), (aR, .inr (3, [.ref aS, .ref aA, .ref aL, .ref aE, .int (bI true), .int 0])), (aA, .inl (cQ, i, .inr (.inr (.inr (.inr (fun z8 => some (aT z8))))))), (aL, .inl (cB, P, .inl (fun z9 => bI ((fun _ => false) z9))))] ++ (stW cI cB aS P aT aW aM (fun _ _ => 0) (fun _ _ => false) (fun _ => false) i)) H := hP
        have hD : va_D A ([(aE, .inr (2, [.ref aS, .ref aEW, .ref aEK, .int 0])), (aS, .inr (0, [.int (nI P), .int (nI (P - 2)), .int (nI (P - 1)), .int (nI (P * (P - 2)))])), (aEW, .inl (cI, P * P, .inl (fun _ => 0))), (aEK, .inl (cB, P * P, .inl (fun z9 => bI ((fun _ => false) z9)))), (aR, .inr (3, [.ref aS, .ref aA, .ref aL, .ref aE, .int (bI true), .int 0])), (aA, .inl (cQ, i, .inr (.inr (.inr (.inr (fun z8 => some (aT z8))))))), (aL, .inl (cB, P, .inl (fun z9 => bI ((fun _ => false) z9))))] ++ (stW cI cB aS P aT aW aM (fun _ _ => 0) (fun _ _ => false) (fun _ => false) i)) := hD
        refine lv_aload_n hx hb dX3_init_98 rfl (lv_at hl 3 rfl) ?_
        refine lv_iconst (v := -1) hx hb dX3_init_99 (by decide) ?_
        refine va_put (D := (dC, dI)) (ci := 3) (v := .int (-1)) (ty := .int) (C := RX3) (T := TX3) (N := 6) hx hb hts inX3 tyX3 tyX3_ok nmX3 hown hK hP hD hS 4 rfl rfl 5 (by decide) (hts _ t_fX3_59) (fun _ h9 => h9) rfl (by decide +kernel) rfl rfl (Nat.le_of_ble_eq_true rfl) dX3_init_100 (fun H locs hP hD hS => ?_)
        have hP : va_P (dC, dI) vwCl ([(aE, .inr (2, [.ref aS, .ref aEW, .ref aEK, .int 0])), (aS, .inr (0, [.int (nI P), .int (nI (P - 2)), .int (nI (P - 1)), .int (nI (P * (P - 2)))])), (aEW, .inl (cI, P * P, .inl (fun _ => 0))), (aEK, .inl (cB, P * P, .inl (fun z9 => bI ((fun _ => false) z9)))), (aR, .inr (3, [.ref aS, .ref aA, .ref aL, .ref aE, .int (bI true), .int (-1)])), (aA, .inl (cQ, i, .inr (.inr (.inr (.inr (fun z8 => some (aT z8))))))), (aL, .inl (cB, P, .inl (fun z9 => bI ((fun _ => false) z9))))] ++ (stW cI cB aS P aT aW aM (fun _ _ => 0) (fun _ _ => false) (fun _ => false) i)) H := hP
        have hD : va_D A ([(aE, .inr (2, [.ref aS, .ref aEW, .ref aEK, .int 0])), (aS, .inr (0, [.int (nI P), .int (nI (P - 2)), .int (nI (P - 1)), .int (nI (P * (P - 2)))])), (aEW, .inl (cI, P * P, .inl (fun _ => 0))), (aEK, .inl (cB, P * P, .inl (fun z9 => bI ((fun _ => false) z9)))), (aR, .inr (3, [.ref aS, .ref aA, .ref aL, .ref aE, .int (bI true), .int (-1)])), (aA, .inl (cQ, i, .inr (.inr (.inr (.inr (fun z8 => some (aT z8))))))), (aL, .inl (cB, P, .inl (fun z9 => bI ((fun _ => false) z9))))] ++ (stW cI cB aS P aT aW aM (fun _ _ => 0) (fun _ _ => false) (fun _ => false) i)) := hD
        have hP := hP.pre (pre' := [(aR, .inr (3, [.ref aS, .ref aA, .ref aL, .ref aE, .int (bI true), .int (-1)])), (aS, .inr (0, [.int (nI P), .int (nI (P - 2)), .int (nI (P - 1)), .int (nI (P * (P - 2)))])), (aA, .inl (cQ, i, .inr (.inr (.inr (.inr (fun z8 => some (aT z8))))))), (aL, .inl (cB, P, .inl (fun z9 => bI ((fun _ => false) z9)))), (aE, .inr (2, [.ref aS, .ref aEW, .ref aEK, .int 0])), (aEW, .inl (cI, P * P, .inl (fun _ => 0))), (aEK, .inl (cB, P * P, .inl (fun z9 => bI ((fun _ => false) z9))))]) (tl := (stW cI cB aS P aT aW aM (fun _ _ => 0) (fun _ _ => false) (fun _ => false) i)) [4, 1, 5, 6, 0, 2, 3] rfl
        have hD := hD.pre (pre' := [(aR, .inr (3, [.ref aS, .ref aA, .ref aL, .ref aE, .int (bI true), .int (-1)])), (aS, .inr (0, [.int (nI P), .int (nI (P - 2)), .int (nI (P - 1)), .int (nI (P * (P - 2)))])), (aA, .inl (cQ, i, .inr (.inr (.inr (.inr (fun z8 => some (aT z8))))))), (aL, .inl (cB, P, .inl (fun z9 => bI ((fun _ => false) z9)))), (aE, .inr (2, [.ref aS, .ref aEW, .ref aEK, .int 0])), (aEW, .inl (cI, P * P, .inl (fun _ => 0))), (aEK, .inl (cB, P * P, .inl (fun z9 => bI ((fun _ => false) z9))))]) (tl := (stW cI cB aS P aT aW aM (fun _ _ => 0) (fun _ _ => false) (fun _ => false) i)) [4, 1, 5, 6, 0, 2, 3] (by decide) rfl
        exact x_vretE (D := (dC, dI)) (cl := vwCl) (A := A) (aS, aA, aL, aE, aEW, aEK, aT, aW, aM) hQ hx hb hr hlk hP hD hS (Nat.le_of_ble_eq_true rfl) (Nat.le_of_ble_eq_true rfl) dX3_init_103 trivial
      · refine lv_aload hx hb dX3_init_41 (lv_at hl 1 rfl) ?_
        refine lv_iload hx hb dX3_init_43 (lv_at hl 0 rfl) ?_
        refine va_new (ci := 1) (fs := [.null, .null, .null, .int (bI false)]) (C := RX1) (T := TX1) (N := 4) hx hb hts inX1 tyX1 tyX1_ok hown (hts _ t_cX3_27) (hts _ t_new_X1) (hts _ t_ini_X1) hK hP hD hS hA rfl (fun j hj => by rcases (show j = 0 ∨ j = 1 ∨ j = 2 ∨ j = 3 by omega) with rfl | rfl | rfl | rfl <;> rfl) (show 2 + 3 * i + 1 ≤ 18 by omega) (show 8 + 186 * i + 4 ≤ 1107 by omega) dX3_init_45 (fun q H hP hD hS => ?_)
        have hP := hP.perm (ws' := [(q, .inr (1, [.null, .null, .null, .int (bI false)]))] ++ ([(aR, .inr (3, [.null, .null, .null, .null, .int 0, .int 0])), (aS, .inr (0, [.int (nI P), .int (nI (P - 2)), .int (nI (P - 1)), .int (nI (P * (P - 2)))])), (aA, .inl (cQ, n, .inr (.inr (.inr (.inr (aOf aT i))))))] ++ (stW cI cB aS P aT aW aM (fun _ _ => 0) (fun _ _ => false) (fun _ => false) i))) List.perm_append_comm
        have hD := hD.perm (ws' := [(q, .inr (1, [.null, .null, .null, .int (bI false)]))] ++ ([(aR, .inr (3, [.null, .null, .null, .null, .int 0, .int 0])), (aS, .inr (0, [.int (nI P), .int (nI (P - 2)), .int (nI (P - 1)), .int (nI (P * (P - 2)))])), (aA, .inl (cQ, n, .inr (.inr (.inr (.inr (aOf aT i))))))] ++ (stW cI cB aS P aT aW aM (fun _ _ => 0) (fun _ _ => false) (fun _ => false) i))) List.perm_append_comm
        have hP : va_P (dC, dI) vwCl ([(q, .inr (1, [.null, .null, .null, .int (bI false)])), (aR, .inr (3, [.null, .null, .null, .null, .int 0, .int 0])), (aS, .inr (0, [.int (nI P), .int (nI (P - 2)), .int (nI (P - 1)), .int (nI (P * (P - 2)))])), (aA, .inl (cQ, n, .inr (.inr (.inr (.inr (aOf aT i))))))] ++ (stW cI cB aS P aT aW aM (fun _ _ => 0) (fun _ _ => false) (fun _ => false) i)) H := hP
        have hD : va_D A ([(q, .inr (1, [.null, .null, .null, .int (bI false)])), (aR, .inr (3, [.null, .null, .null, .null, .int 0, .int 0])), (aS, .inr (0, [.int (nI P), .int (nI (P - 2)), .int (nI (P - 1)), .int (nI (P * (P - 2)))])), (aA, .inl (cQ, n, .inr (.inr (.inr (.inr (aOf aT i))))))] ++ (stW cI cB aS P aT aW aM (fun _ _ => 0) (fun _ _ => false) (fun _ => false) i)) := hD
        have hP := hP.pre (pre' := [(q, .inr (1, [.null, .null, .null, .int (bI false)])), (aS, .inr (0, [.int (nI P), .int (nI (P - 2)), .int (nI (P - 1)), .int (nI (P * (P - 2)))])), (aR, .inr (3, [.null, .null, .null, .null, .int 0, .int 0])), (aA, .inl (cQ, n, .inr (.inr (.inr (.inr (aOf aT i))))))]) (tl := (stW cI cB aS P aT aW aM (fun _ _ => 0) (fun _ _ => false) (fun _ => false) i)) [0, 2, 1, 3] rfl
        have hD := hD.pre (pre' := [(q, .inr (1, [.null, .null, .null, .int (bI false)])), (aS, .inr (0, [.int (nI P), .int (nI (P - 2)), .int (nI (P - 1)), .int (nI (P * (P - 2)))])), (aR, .inr (3, [.null, .null, .null, .null, .int 0, .int 0])), (aA, .inl (cQ, n, .inr (.inr (.inr (.inr (aOf aT i))))))]) (tl := (stW cI cB aS P aT aW aM (fun _ _ => 0) (fun _ _ => false) (fun _ => false) i)) [0, 2, 1, 3] (by decide) rfl
        refine lv_dup hx hb dX3_init_48 rfl ?_
        refine lv_aload_n hx hb dX3_init_49 rfl (lv_at hl 2 rfl) ?_
        refine gI (wc := [(q, .inr (1, [.null, .null, .null, .int (bI false)])), (aS, .inr (0, [.int (nI P), .int (nI (P - 2)), .int (nI (P - 1)), .int (nI (P * (P - 2)))]))]) (wr := ([(aR, .inr (3, [.null, .null, .null, .null, .int 0, .int 0])), (aA, .inl (cQ, n, .inr (.inr (.inr (.inr (aOf aT i))))))] ++ (stW cI cB aS P aT aW aM (fun _ _ => 0) (fun _ _ => false) (fun _ => false) i))) (b := q) (As := [.ref aS]) (rst := [.ref q, .int (nI i), .ref aA]) ⟨hx, hb, hml, hown, hts⟩ (c_nStripe l dC dI cI cB cQ cJ q aS P hp5) (cwI 1 hts (fun w hw => by rcases List.mem_cons.mp hw with rfl | h; exact ⟨t_code_X1_init, TB_good t_code_X1_init⟩; exact ⟨h, TB_good h⟩) rfl rfl rfl (hts _ t_ini_X1) (hts _ t_mX3_29) (hts _ t_inst_X1_init) rfl (by decide +kernel) ⟨Nat.le_of_ble_eq_true rfl, Nat.le_of_ble_eq_true rfl⟩) E0_ok (fun _ _ _ => trivial) hK hP hD hS hA rfl hl.1 rfl (Nat.le_of_ble_eq_true rfl) dX3_init_50 ⟨(show 2 + 3 * i + 1 + 2 ≤ 18 by omega), (show 8 + 186 * i + 4 + 182 ≤ 1107 by omega)⟩ (fun u H locs hu hP hD hS => ?_)
        obtain ⟨qW, qM⟩ := u
        have hP : va_P (dC, dI) vwCl ([(q, .inr (1, [.ref aS, .ref qW, .ref qM, .int (bI false)])), (aS, .inr (0, [.int (nI P), .int (nI (P - 2)), .int (nI (P - 1)), .int (nI (P * (P - 2)))])), (qW, .inl (cI, P * P, .inl (fun _ => 0))), (qM, .inl (cB, P, .inl (fun z9 => bI ((fun _ => false) z9)))), (aR, .inr (3, [.null, .null, .null, .null, .int 0, .int 0])), (aA, .inl (cQ, n, .inr (.inr (.inr (.inr (aOf aT i))))))] ++ (stW cI cB aS P aT aW aM (fun _ _ => 0) (fun _ _ => false) (fun _ => false) i)) H := hP
        have hD : va_D A ([(q, .inr (1, [.ref aS, .ref qW, .ref qM, .int (bI false)])), (aS, .inr (0, [.int (nI P), .int (nI (P - 2)), .int (nI (P - 1)), .int (nI (P * (P - 2)))])), (qW, .inl (cI, P * P, .inl (fun _ => 0))), (qM, .inl (cB, P, .inl (fun z9 => bI ((fun _ => false) z9)))), (aR, .inr (3, [.null, .null, .null, .null, .int 0, .int 0])), (aA, .inl (cQ, n, .inr (.inr (.inr (.inr (aOf aT i))))))] ++ (stW cI cB aS P aT aW aM (fun _ _ => 0) (fun _ _ => false) (fun _ => false) i)) := hD
        refine va_astq hx hb hK hP hD hS 5 2 0 1 rfl rfl rfl rfl (nI_in (by omega) (by omega)) dX3_init_53 (fun H locs hP hD hS => ?_)
        rw [nI_clamp (by omega), aOf_up] at hP hD
        have hP : va_P (dC, dI) vwCl ([(q, .inr (1, [.ref aS, .ref qW, .ref qM, .int (bI false)])), (aS, .inr (0, [.int (nI P), .int (nI (P - 2)), .int (nI (P - 1)), .int (nI (P * (P - 2)))])), (qW, .inl (cI, P * P, .inl (fun _ => 0))), (qM, .inl (cB, P, .inl (fun z9 => bI ((fun _ => false) z9)))), (aR, .inr (3, [.null, .null, .null, .null, .int 0, .int 0])), (aA, .inl (cQ, n, .inr (.inr (.inr (.inr (aOf (va_up aT i q) (i + 1)))))))] ++ (stW cI cB aS P aT aW aM (fun _ _ => 0) (fun _ _ => false) (fun _ => false) i)) H := hP
        have hD : va_D A ([(q, .inr (1, [.ref aS, .ref qW, .ref qM, .int (bI false)])), (aS, .inr (0, [.int (nI P), .int (nI (P - 2)), .int (nI (P - 1)), .int (nI (P * (P - 2)))])), (qW, .inl (cI, P * P, .inl (fun _ => 0))), (qM, .inl (cB, P, .inl (fun z9 => bI ((fun _ => false) z9)))), (aR, .inr (3, [.null, .null, .null, .null, .int 0, .int 0])), (aA, .inl (cQ, n, .inr (.inr (.inr (.inr (aOf (va_up aT i q) (i + 1)))))))] ++ (stW cI cB aS P aT aW aM (fun _ _ => 0) (fun _ _ => false) (fun _ => false) i)) := hD
        have hP := hP.pre (pre' := [(aR, .inr (3, [.null, .null, .null, .null, .int 0, .int 0])), (aS, .inr (0, [.int (nI P), .int (nI (P - 2)), .int (nI (P - 1)), .int (nI (P * (P - 2)))])), (aA, .inl (cQ, n, .inr (.inr (.inr (.inr (aOf (va_up aT i q) (i + 1))))))), (q, .inr (1, [.ref aS, .ref qW, .ref qM, .int (bI false)])), (qW, .inl (cI, P * P, .inl (fun _ => 0))), (qM, .inl (cB, P, .inl (fun z9 => bI ((fun _ => false) z9))))]) (tl := (stW cI cB aS P aT aW aM (fun _ _ => 0) (fun _ _ => false) (fun _ => false) i)) [4, 1, 5, 0, 2, 3] rfl
        have hD := hD.pre (pre' := [(aR, .inr (3, [.null, .null, .null, .null, .int 0, .int 0])), (aS, .inr (0, [.int (nI P), .int (nI (P - 2)), .int (nI (P - 1)), .int (nI (P * (P - 2)))])), (aA, .inl (cQ, n, .inr (.inr (.inr (.inr (aOf (va_up aT i q) (i + 1))))))), (q, .inr (1, [.ref aS, .ref qW, .ref qM, .int (bI false)])), (qW, .inl (cI, P * P, .inl (fun _ => 0))), (qM, .inl (cB, P, .inl (fun z9 => bI ((fun _ => false) z9))))]) (tl := (stW cI cB aS P aT aW aM (fun _ _ => 0) (fun _ _ => false) (fun _ => false) i)) [4, 1, 5, 0, 2, 3] (by decide) rfl
        have hP := hP.perm (ws' := [(aR, .inr (3, [.null, .null, .null, .null, .int 0, .int 0])), (aS, .inr (0, [.int (nI P), .int (nI (P - 2)), .int (nI (P - 1)), .int (nI (P * (P - 2)))])), (aA, .inl (cQ, n, .inr (.inr (.inr (.inr (aOf (va_up aT i q) (i + 1)))))))] ++ ((stW cI cB aS P aT aW aM (fun _ _ => 0) (fun _ _ => false) (fun _ => false) i) ++ [(q, .inr (1, [.ref aS, .ref qW, .ref qM, .int (bI false)])), (qW, .inl (cI, P * P, .inl (fun _ => 0))), (qM, .inl (cB, P, .inl (fun z9 => bI ((fun _ => false) z9))))])) (List.Perm.append_left _ List.perm_append_comm)
        have hD := hD.perm (ws' := [(aR, .inr (3, [.null, .null, .null, .null, .int 0, .int 0])), (aS, .inr (0, [.int (nI P), .int (nI (P - 2)), .int (nI (P - 1)), .int (nI (P * (P - 2)))])), (aA, .inl (cQ, n, .inr (.inr (.inr (.inr (aOf (va_up aT i q) (i + 1)))))))] ++ ((stW cI cB aS P aT aW aM (fun _ _ => 0) (fun _ _ => false) (fun _ => false) i) ++ [(q, .inr (1, [.ref aS, .ref qW, .ref qM, .int (bI false)])), (qW, .inl (cI, P * P, .inl (fun _ => 0))), (qM, .inl (cB, P, .inl (fun z9 => bI ((fun _ => false) z9))))])) (List.Perm.append_left _ List.perm_append_comm)
        rw [← stW_new] at hP hD
        refine lv_iinc (v := nI (i + 1)) hx hb dX3_init_54 hl (k := 0) rfl (x_inc _) (by decide) rfl (fun ls hl => ?_)
        have hl : lv_has ls 6 [(5, .int (nI (i + 1))), (4, .ref aA), (3, .ref aS), (0, .ref aR), (1, .int x), (2, .int y)] := hl
        refine lv_goto (tgt := 33) hx hb dX3_init_57 (by decide) ?_
        exact ih (i + 1) (va_up aT i q) (va_up aW i qW) (va_up aM i qM) ls H locs (by omega) (by omega) hl hP hD hS
  exact lp33 (n + 1) 0 (fun _ => 0) (fun _ => 0) (fun _ => 0) ls H locs (by omega) (by omega) hl hP hD hS
