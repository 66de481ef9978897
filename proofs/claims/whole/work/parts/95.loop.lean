theorem lw_cmp {g : Nat → Int64} : lg_cmp (g (nI 0).toNatClampNeg) (g 0) = 0 := by
  rw [nI_clamp (by omega)]
  simp [lg_cmp]
theorem lw_i4 (t : Nat) : nI (2 + 4 * t) + Int32.ofInt 4 = nI (2 + 4 * (t + 1)) := nI_add (2 + 4 * t) 4
abbrev WL (cI cB cQ cJ : ClassId) (a : AC) (bm : AM) (aJ P n : Nat) (g : Nat → Int64) (S : CS) (M : MS) : va_W := [(aJ, .inl (cJ, 1, .inr (.inl g)))] ++ (RWs cI cB cQ a P n S ++ (WMs cI cB bm P n M ++ []))
theorem lw_more {L i : Nat} (hL : L ≤ 2050) (hi : i < 2100) (h : ¬ nI L - nI 4 < nI i) : i + 4 ≤ L := by
  by_cases h4 : 4 ≤ L
  · have e : nI L - nI 4 = nI (L - 4) := by
      have h9 := nI_add (L - 4) 4
      rw [show L - 4 + 4 = L by omega] at h9
      rw [← h9]
      exact Int32.add_sub_cancel _ _
    rw [e, nI_ltI (by omega) (by omega)] at h
    omega
  · exfalso
    have hc : L = 0 ∨ L = 1 ∨ L = 2 ∨ L = 3 := by omega
    have h0 : nI L - nI 4 < 0 := by rcases hc with rfl | rfl | rfl | rfl <;> decide
    have h1 : (0 : Int32) ≤ nI i := nI_pos' (by omega)
    exact h (Int32.lt_of_lt_of_le h0 h1)
set_option maxHeartbeats 8000000 in
set_option maxRecDepth 100000 in
theorem law_loop {p : Program} {e : Env} {s : State} {m : MethodId} {below : List Frame} {meth : Method} {c : Code} (l : Launch) (htl : l.stackTraces = false) {b L : Nat} {xs : Nat → Int32} (hL : L ≤ 2050) (hx : p.tables.exec = Jvm.exec) (hb : c.code = code) (hr : meth.sig.returnType = ret) (hml : c.maxLocals = 7) (hown : s.vm.findClass "DriveRingLaw" = some m.cls) (hts : ∀ w ∈ TB, w.before #[Value.ref b] s = true) (hX : va_X b L xs s s.heap) (hbl : b < s.heap.size) (hlk : meth.locks = false) {A : Nat → Prop} (hAe : A = fun q => s.heap.size ≤ q) (hE : E_th A s)
    {dC : Nat → ClassId} {dI : Nat → Nat → Nat} {cI cB cQ cJ : ClassId} (hK : va_K (dC, dI) vwCl (TY cI cB cQ cJ) s) {a : AC} {bm : AM} {aJ P n : Nat} : ∀ (n9 t : Nat) (S : CS) (M : MS) (g : Nat → Int64) (ls : Array Slot) (H : Heap) (locs : List Loc), 513 - t < n9 → t ≤ 512 → Inv P n S M → lv_has ls 7 [(4, .int (nI (2 + 4 * t))), (3, .ref aJ), (2, .ref bm.aO), (1, .ref a.aR), (0, .ref b)] → va_P (dC, dI) vwCl (WL cI cB cQ cJ a bm aJ P n g S M) H → va_D A (WL cI cB cQ cJ a bm aJ P n g S M) → va_S A s.heap H locs → W p l e room_1 s m #[Value.ref b] below meth c H locs (29 + t) (1964 + 6 * t) (lw_Z below #[Value.ref b] s) (F0 m 43 ls []) := by
  have hA : ∀ q : Nat, s.heap.size ≤ q → A q := fun q h => by rw [hAe]; exact h
  have hbA : ¬ A b := by rw [hAe]; exact Nat.not_le.mpr hbl
  intro n9
  induction n9 with
  | zero => intro t S M g ls H locs h9; omega
  | succ n9 ih =>
    intro t S M g ls H locs hn9 ht hI hl hP hD hS
    refine lv_iload hx hb dLW_43 (lv_at hl 0 rfl) ?_
    refine lv_aload_n hx hb dLW_45 rfl (lv_at hl 4 rfl) ?_
    refine va_slen hx hb hX hbl hbA hS dLW_46 ?_
    refine lv_iconst (v := nI 4) hx hb dLW_47 (by decide) ?_
    refine lv_isub hx hb dLW_48 ?_
    refine lv_icmp_gt (tgt := 498) hx hb dLW_49 (by decide) (fun h49 => ?_) (fun h49 => ?_)
    · refine lv_iconst (v := 1) hx hb dLW_498 (by decide) ?_
      refine va_forget (fun q hq => by have := hS.2.2 q hq; rw [hAe] at this; exact this) ?_
      refine W.widen (k := 601024) (n := 7293000) (by omega) (by omega) ?_
      exact lw_ret hx hb hr hlk dLW_499
    · have hi4 := lw_more hL (by omega) h49
      have next : ∀ (S : CS) (M : MS) (g : Nat → Int64) (ls : Array Slot) (H : Heap) (locs : List Loc), Inv P n S M → lv_has ls 7 [(4, .int (nI (2 + 4 * t))), (3, .ref aJ), (2, .ref bm.aO), (1, .ref a.aR), (0, .ref b)] → va_P (dC, dI) vwCl (WL cI cB cQ cJ a bm aJ P n g S M) H → va_D A (WL cI cB cQ cJ a bm aJ P n g S M) → va_S A s.heap H locs → W p l e room_1 s m #[Value.ref b] below meth c H locs (29 + (t + 1)) (1964 + 6 * (t + 1)) (lw_Z below #[Value.ref b] s) (F0 m 492 ls []) := by
        intro S M g ls H locs hI hl hP hD hS
        refine lv_iinc (v := nI (2 + 4 * (t + 1))) hx hb dLW_492 hl (k := 0) rfl (lw_i4 t) (by decide) rfl (fun ls hl => ?_)
        refine lv_goto (tgt := 43) hx hb dLW_495 (by decide) ?_
        exact ih (t + 1) S M g ls H locs (by omega) (by omega) hI (lv_sub hl [0, 1, 2, 3, 4] rfl) hP hD hS
      refine lv_aload_n hx hb dLW_52 rfl (lv_at hl 4 rfl) ?_
      refine lv_iload hx hb dLW_53 (lv_at hl 0 rfl) ?_
      refine x_sld (j := 2 + 4 * t) hx hb hX hbl hbA hS (by omega) hL dLW_55 ?_
      refine lv_bipush (v := nI 15) hx hb dLW_56 (by decide) ?_
      refine lv_iand hx hb dLW_58 ?_
      generalize (xs (2 + 4 * t) &&& nI 15 : Int32) = vv
      by_cases hsw : vv.toInt < 0 ∨ (12 : Int) < vv.toInt
      · refine lv_tableOut (tgt := 492) hx hb dLW_59 hsw (by decide) ?_
        exact W.widen (by omega) (by omega) (next S M g ls H locs hI hl hP hD hS)
      · obtain ⟨j9, hj9, rfl⟩ := dr_sw 12 (by decide) hsw
        have hj8 : j9 = 0 ∨ j9 = 1 ∨ j9 = 2 ∨ j9 = 3 ∨ j9 = 4 ∨ j9 = 5 ∨ j9 = 6 ∨ j9 = 7 ∨ j9 = 8 ∨ j9 = 9 ∨ j9 = 10 ∨ j9 = 11 ∨ j9 = 12 := by omega
        rcases hj8 with rfl | rfl | rfl | rfl | rfl | rfl | rfl | rfl | rfl | rfl | rfl | rfl | rfl
        · refine lv_tableIn (off := 65) (tgt := 124) hx hb dLW_59 (by decide) (by decide) (by decide) (by decide) ?_
          obtain ⟨S', rr, ⟨rm1, c1, c2, c3, c4, hMc⟩, ⟨rm2, m1, m2, m3, m4, hMm⟩⟩ := op_count l dC dI cI cB cQ cJ a bm hI (xs (2 + 4 * t + 1))
          refine lv_aload_n hx hb dLW_124 rfl (lv_at hl 3 rfl) ?_
          refine lv_aload_n hx hb dLW_125 rfl (lv_at hl 4 rfl) ?_
          refine lv_iload hx hb dLW_126 (lv_at hl 0 rfl) ?_
          refine lv_iconst (v := nI 1) hx hb dLW_128 (by decide) ?_
          refine x_add hx hb dLW_129 ?_
          refine x_sld (j := 2 + 4 * t + 1) hx hb hX hbl hbA hS (by omega) hL dLW_130 ?_
          refine lc_g (w1 := [(aJ, .inl (cJ, 1, .inr (.inl g)))]) (w2 := WMs cI cB bm P n M ++ []) (nn := 1) (rb := a.aR) (av := [.int (xs (2 + 4 * t + 1))]) (ci := 3) (qc := (RX3, TX3, 6)) (rst := []) ⟨hx, hb, hml, hown, hts⟩ hMc c1 c2 c3 c4 (gdV t_mL_29 t_inst_X3_count t_sel_X3_count t_ini_X3 t_code_X3_count) (by decide +kernel) hK hP hD hS hA rfl rfl rfl hl.1 rfl (Nat.le_of_ble_eq_true rfl) dLW_131 ⟨by omega, by omega⟩ (fun r u H locs hu hP hD hS => ?_)
          have hu : r = rr := hu
          subst hu
          refine lv_aload_n hx hb dLW_134 rfl (lv_at hl 2 rfl) ?_
          refine lv_aload_n hx hb dLW_135 rfl (lv_at hl 4 rfl) ?_
          refine lv_iload hx hb dLW_136 (lv_at hl 0 rfl) ?_
          refine lv_iconst (v := nI 1) hx hb dLW_138 (by decide) ?_
          refine x_add hx hb dLW_139 ?_
          refine x_sld (j := 2 + 4 * t + 1) hx hb hX hbl hbA hS (by omega) hL dLW_140 ?_
          refine lc_g (w1 := (aJ, .inl (cJ, 1, .inr (.inl g))) :: RWs cI cB cQ a P n S') (w2 := []) (nn := 1) (rb := bm.aO) (av := [.int (xs (2 + 4 * t + 1))]) (ci := 4) (qc := (RX4, TX4, 14)) (rst := [.int r]) ⟨hx, hb, hml, hown, hts⟩ hMm m1 m2 m3 m4 (gdV t_mL_32 t_inst_X4_count t_sel_X4_count t_ini_X4 t_code_X4_count) (by decide +kernel) hK hP hD hS hA rfl rfl rfl hl.1 rfl (Nat.le_of_ble_eq_true rfl) dLW_141 ⟨by omega, by omega⟩ (fun r2 u H locs hu hP hD hS => ?_)
          obtain ⟨hu1, hI2⟩ := hu
          have hu1 : r2 = r := hu1
          subst hu1
          refine lv_icmp_eq (tgt := 492) hx hb dLW_144 (by decide) (fun _ => ?_) (fun z9 => absurd rfl z9)
          exact W.widen (by omega) (by omega) (next S' u g ls H locs hI2 hl hP hD hS)
        · refine lv_tableIn (off := 90) (tgt := 149) hx hb dLW_59 (by decide) (by decide) (by decide) (by decide) ?_
          obtain ⟨S', rr, ⟨rm1, c1, c2, c3, c4, hMc⟩, ⟨rm2, m1, m2, m3, m4, hMm⟩⟩ := op_write l dC dI cI cB cQ cJ a bm hI (xs (2 + 4 * t + 1)) (xs (2 + 4 * t + 2))
          refine lv_aload_n hx hb dLW_149 rfl (lv_at hl 3 rfl) ?_
          refine lv_aload_n hx hb dLW_150 rfl (lv_at hl 4 rfl) ?_
          refine lv_iload hx hb dLW_151 (lv_at hl 0 rfl) ?_
          refine lv_iconst (v := nI 1) hx hb dLW_153 (by decide) ?_
          refine x_add hx hb dLW_154 ?_
          refine x_sld (j := 2 + 4 * t + 1) hx hb hX hbl hbA hS (by omega) hL dLW_155 ?_
          refine lv_aload_n hx hb dLW_156 rfl (lv_at hl 4 rfl) ?_
          refine lv_iload hx hb dLW_157 (lv_at hl 0 rfl) ?_
          refine lv_iconst (v := nI 2) hx hb dLW_159 (by decide) ?_
          refine x_add hx hb dLW_160 ?_
          refine x_sld (j := 2 + 4 * t + 2) hx hb hX hbl hbA hS (by omega) hL dLW_161 ?_
          refine lc_g (w1 := [(aJ, .inl (cJ, 1, .inr (.inl g)))]) (w2 := WMs cI cB bm P n M ++ []) (nn := 2) (rb := a.aR) (av := [.int (xs (2 + 4 * t + 1)), .int (xs (2 + 4 * t + 2))]) (ci := 3) (qc := (RX3, TX3, 6)) (rst := []) ⟨hx, hb, hml, hown, hts⟩ hMc c1 c2 c3 c4 (gdV t_mL_33 t_inst_X3_write t_sel_X3_write t_ini_X3 t_code_X3_write) (by decide +kernel) hK hP hD hS hA rfl rfl rfl hl.1 rfl (Nat.le_of_ble_eq_true rfl) dLW_162 ⟨by omega, by omega⟩ (fun r u H locs hu hP hD hS => ?_)
          have hu : r = rr := hu
          subst hu
          refine lv_aload_n hx hb dLW_165 rfl (lv_at hl 2 rfl) ?_
          refine lv_aload_n hx hb dLW_166 rfl (lv_at hl 4 rfl) ?_
          refine lv_iload hx hb dLW_167 (lv_at hl 0 rfl) ?_
          refine lv_iconst (v := nI 1) hx hb dLW_169 (by decide) ?_
          refine x_add hx hb dLW_170 ?_
          refine x_sld (j := 2 + 4 * t + 1) hx hb hX hbl hbA hS (by omega) hL dLW_171 ?_
          refine lv_aload_n hx hb dLW_172 rfl (lv_at hl 4 rfl) ?_
          refine lv_iload hx hb dLW_173 (lv_at hl 0 rfl) ?_
          refine lv_iconst (v := nI 2) hx hb dLW_175 (by decide) ?_
          refine x_add hx hb dLW_176 ?_
          refine x_sld (j := 2 + 4 * t + 2) hx hb hX hbl hbA hS (by omega) hL dLW_177 ?_
          refine lc_g (w1 := (aJ, .inl (cJ, 1, .inr (.inl g))) :: RWs cI cB cQ a P n S') (w2 := []) (nn := 2) (rb := bm.aO) (av := [.int (xs (2 + 4 * t + 1)), .int (xs (2 + 4 * t + 2))]) (ci := 4) (qc := (RX4, TX4, 14)) (rst := [.int r]) ⟨hx, hb, hml, hown, hts⟩ hMm m1 m2 m3 m4 (gdV t_mL_37 t_inst_X4_write t_sel_X4_write t_ini_X4 t_code_X4_write) (by decide +kernel) hK hP hD hS hA rfl rfl rfl hl.1 rfl (Nat.le_of_ble_eq_true rfl) dLW_178 ⟨by omega, by omega⟩ (fun r2 u H locs hu hP hD hS => ?_)
          obtain ⟨hu1, hI2⟩ := hu
          have hu1 : r2 = r := hu1
          subst hu1
          refine lv_icmp_eq (tgt := 492) hx hb dLW_181 (by decide) (fun _ => ?_) (fun z9 => absurd rfl z9)
          exact W.widen (by omega) (by omega) (next S' u g ls H locs hI2 hl hP hD hS)
        · refine lv_tableIn (off := 127) (tgt := 186) hx hb dLW_59 (by decide) (by decide) (by decide) (by decide) ?_
          obtain ⟨S', kk, g', rr, hMx, ⟨rm2, m1, m2, m3, m4, hMm⟩, hkk⟩ := op_read l dC dI cI cB cQ cJ a bm htl hI (xs (2 + 4 * t + 1)) aJ g
          refine lv_aload_n hx hb dLW_186 rfl (lv_at hl 3 rfl) ?_
          refine lv_aload_n hx hb dLW_187 rfl (lv_at hl 4 rfl) ?_
          refine lv_iload hx hb dLW_188 (lv_at hl 0 rfl) ?_
          refine lv_iconst (v := nI 1) hx hb dLW_190 (by decide) ?_
          refine x_add hx hb dLW_191 ?_
          refine x_sld (j := 2 + 4 * t + 1) hx hb hX hbl hbA hS (by omega) hL dLW_192 ?_
          refine lv_aload_n hx hb dLW_193 rfl (lv_at hl 1 rfl) ?_
          refine lc_r (mc := 1) (ms := 6) (w2 := WMs cI cB bm P n M ++ []) (av := [.ref a.aR, .int (xs (2 + 4 * t + 1)), .ref aJ]) (rst := []) ⟨hx, hb, hml, hown, hts⟩ hMx hE hK hP hD hS hA rfl hl.1 rfl (Nat.le_of_ble_eq_true rfl) dLW_194 ⟨by omega, by omega⟩ (fun r u H locs hu hP hD hS => ?_)
          have hu : r = kk := hu
          subst hu
          refine lv_istore hx hb dLW_197 hl (by decide) rfl (fun ls hl => ?_)
          refine lv_aload_n hx hb dLW_199 rfl (lv_at hl 3 rfl) ?_
          refine lv_aload_n hx hb dLW_200 rfl (lv_at hl 5 rfl) ?_
          refine lv_iload hx hb dLW_201 (lv_at hl 1 rfl) ?_
          refine lv_iconst (v := nI 1) hx hb dLW_203 (by decide) ?_
          refine x_add hx hb dLW_204 ?_
          refine x_sld (j := 2 + 4 * t + 1) hx hb hX hbl hbA hS (by omega) hL dLW_205 ?_
          refine lc_g (w1 := (aJ, .inl (cJ, 1, .inr (.inl g'))) :: RWs cI cB cQ a P n S') (w2 := []) (nn := 1) (rb := bm.aO) (av := [.int (xs (2 + 4 * t + 1))]) (ci := 4) (qc := (RX4, TX4, 14)) (rst := []) ⟨hx, hb, hml, hown, hts⟩ hMm m1 m2 m3 m4 (gdV t_mL_41 t_inst_X4_read t_sel_X4_read t_ini_X4 t_code_X4_read) (by decide +kernel) hK hP hD hS hA rfl rfl rfl hl.1 rfl (Nat.le_of_ble_eq_true rfl) dLW_206 ⟨by omega, by omega⟩ (fun r u H locs hu hP hD hS => ?_)
          obtain ⟨hu1, hI2, hth⟩ := hu
          have hu1 : r = rr := hu1
          subst hu1
          refine lv_istore hx hb dLW_209 hl (by decide) rfl (fun ls hl => ?_)
          refine lv_aload_n hx hb dLW_211 rfl (lv_at hl 4 rfl) ?_
          obtain ⟨hp5, hn1, hn, -⟩ := id hI2
          refine lc_g (w1 := (aJ, .inl (cJ, 1, .inr (.inl g'))) :: RWs cI cB cQ a P n S') (w2 := []) (nn := 0) (rb := bm.aO) (av := []) (ci := 4) (qc := (RX4, TX4, 14)) (rst := []) ⟨hx, hb, hml, hown, hts⟩ (c_thrown l dC dI cI cB cQ cJ bm.aO bm.bW bm.bL bm.bF bm.bK bm.bB bm.bS bm.bN bm.bM u.th P n u.pw u.lf u.mz u.wd u.lo u.fr u.mk u.bt u.su u.kv u.mi hp5 hn) rfl rfl (by decide) (by decide) (gdV t_mL_42 t_inst_X4_thrown t_sel_X4_thrown t_ini_X4 t_code_X4_thrown) (by decide +kernel) hK hP hD hS hA rfl rfl rfl hl.1 rfl (Nat.le_of_ble_eq_true rfl) dLW_212 ⟨by omega, by omega⟩ (fun r u9 H locs hu hP hD hS => ?_)
          have hu : r = nI u.th := hu
          rw [hu, hth]
          refine lv_iload hx hb dLW_215 (lv_at hl 1 rfl) ?_
          refine lv_icmp_eq (tgt := 222) hx hb dLW_217 (by decide) (fun _ => ?_) (fun z9 => absurd rfl z9)
          refine lv_iload hx hb dLW_222 (lv_at hl 1 rfl) ?_
          have fin : W p l e room_1 s m #[Value.ref b] below meth c H locs (29 + t + 1) (1964 + 6 * t + 6) (lw_Z below #[Value.ref b] s) (F0 m 239 ls []) := by
            refine lv_goto (tgt := 492) hx hb dLW_239 (by decide) ?_
            exact W.widen (by omega) (by omega) (next S' u g' ls H locs hI2 (lv_sub hl [2, 3, 4, 5, 6] rfl) hP hD hS)
          refine lv_if_ne (tgt := 239) hx hb dLW_224 (by decide) (fun _ => fin) (fun h224 => ?_)
          have hk0 := hkk h224
          refine lv_aload_n hx hb dLW_227 rfl (lv_at hl 3 rfl) ?_
          refine lv_iconst (v := nI 0) hx hb dLW_228 (by decide) ?_
          refine va_lald hx hb hK hP 0 3 rfl rfl (nI_in (by omega) (by omega)) dLW_229 ?_
          refine lv_iload hx hb dLW_230 (lv_at hl 0 rfl) ?_
          refine lv_i2l (v := g' 0) hx hb dLW_232 hk0.symm ?_
          refine W.lcmp hx hb dLW_233 ?_
          refine lv_if_eq (tgt := 239) hx hb dLW_234 (by decide) (fun _ => fin) (fun z9 => absurd lw_cmp z9)
        · refine lv_tableIn (off := 183) (tgt := 242) hx hb dLW_59 (by decide) (by decide) (by decide) (by decide) ?_
          obtain ⟨S', rr, ⟨rm1, c1, c2, c3, c4, hMc⟩, ⟨rm2, m1, m2, m3, m4, hMm⟩⟩ := op_lose l dC dI cI cB cQ cJ a bm hI (xs (2 + 4 * t + 1))
          refine lv_aload_n hx hb dLW_242 rfl (lv_at hl 3 rfl) ?_
          refine lv_aload_n hx hb dLW_243 rfl (lv_at hl 4 rfl) ?_
          refine lv_iload hx hb dLW_244 (lv_at hl 0 rfl) ?_
          refine lv_iconst (v := nI 1) hx hb dLW_246 (by decide) ?_
          refine x_add hx hb dLW_247 ?_
          refine x_sld (j := 2 + 4 * t + 1) hx hb hX hbl hbA hS (by omega) hL dLW_248 ?_
          refine lc_g (w1 := [(aJ, .inl (cJ, 1, .inr (.inl g)))]) (w2 := WMs cI cB bm P n M ++ []) (nn := 1) (rb := a.aR) (av := [.int (xs (2 + 4 * t + 1))]) (ci := 3) (qc := (RX3, TX3, 6)) (rst := []) ⟨hx, hb, hml, hown, hts⟩ hMc c1 c2 c3 c4 (gdV t_mL_46 t_inst_X3_lose t_sel_X3_lose t_ini_X3 t_code_X3_lose) (by decide +kernel) hK hP hD hS hA rfl rfl rfl hl.1 rfl (Nat.le_of_ble_eq_true rfl) dLW_249 ⟨by omega, by omega⟩ (fun r u H locs hu hP hD hS => ?_)
          have hu : r = rr := hu
          subst hu
          refine lv_aload_n hx hb dLW_252 rfl (lv_at hl 2 rfl) ?_
          refine lv_aload_n hx hb dLW_253 rfl (lv_at hl 4 rfl) ?_
          refine lv_iload hx hb dLW_254 (lv_at hl 0 rfl) ?_
          refine lv_iconst (v := nI 1) hx hb dLW_256 (by decide) ?_
          refine x_add hx hb dLW_257 ?_
          refine x_sld (j := 2 + 4 * t + 1) hx hb hX hbl hbA hS (by omega) hL dLW_258 ?_
          refine lc_g (w1 := (aJ, .inl (cJ, 1, .inr (.inl g))) :: RWs cI cB cQ a P n S') (w2 := []) (nn := 1) (rb := bm.aO) (av := [.int (xs (2 + 4 * t + 1))]) (ci := 4) (qc := (RX4, TX4, 14)) (rst := [.int r]) ⟨hx, hb, hml, hown, hts⟩ hMm m1 m2 m3 m4 (gdV t_mL_50 t_inst_X4_lose t_sel_X4_lose t_ini_X4 t_code_X4_lose) (by decide +kernel) hK hP hD hS hA rfl rfl rfl hl.1 rfl (Nat.le_of_ble_eq_true rfl) dLW_259 ⟨by omega, by omega⟩ (fun r2 u H locs hu hP hD hS => ?_)
          obtain ⟨hu1, hI2⟩ := hu
          have hu1 : r2 = r := hu1
          subst hu1
          refine lv_icmp_eq (tgt := 492) hx hb dLW_262 (by decide) (fun _ => ?_) (fun z9 => absurd rfl z9)
          exact W.widen (by omega) (by omega) (next S' u g ls H locs hI2 hl hP hD hS)
        · refine lv_tableIn (off := 208) (tgt := 267) hx hb dLW_59 (by decide) (by decide) (by decide) (by decide) ?_
          obtain ⟨S', rr, ⟨rm1, c1, c2, c3, c4, hMc⟩, ⟨rm2, m1, m2, m3, m4, hMm⟩⟩ := op_replace l dC dI cI cB cQ cJ a bm hI (xs (2 + 4 * t + 1))
          refine lv_aload_n hx hb dLW_267 rfl (lv_at hl 3 rfl) ?_
          refine lv_aload_n hx hb dLW_268 rfl (lv_at hl 4 rfl) ?_
          refine lv_iload hx hb dLW_269 (lv_at hl 0 rfl) ?_
          refine lv_iconst (v := nI 1) hx hb dLW_271 (by decide) ?_
          refine x_add hx hb dLW_272 ?_
          refine x_sld (j := 2 + 4 * t + 1) hx hb hX hbl hbA hS (by omega) hL dLW_273 ?_
          refine lc_g (w1 := [(aJ, .inl (cJ, 1, .inr (.inl g)))]) (w2 := WMs cI cB bm P n M ++ []) (nn := 1) (rb := a.aR) (av := [.int (xs (2 + 4 * t + 1))]) (ci := 3) (qc := (RX3, TX3, 6)) (rst := []) ⟨hx, hb, hml, hown, hts⟩ hMc c1 c2 c3 c4 (gdV t_mL_51 t_inst_X3_replace t_sel_X3_replace t_ini_X3 t_code_X3_replace) (by decide +kernel) hK hP hD hS hA rfl rfl rfl hl.1 rfl (Nat.le_of_ble_eq_true rfl) dLW_274 ⟨by omega, by omega⟩ (fun r u H locs hu hP hD hS => ?_)
          have hu : r = rr := hu
          subst hu
          refine lv_aload_n hx hb dLW_277 rfl (lv_at hl 2 rfl) ?_
          refine lv_aload_n hx hb dLW_278 rfl (lv_at hl 4 rfl) ?_
          refine lv_iload hx hb dLW_279 (lv_at hl 0 rfl) ?_
          refine lv_iconst (v := nI 1) hx hb dLW_281 (by decide) ?_
          refine x_add hx hb dLW_282 ?_
          refine x_sld (j := 2 + 4 * t + 1) hx hb hX hbl hbA hS (by omega) hL dLW_283 ?_
          refine lc_g (w1 := (aJ, .inl (cJ, 1, .inr (.inl g))) :: RWs cI cB cQ a P n S') (w2 := []) (nn := 1) (rb := bm.aO) (av := [.int (xs (2 + 4 * t + 1))]) (ci := 4) (qc := (RX4, TX4, 14)) (rst := [.int r]) ⟨hx, hb, hml, hown, hts⟩ hMm m1 m2 m3 m4 (gdV t_mL_54 t_inst_X4_replace t_sel_X4_replace t_ini_X4 t_code_X4_replace) (by decide +kernel) hK hP hD hS hA rfl rfl rfl hl.1 rfl (Nat.le_of_ble_eq_true rfl) dLW_284 ⟨by omega, by omega⟩ (fun r2 u H locs hu hP hD hS => ?_)
          obtain ⟨hu1, hI2⟩ := hu
          have hu1 : r2 = r := hu1
          subst hu1
          refine lv_icmp_eq (tgt := 492) hx hb dLW_287 (by decide) (fun _ => ?_) (fun z9 => absurd rfl z9)
          exact W.widen (by omega) (by omega) (next S' u g ls H locs hI2 hl hP hD hS)
        · refine lv_tableIn (off := 233) (tgt := 292) hx hb dLW_59 (by decide) (by decide) (by decide) (by decide) ?_
          obtain ⟨S', rr, ⟨rm1, c1, c2, c3, c4, hMc⟩, ⟨rm2, m1, m2, m3, m4, hMm⟩⟩ := op_rebuild l dC dI cI cB cQ cJ a bm hI (xs (2 + 4 * t + 1))
          refine lv_aload_n hx hb dLW_292 rfl (lv_at hl 3 rfl) ?_
          refine lv_aload_n hx hb dLW_293 rfl (lv_at hl 4 rfl) ?_
          refine lv_iload hx hb dLW_294 (lv_at hl 0 rfl) ?_
          refine lv_iconst (v := nI 1) hx hb dLW_296 (by decide) ?_
          refine x_add hx hb dLW_297 ?_
          refine x_sld (j := 2 + 4 * t + 1) hx hb hX hbl hbA hS (by omega) hL dLW_298 ?_
          refine lc_g (w1 := [(aJ, .inl (cJ, 1, .inr (.inl g)))]) (w2 := WMs cI cB bm P n M ++ []) (nn := 1) (rb := a.aR) (av := [.int (xs (2 + 4 * t + 1))]) (ci := 3) (qc := (RX3, TX3, 6)) (rst := []) ⟨hx, hb, hml, hown, hts⟩ hMc c1 c2 c3 c4 (gdV t_mL_55 t_inst_X3_rebuild t_sel_X3_rebuild t_ini_X3 t_code_X3_rebuild) (by decide +kernel) hK hP hD hS hA rfl rfl rfl hl.1 rfl (Nat.le_of_ble_eq_true rfl) dLW_299 ⟨by omega, by omega⟩ (fun r u H locs hu hP hD hS => ?_)
          have hu : r = rr := hu
          subst hu
          refine lv_aload_n hx hb dLW_302 rfl (lv_at hl 2 rfl) ?_
          refine lv_aload_n hx hb dLW_303 rfl (lv_at hl 4 rfl) ?_
          refine lv_iload hx hb dLW_304 (lv_at hl 0 rfl) ?_
          refine lv_iconst (v := nI 1) hx hb dLW_306 (by decide) ?_
          refine x_add hx hb dLW_307 ?_
          refine x_sld (j := 2 + 4 * t + 1) hx hb hX hbl hbA hS (by omega) hL dLW_308 ?_
          refine lc_g (w1 := (aJ, .inl (cJ, 1, .inr (.inl g))) :: RWs cI cB cQ a P n S') (w2 := []) (nn := 1) (rb := bm.aO) (av := [.int (xs (2 + 4 * t + 1))]) (ci := 4) (qc := (RX4, TX4, 14)) (rst := [.int r]) ⟨hx, hb, hml, hown, hts⟩ hMm m1 m2 m3 m4 (gdV t_mL_58 t_inst_X4_rebuild t_sel_X4_rebuild t_ini_X4 t_code_X4_rebuild) (by decide +kernel) hK hP hD hS hA rfl rfl rfl hl.1 rfl (Nat.le_of_ble_eq_true rfl) dLW_309 ⟨by omega, by omega⟩ (fun r2 u H locs hu hP hD hS => ?_)
          obtain ⟨hu1, hI2⟩ := hu
          have hu1 : r2 = r := hu1
          subst hu1
          refine lv_icmp_eq (tgt := 492) hx hb dLW_312 (by decide) (fun _ => ?_) (fun z9 => absurd rfl z9)
          exact W.widen (by omega) (by omega) (next S' u g ls H locs hI2 hl hP hD hS)
        · refine lv_tableIn (off := 258) (tgt := 317) hx hb dLW_59 (by decide) (by decide) (by decide) (by decide) ?_
          obtain ⟨S', rr, ⟨rm1, c1, c2, c3, c4, hMc⟩, ⟨rm2, m1, m2, m3, m4, hMm⟩⟩ := op_cut l dC dI cI cB cQ cJ a bm hI (xs (2 + 4 * t + 1))
          refine lv_aload_n hx hb dLW_317 rfl (lv_at hl 3 rfl) ?_
          refine lv_aload_n hx hb dLW_318 rfl (lv_at hl 4 rfl) ?_
          refine lv_iload hx hb dLW_319 (lv_at hl 0 rfl) ?_
          refine lv_iconst (v := nI 1) hx hb dLW_321 (by decide) ?_
          refine x_add hx hb dLW_322 ?_
          refine x_sld (j := 2 + 4 * t + 1) hx hb hX hbl hbA hS (by omega) hL dLW_323 ?_
          refine lc_g (w1 := [(aJ, .inl (cJ, 1, .inr (.inl g)))]) (w2 := WMs cI cB bm P n M ++ []) (nn := 1) (rb := a.aR) (av := [.int (xs (2 + 4 * t + 1))]) (ci := 3) (qc := (RX3, TX3, 6)) (rst := []) ⟨hx, hb, hml, hown, hts⟩ hMc c1 c2 c3 c4 (gdV t_mL_59 t_inst_X3_cut t_sel_X3_cut t_ini_X3 t_code_X3_cut) (by decide +kernel) hK hP hD hS hA rfl rfl rfl hl.1 rfl (Nat.le_of_ble_eq_true rfl) dLW_324 ⟨by omega, by omega⟩ (fun r u H locs hu hP hD hS => ?_)
          have hu : r = rr := hu
          subst hu
          refine lv_aload_n hx hb dLW_327 rfl (lv_at hl 2 rfl) ?_
          refine lv_aload_n hx hb dLW_328 rfl (lv_at hl 4 rfl) ?_
          refine lv_iload hx hb dLW_329 (lv_at hl 0 rfl) ?_
          refine lv_iconst (v := nI 1) hx hb dLW_331 (by decide) ?_
          refine x_add hx hb dLW_332 ?_
          refine x_sld (j := 2 + 4 * t + 1) hx hb hX hbl hbA hS (by omega) hL dLW_333 ?_
          refine lc_g (w1 := (aJ, .inl (cJ, 1, .inr (.inl g))) :: RWs cI cB cQ a P n S') (w2 := []) (nn := 1) (rb := bm.aO) (av := [.int (xs (2 + 4 * t + 1))]) (ci := 4) (qc := (RX4, TX4, 14)) (rst := [.int r]) ⟨hx, hb, hml, hown, hts⟩ hMm m1 m2 m3 m4 (gdV t_mL_62 t_inst_X4_cut t_sel_X4_cut t_ini_X4 t_code_X4_cut) (by decide +kernel) hK hP hD hS hA rfl rfl rfl hl.1 rfl (Nat.le_of_ble_eq_true rfl) dLW_334 ⟨by omega, by omega⟩ (fun r2 u H locs hu hP hD hS => ?_)
          obtain ⟨hu1, hI2⟩ := hu
          have hu1 : r2 = r := hu1
          subst hu1
          refine lv_icmp_eq (tgt := 492) hx hb dLW_337 (by decide) (fun _ => ?_) (fun z9 => absurd rfl z9)
          exact W.widen (by omega) (by omega) (next S' u g ls H locs hI2 hl hP hD hS)
        · refine lv_tableIn (off := 283) (tgt := 342) hx hb dLW_59 (by decide) (by decide) (by decide) (by decide) ?_
          obtain ⟨S', rr, ⟨rm1, c1, c2, c3, c4, hMc⟩, ⟨rm2, m1, m2, m3, m4, hMm⟩⟩ := op_start l dC dI cI cB cQ cJ a bm hI 
          refine lv_aload_n hx hb dLW_342 rfl (lv_at hl 3 rfl) ?_
          refine lc_g (w1 := [(aJ, .inl (cJ, 1, .inr (.inl g)))]) (w2 := WMs cI cB bm P n M ++ []) (nn := 0) (rb := a.aR) (av := []) (ci := 3) (qc := (RX3, TX3, 6)) (rst := []) ⟨hx, hb, hml, hown, hts⟩ hMc c1 c2 c3 c4 (gdV t_mL_63 t_inst_X3_start t_sel_X3_start t_ini_X3 t_code_X3_start) (by decide +kernel) hK hP hD hS hA rfl rfl rfl hl.1 rfl (Nat.le_of_ble_eq_true rfl) dLW_343 ⟨by omega, by omega⟩ (fun r u H locs hu hP hD hS => ?_)
          have hu : r = rr := hu
          subst hu
          refine lv_aload_n hx hb dLW_346 rfl (lv_at hl 2 rfl) ?_
          refine lc_g (w1 := (aJ, .inl (cJ, 1, .inr (.inl g))) :: RWs cI cB cQ a P n S') (w2 := []) (nn := 0) (rb := bm.aO) (av := []) (ci := 4) (qc := (RX4, TX4, 14)) (rst := [.int r]) ⟨hx, hb, hml, hown, hts⟩ hMm m1 m2 m3 m4 (gdV t_mL_66 t_inst_X4_start t_sel_X4_start t_ini_X4 t_code_X4_start) (by decide +kernel) hK hP hD hS hA rfl rfl rfl hl.1 rfl (Nat.le_of_ble_eq_true rfl) dLW_347 ⟨by omega, by omega⟩ (fun r2 u H locs hu hP hD hS => ?_)
          obtain ⟨hu1, hI2⟩ := hu
          have hu1 : r2 = r := hu1
          subst hu1
          refine lv_icmp_eq (tgt := 492) hx hb dLW_350 (by decide) (fun _ => ?_) (fun z9 => absurd rfl z9)
          exact W.widen (by omega) (by omega) (next S' u g ls H locs hI2 hl hP hD hS)
        · refine lv_tableIn (off := 296) (tgt := 355) hx hb dLW_59 (by decide) (by decide) (by decide) (by decide) ?_
          obtain ⟨S', rr, ⟨rm1, c1, c2, c3, c4, hMc⟩, ⟨rm2, m1, m2, m3, m4, hMm⟩⟩ := op_on l dC dI cI cB cQ cJ a bm hI 
          refine lv_aload_n hx hb dLW_355 rfl (lv_at hl 3 rfl) ?_
          refine lc_g (w1 := [(aJ, .inl (cJ, 1, .inr (.inl g)))]) (w2 := WMs cI cB bm P n M ++ []) (nn := 0) (rb := a.aR) (av := []) (ci := 3) (qc := (RX3, TX3, 6)) (rst := []) ⟨hx, hb, hml, hown, hts⟩ hMc c1 c2 c3 c4 (gdV t_mL_67 t_inst_X3_on t_sel_X3_on t_ini_X3 t_code_X3_on) (by decide +kernel) hK hP hD hS hA rfl rfl rfl hl.1 rfl (Nat.le_of_ble_eq_true rfl) dLW_356 ⟨by omega, by omega⟩ (fun r u H locs hu hP hD hS => ?_)
          have hu : r = rr := hu
          subst hu
          refine lv_aload_n hx hb dLW_359 rfl (lv_at hl 2 rfl) ?_
          refine lc_g (w1 := (aJ, .inl (cJ, 1, .inr (.inl g))) :: RWs cI cB cQ a P n S') (w2 := []) (nn := 0) (rb := bm.aO) (av := []) (ci := 4) (qc := (RX4, TX4, 14)) (rst := [.int r]) ⟨hx, hb, hml, hown, hts⟩ hMm m1 m2 m3 m4 (gdV t_mL_71 t_inst_X4_on t_sel_X4_on t_ini_X4 t_code_X4_on) (by decide +kernel) hK hP hD hS hA rfl rfl rfl hl.1 rfl (Nat.le_of_ble_eq_true rfl) dLW_360 ⟨by omega, by omega⟩ (fun r2 u H locs hu hP hD hS => ?_)
          obtain ⟨hu1, hI2⟩ := hu
          have hu1 : r2 = r := hu1
          subst hu1
          refine lv_icmp_eq (tgt := 492) hx hb dLW_363 (by decide) (fun _ => ?_) (fun z9 => absurd rfl z9)
          exact W.widen (by omega) (by omega) (next S' u g ls H locs hI2 hl hP hD hS)
        · refine lv_tableIn (off := 309) (tgt := 368) hx hb dLW_59 (by decide) (by decide) (by decide) (by decide) ?_
          obtain ⟨S', rr, ⟨rm1, c1, c2, c3, c4, hMc⟩, ⟨rm2, m1, m2, m3, m4, hMm⟩⟩ := op_drive l dC dI cI cB cQ cJ a bm hI (xs (2 + 4 * t + 1))
          refine lv_aload_n hx hb dLW_368 rfl (lv_at hl 3 rfl) ?_
          refine lv_aload_n hx hb dLW_369 rfl (lv_at hl 4 rfl) ?_
          refine lv_iload hx hb dLW_370 (lv_at hl 0 rfl) ?_
          refine lv_iconst (v := nI 1) hx hb dLW_372 (by decide) ?_
          refine x_add hx hb dLW_373 ?_
          refine x_sld (j := 2 + 4 * t + 1) hx hb hX hbl hbA hS (by omega) hL dLW_374 ?_
          refine lc_g (w1 := [(aJ, .inl (cJ, 1, .inr (.inl g)))]) (w2 := WMs cI cB bm P n M ++ []) (nn := 1) (rb := a.aR) (av := [.int (xs (2 + 4 * t + 1))]) (ci := 3) (qc := (RX3, TX3, 6)) (rst := []) ⟨hx, hb, hml, hown, hts⟩ hMc c1 c2 c3 c4 (gdV t_mL_72 t_inst_X3_drive t_sel_X3_drive t_ini_X3 t_code_X3_drive) (by decide +kernel) hK hP hD hS hA rfl rfl rfl hl.1 rfl (Nat.le_of_ble_eq_true rfl) dLW_375 ⟨by omega, by omega⟩ (fun r u H locs hu hP hD hS => ?_)
          have hu : r = rr := hu
          subst hu
          refine lv_aload_n hx hb dLW_378 rfl (lv_at hl 2 rfl) ?_
          refine lv_aload_n hx hb dLW_379 rfl (lv_at hl 4 rfl) ?_
          refine lv_iload hx hb dLW_380 (lv_at hl 0 rfl) ?_
          refine lv_iconst (v := nI 1) hx hb dLW_382 (by decide) ?_
          refine x_add hx hb dLW_383 ?_
          refine x_sld (j := 2 + 4 * t + 1) hx hb hX hbl hbA hS (by omega) hL dLW_384 ?_
          refine lc_g (w1 := (aJ, .inl (cJ, 1, .inr (.inl g))) :: RWs cI cB cQ a P n S') (w2 := []) (nn := 1) (rb := bm.aO) (av := [.int (xs (2 + 4 * t + 1))]) (ci := 4) (qc := (RX4, TX4, 14)) (rst := [.int r]) ⟨hx, hb, hml, hown, hts⟩ hMm m1 m2 m3 m4 (gdV t_mL_75 t_inst_X4_drive t_sel_X4_drive t_ini_X4 t_code_X4_drive) (by decide +kernel) hK hP hD hS hA rfl rfl rfl hl.1 rfl (Nat.le_of_ble_eq_true rfl) dLW_385 ⟨by omega, by omega⟩ (fun r2 u H locs hu hP hD hS => ?_)
          obtain ⟨hu1, hI2⟩ := hu
          have hu1 : r2 = r := hu1
          subst hu1
          refine lv_icmp_eq (tgt := 492) hx hb dLW_388 (by decide) (fun _ => ?_) (fun z9 => absurd rfl z9)
          exact W.widen (by omega) (by omega) (next S' u g ls H locs hI2 hl hP hD hS)
        · refine lv_tableIn (off := 334) (tgt := 393) hx hb dLW_59 (by decide) (by decide) (by decide) (by decide) ?_
          obtain ⟨S', rr, ⟨rm1, c1, c2, c3, c4, hMc⟩, ⟨rm2, m1, m2, m3, m4, hMm⟩⟩ := op_stripe l dC dI cI cB cQ cJ a bm hI (xs (2 + 4 * t + 1))
          refine lv_aload_n hx hb dLW_393 rfl (lv_at hl 3 rfl) ?_
          refine lv_aload_n hx hb dLW_394 rfl (lv_at hl 4 rfl) ?_
          refine lv_iload hx hb dLW_395 (lv_at hl 0 rfl) ?_
          refine lv_iconst (v := nI 1) hx hb dLW_397 (by decide) ?_
          refine x_add hx hb dLW_398 ?_
          refine x_sld (j := 2 + 4 * t + 1) hx hb hX hbl hbA hS (by omega) hL dLW_399 ?_
          refine lc_g (w1 := [(aJ, .inl (cJ, 1, .inr (.inl g)))]) (w2 := WMs cI cB bm P n M ++ []) (nn := 1) (rb := a.aR) (av := [.int (xs (2 + 4 * t + 1))]) (ci := 3) (qc := (RX3, TX3, 6)) (rst := []) ⟨hx, hb, hml, hown, hts⟩ hMc c1 c2 c3 c4 (gdV t_mL_76 t_inst_X3_stripe t_sel_X3_stripe t_ini_X3 t_code_X3_stripe) (by decide +kernel) hK hP hD hS hA rfl rfl rfl hl.1 rfl (Nat.le_of_ble_eq_true rfl) dLW_400 ⟨by omega, by omega⟩ (fun r u H locs hu hP hD hS => ?_)
          have hu : r = rr := hu
          subst hu
          refine lv_aload_n hx hb dLW_403 rfl (lv_at hl 2 rfl) ?_
          refine lv_aload_n hx hb dLW_404 rfl (lv_at hl 4 rfl) ?_
          refine lv_iload hx hb dLW_405 (lv_at hl 0 rfl) ?_
          refine lv_iconst (v := nI 1) hx hb dLW_407 (by decide) ?_
          refine x_add hx hb dLW_408 ?_
          refine x_sld (j := 2 + 4 * t + 1) hx hb hX hbl hbA hS (by omega) hL dLW_409 ?_
          refine lc_g (w1 := (aJ, .inl (cJ, 1, .inr (.inl g))) :: RWs cI cB cQ a P n S') (w2 := []) (nn := 1) (rb := bm.aO) (av := [.int (xs (2 + 4 * t + 1))]) (ci := 4) (qc := (RX4, TX4, 14)) (rst := [.int r]) ⟨hx, hb, hml, hown, hts⟩ hMm m1 m2 m3 m4 (gdV t_mL_79 t_inst_X4_stripe t_sel_X4_stripe t_ini_X4 t_code_X4_stripe) (by decide +kernel) hK hP hD hS hA rfl rfl rfl hl.1 rfl (Nat.le_of_ble_eq_true rfl) dLW_410 ⟨by omega, by omega⟩ (fun r2 u H locs hu hP hD hS => ?_)
          obtain ⟨hu1, hI2⟩ := hu
          have hu1 : r2 = r := hu1
          subst hu1
          refine lv_icmp_eq (tgt := 492) hx hb dLW_413 (by decide) (fun _ => ?_) (fun z9 => absurd rfl z9)
          exact W.widen (by omega) (by omega) (next S' u g ls H locs hI2 hl hP hD hS)
        · refine lv_tableIn (off := 359) (tgt := 418) hx hb dLW_59 (by decide) (by decide) (by decide) (by decide) ?_
          obtain ⟨S', rr, ⟨rm1, c1, c2, c3, c4, hMc⟩, ⟨rm2, m1, m2, m3, m4, hMm⟩⟩ := op_word l dC dI cI cB cQ cJ a bm hI (xs (2 + 4 * t + 1)) (xs (2 + 4 * t + 2)) (xs (2 + 4 * t + 3))
          refine lv_aload_n hx hb dLW_418 rfl (lv_at hl 3 rfl) ?_
          refine lv_aload_n hx hb dLW_419 rfl (lv_at hl 4 rfl) ?_
          refine lv_iload hx hb dLW_420 (lv_at hl 0 rfl) ?_
          refine lv_iconst (v := nI 1) hx hb dLW_422 (by decide) ?_
          refine x_add hx hb dLW_423 ?_
          refine x_sld (j := 2 + 4 * t + 1) hx hb hX hbl hbA hS (by omega) hL dLW_424 ?_
          refine lv_aload_n hx hb dLW_425 rfl (lv_at hl 4 rfl) ?_
          refine lv_iload hx hb dLW_426 (lv_at hl 0 rfl) ?_
          refine lv_iconst (v := nI 2) hx hb dLW_428 (by decide) ?_
          refine x_add hx hb dLW_429 ?_
          refine x_sld (j := 2 + 4 * t + 2) hx hb hX hbl hbA hS (by omega) hL dLW_430 ?_
          refine lv_aload_n hx hb dLW_431 rfl (lv_at hl 4 rfl) ?_
          refine lv_iload hx hb dLW_432 (lv_at hl 0 rfl) ?_
          refine lv_iconst (v := nI 3) hx hb dLW_434 (by decide) ?_
          refine x_add hx hb dLW_435 ?_
          refine x_sld (j := 2 + 4 * t + 3) hx hb hX hbl hbA hS (by omega) hL dLW_436 ?_
          refine lc_g (w1 := [(aJ, .inl (cJ, 1, .inr (.inl g)))]) (w2 := WMs cI cB bm P n M ++ []) (nn := 3) (rb := a.aR) (av := [.int (xs (2 + 4 * t + 1)), .int (xs (2 + 4 * t + 2)), .int (xs (2 + 4 * t + 3))]) (ci := 3) (qc := (RX3, TX3, 6)) (rst := []) ⟨hx, hb, hml, hown, hts⟩ hMc c1 c2 c3 c4 (gdV t_mL_80 t_inst_X3_word t_sel_X3_word t_ini_X3 t_code_X3_word) (by decide +kernel) hK hP hD hS hA rfl rfl rfl hl.1 rfl (Nat.le_of_ble_eq_true rfl) dLW_437 ⟨by omega, by omega⟩ (fun r u H locs hu hP hD hS => ?_)
          have hu : r = rr := hu
          subst hu
          refine lv_aload_n hx hb dLW_440 rfl (lv_at hl 2 rfl) ?_
          refine lv_aload_n hx hb dLW_441 rfl (lv_at hl 4 rfl) ?_
          refine lv_iload hx hb dLW_442 (lv_at hl 0 rfl) ?_
          refine lv_iconst (v := nI 1) hx hb dLW_444 (by decide) ?_
          refine x_add hx hb dLW_445 ?_
          refine x_sld (j := 2 + 4 * t + 1) hx hb hX hbl hbA hS (by omega) hL dLW_446 ?_
          refine lv_aload_n hx hb dLW_447 rfl (lv_at hl 4 rfl) ?_
          refine lv_iload hx hb dLW_448 (lv_at hl 0 rfl) ?_
          refine lv_iconst (v := nI 2) hx hb dLW_450 (by decide) ?_
          refine x_add hx hb dLW_451 ?_
          refine x_sld (j := 2 + 4 * t + 2) hx hb hX hbl hbA hS (by omega) hL dLW_452 ?_
          refine lv_aload_n hx hb dLW_453 rfl (lv_at hl 4 rfl) ?_
          refine lv_iload hx hb dLW_454 (lv_at hl 0 rfl) ?_
          refine lv_iconst (v := nI 3) hx hb dLW_456 (by decide) ?_
          refine x_add hx hb dLW_457 ?_
          refine x_sld (j := 2 + 4 * t + 3) hx hb hX hbl hbA hS (by omega) hL dLW_458 ?_
          refine lc_g (w1 := (aJ, .inl (cJ, 1, .inr (.inl g))) :: RWs cI cB cQ a P n S') (w2 := []) (nn := 3) (rb := bm.aO) (av := [.int (xs (2 + 4 * t + 1)), .int (xs (2 + 4 * t + 2)), .int (xs (2 + 4 * t + 3))]) (ci := 4) (qc := (RX4, TX4, 14)) (rst := [.int r]) ⟨hx, hb, hml, hown, hts⟩ hMm m1 m2 m3 m4 (gdV t_mL_84 t_inst_X4_word t_sel_X4_word t_ini_X4 t_code_X4_word) (by decide +kernel) hK hP hD hS hA rfl rfl rfl hl.1 rfl (Nat.le_of_ble_eq_true rfl) dLW_459 ⟨by omega, by omega⟩ (fun r2 u H locs hu hP hD hS => ?_)
          obtain ⟨hu1, hI2⟩ := hu
          have hu1 : r2 = r := hu1
          subst hu1
          refine lv_icmp_eq (tgt := 492) hx hb dLW_462 (by decide) (fun _ => ?_) (fun z9 => absurd rfl z9)
          exact W.widen (by omega) (by omega) (next S' u g ls H locs hI2 hl hP hD hS)
        · refine lv_tableIn (off := 408) (tgt := 467) hx hb dLW_59 (by decide) (by decide) (by decide) (by decide) ?_
          obtain ⟨S', rr, ⟨rm1, c1, c2, c3, c4, hMc⟩, ⟨rm2, m1, m2, m3, m4, hMm⟩⟩ := op_agree l dC dI cI cB cQ cJ a bm hI (xs (2 + 4 * t + 1))
          refine lv_aload_n hx hb dLW_467 rfl (lv_at hl 3 rfl) ?_
          refine lv_aload_n hx hb dLW_468 rfl (lv_at hl 4 rfl) ?_
          refine lv_iload hx hb dLW_469 (lv_at hl 0 rfl) ?_
          refine lv_iconst (v := nI 1) hx hb dLW_471 (by decide) ?_
          refine x_add hx hb dLW_472 ?_
          refine x_sld (j := 2 + 4 * t + 1) hx hb hX hbl hbA hS (by omega) hL dLW_473 ?_
          refine lc_g (w1 := [(aJ, .inl (cJ, 1, .inr (.inl g)))]) (w2 := WMs cI cB bm P n M ++ []) (nn := 1) (rb := a.aR) (av := [.int (xs (2 + 4 * t + 1))]) (ci := 3) (qc := (RX3, TX3, 6)) (rst := []) ⟨hx, hb, hml, hown, hts⟩ hMc c1 c2 c3 c4 (gdV t_mL_85 t_inst_X3_agree t_sel_X3_agree t_ini_X3 t_code_X3_agree) (by decide +kernel) hK hP hD hS hA rfl rfl rfl hl.1 rfl (Nat.le_of_ble_eq_true rfl) dLW_474 ⟨by omega, by omega⟩ (fun r u H locs hu hP hD hS => ?_)
          have hu : r = rr := hu
          subst hu
          refine lv_aload_n hx hb dLW_477 rfl (lv_at hl 2 rfl) ?_
          refine lv_aload_n hx hb dLW_478 rfl (lv_at hl 4 rfl) ?_
          refine lv_iload hx hb dLW_479 (lv_at hl 0 rfl) ?_
          refine lv_iconst (v := nI 1) hx hb dLW_481 (by decide) ?_
          refine x_add hx hb dLW_482 ?_
          refine x_sld (j := 2 + 4 * t + 1) hx hb hX hbl hbA hS (by omega) hL dLW_483 ?_
          refine lc_g (w1 := (aJ, .inl (cJ, 1, .inr (.inl g))) :: RWs cI cB cQ a P n S') (w2 := []) (nn := 1) (rb := bm.aO) (av := [.int (xs (2 + 4 * t + 1))]) (ci := 4) (qc := (RX4, TX4, 14)) (rst := [.int r]) ⟨hx, hb, hml, hown, hts⟩ hMm m1 m2 m3 m4 (gdV t_mL_88 t_inst_X4_agree t_sel_X4_agree t_ini_X4 t_code_X4_agree) (by decide +kernel) hK hP hD hS hA rfl rfl rfl hl.1 rfl (Nat.le_of_ble_eq_true rfl) dLW_484 ⟨by omega, by omega⟩ (fun r2 u H locs hu hP hD hS => ?_)
          obtain ⟨hu1, hI2⟩ := hu
          have hu1 : r2 = r := hu1
          subst hu1
          refine lv_icmp_eq (tgt := 492) hx hb dLW_487 (by decide) (fun _ => ?_) (fun z9 => absurd rfl z9)
          exact W.widen (by omega) (by omega) (next S' u g ls H locs hI2 hl hP hD hS)
