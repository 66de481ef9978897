section OPS2
variable (l : Launch) (dC : Nat → ClassId) (dI : Nat → Nat → Nat) (cI cB cQ cJ : ClassId) (a : AC) (b : AM)

set_option maxHeartbeats 1000000 in
theorem op_write {P n : Nat} {S : CS} {M : MS} (h : Inv P n S M) (x : Int32) (v : Int32) : ∃ (S' : CS) (r : Int32), OpC l dC dI cI cB cQ cJ a P n yX3_write cX3_write 8 .int [.int x, .int v] S S' r ∧ OpM l dC dI cI cB cQ cJ b P n yX4_write cX4_write 10 .int [.int x, .int v] M (Inv P n S') r := by
  obtain ⟨pw, tn, un, lo, kn, tw, w, ms, mk⟩ := S
  obtain ⟨th, pw', lf, mz, wd, lo', fr, mk', bt, su, kv, mi⟩ := M
  have hq1 : pw' = pw := h.2.2.2.1
  have hq2 : lo' = lo := h.2.2.2.2.2.1
  rw [hq1, hq2] at h
  rw [hq1, hq2]
  have h0 := h
  obtain ⟨hp5, hn1, hn, -, hlf0, -, hms0, hfr0, hmk0, hw0, hmi0, hT0, hon0⟩ := h
  have hmi : ∀ t, mi t < 13 := hmi0
  have hlf : pw = true → lf = tn := hlf0
  have hms : ∀ s, s < n → ∀ d, d < P → ms s d = rf_g lo fr s d := hms0
  have hfr : ∀ d, d < P → lo d = true → ∀ s, s < n → fr (4 * d + s) = false := hfr0
  have hmk : ∀ s, s < n → mk' s = mk s := hmk0
  have hw : ∀ s, s < n → Wq P (w s) wd s := hw0
  have hT : ∀ s, s < n → mk s = false → dr_cnt (ms s) P ≤ 2 → ∃ T, dr_Full P T ∧ Ag P (ms s) (w s) T := hT0
  have hon : pw = true → ∀ s, s < n → mk s = true → 0 < dr_cnt (ms s) P := hon0
  have hl5 := hp5.le
  by_cases hc0 : pw = false ∨ dr_in x (n * (P * (P - 2))) = false
  · have hc1 : pw = false ∨ dr_in x (n * (P - 2) * P) = false := by rw [rl_bk]; exact hc0
    exact ⟨(pw, tn, un, lo, kn, tw, w, ms, mk), _, ⟨rm_c_write0, rfl, rfl, by decide, by decide, c_write0 l dC dI cI cB cQ cJ a.aR a.aS a.aA a.aL a.aE pw tn P n a.aTs a.aWs a.aMs lo a.aEW a.aEK tw kn un w ms mk x v hp5 hn hc0⟩, ⟨rm_c_mwrite0, rfl, rfl, by decide, by decide, MG.map (c_mwrite0 l dC dI cI cB cQ cJ b.aO b.bW b.bL b.bF b.bK b.bB b.bS b.bN b.bM th P n pw lf mz wd lo fr mk' bt su kv mi x v hp5 hn hc1) (fun r u hr => ⟨(0, pw, lf, mz, wd, lo, fr, mk', bt, su, kv, mi), ⟨hr, h0.scr 0 mz bt su kv hmi⟩, rfl⟩)⟩⟩
  · have ht : pw = true := by cases hq : pw with | true => rfl | false => exact absurd (Or.inl hq) hc0
    have hc : dr_in x (n * (P * (P - 2))) = true := by cases hq : dr_in x (n * (P * (P - 2))) with | true => rfl | false => exact absurd (Or.inr hq) hc0
    subst ht
    have hpq := dr_PP2 hp5
    have hnb : n * (P * (P - 2)) ≤ 4 * 143 := Nat.mul_le_mul (by omega) hpq.2
    obtain ⟨bb, hb9, rfl⟩ := dr_in_t (by omega) hc
    have hb8 : bb < n * (P - 2) * P := by rw [rl_bk]; exact hb9
    obtain ⟨hq, hd1, hk1, hd, hk⟩ := rl_bq hp5 hb9
    generalize hsq : bb / (P * (P - 2)) = q at hq
    generalize hdq : bb % P = d at hd1 hd
    generalize hkq : bb / P % (P - 2) = k at hk1 hk
    have hgc := rl_gc hms hq
    have hg9 : ∀ d, d < P → ms q d = rf_g lo fr q d := hms q hq
    by_cases hbad : (mk q && decide (0 < dr_cnt (ms q) P)) = true ∨ 2 < dr_cnt (ms q) P
    · have hbad' : 2 < dr_cnt (rf_g lo fr q) P ∨ (mk' q = true ∧ 0 < dr_cnt (rf_g lo fr q) P) := by
        rw [← hgc, hmk q hq]
        rcases hbad with z | z
        · rw [Bool.and_eq_true] at z
          exact Or.inr ⟨z.1, of_decide_eq_true z.2⟩
        · exact Or.inl z
      exact ⟨(true, tn, un, lo, kn, tw, w, ms, mk), _, ⟨rm_c_write1, rfl, rfl, by decide, by decide, c_write1 l dC dI cI cB cQ cJ a.aR a.aS a.aA a.aL a.aE true tn P n a.aTs a.aWs a.aMs lo a.aEW a.aEK tw kn un w ms mk bb q v hp5 hn hb9 hsq hq hbad⟩, ⟨rm_c_mwrite1, rfl, rfl, by decide, by decide, MG.map (c_mwrite1 l dC dI cI cB cQ cJ b.aO b.bW b.bL b.bF b.bK b.bB b.bS b.bN b.bM th P n true lf mz wd lo fr mk' bt su kv mi bb q d k v hp5 hn hb8 hsq hq hkq hdq hd hk hbad') (fun r u hr => ⟨(0, true, lf, dr_cnt (rf_g lo fr q) P, wd, lo, fr, mk', bt, su, kv, rf_mi (rf_g lo fr q) mi P), ⟨hr, h0.scr 0 _ bt su kv (rf_mi_lt hmi P (by omega))⟩, rfl⟩)⟩⟩
    · have hok : (mk q && decide (0 < dr_cnt (ms q) P)) = false := by cases hz : (mk q && decide (0 < dr_cnt (ms q) P)) with | false => rfl | true => exact absurd (Or.inl hz) hbad
      have hok2 : dr_cnt (ms q) P ≤ 2 := by rcases Nat.lt_or_ge 2 (dr_cnt (ms q) P) with z | z; exact absurd (Or.inr z) hbad; exact z
      have hmq : mk q = false := by
        cases hz : mk q with
        | false => rfl
        | true => rw [hz, decide_eq_true (hon rfl q hq hz)] at hok; cases hok
      have hmq' : mk' q = false ∨ dr_cnt (rf_g lo fr q) P = 0 := Or.inl (by rw [hmk q hq]; exact hmq)
      have hok' : dr_cnt (rf_g lo fr q) P ≤ 2 := by rw [← hgc]; exact hok2
      obtain ⟨T, hT1, hT2⟩ := hT q hq hmq hok2
      have hcl : d * P + k < P * P := dr_pl hd (by omega)
      have hva : dr_va P (ms q) (w q) (kn, tw, un) d k = T (d * P + k) := by
        unfold dr_va
        by_cases hz : ms q d = true
        · rw [if_pos hz]
          exact dr_told hp5 hT1 hT2 hok2 kn tw _ hcl
        · rw [if_neg hz]
          exact hT2 _ hcl (by rw [dr_pl_div (by omega)]; simpa using hz)
      have hX : (dr_wr P (ms q) (w q, true, tn) d k v (dr_va P (ms q) (w q) (kn, tw, un) d k ^^^ v)).1 = true → ∃ T', dr_Full P T' ∧ Ag P (ms q) (dr_wr P (ms q) (w q, true, tn) d k v (dr_va P (ms q) (w q) (kn, tw, un) d k ^^^ v)).2.1 T' := by
        rw [hva]
        exact rl_wrT (x := (w q, true, tn)) hp5 hT1 hT2 hd hk
      cases hgd : rf_g lo fr q d with
      | false =>
        have hmd : ms q d = false := by rw [hg9 d hd]; exact hgd
        have hch : dr_va P (ms q) (w q) (kn, tw, un) d k ^^^ v = wd (169 * q + 13 * d + k) ^^^ v := by
          rw [← hw q hq d hd k (by omega)]
          unfold dr_va
          rw [if_neg (by rw [hmd]; decide)]
        have hpif : dr_put P (w q, true, tn) d k v = dr_pif P (ms q) (w q, true, tn) d k v := by unfold dr_pif; rw [if_neg (by rw [hmd]; decide)]
        obtain ⟨r1, r2⟩ := rl_put (P := P) (q := q) (x := (w q, true, tn)) (z := (wd, true, lf)) (d := d) (k := k) (v := v) (by omega) (hw q hq) rfl (hlf rfl).symm hd (by omega)
        obtain ⟨g1, g2⟩ := rl_wr (z := (wd, true, lf)) (ch := dr_va P (ms q) (w q) (kn, tw, un) d k ^^^ v) hp5 r1 r2 hg9 hpif
        have gA : Ro P q (dr_wr P (ms q) (w q, true, tn) d k v (dr_va P (ms q) (w q) (kn, tw, un) d k ^^^ v)) (rf_wr P (rf_g lo fr q) q (rf_put wd lf (169 * q + 13 * d + k) v) d k (wd (169 * q + 13 * d + k) ^^^ v)) := by
          have g3 := g1
          rw [hch] at g3
          rw [hch]
          exact g3
        have gB : Fr P q wd (rf_wr P (rf_g lo fr q) q (rf_put wd lf (169 * q + 13 * d + k) v) d k (wd (169 * q + 13 * d + k) ^^^ v)).2.1 := by
          rw [hch] at g2
          exact g2
        exact ⟨((dr_wr P (ms q) (w q, true, tn) d k v (dr_va P (ms q) (w q) (kn, tw, un) d k ^^^ v)).2.2.1, (dr_wr P (ms q) (w q, true, tn) d k v (dr_va P (ms q) (w q) (kn, tw, un) d k ^^^ v)).2.2.2, (dr_vt P (ms q) (w q) (kn, tw, un) d).2.2, lo, (dr_vt P (ms q) (w q) (kn, tw, un) d).1, (dr_vt P (ms q) (w q) (kn, tw, un) d).2.1, (va_up w q (dr_wr P (ms q) (w q, true, tn) d k v (dr_va P (ms q) (w q) (kn, tw, un) d k ^^^ v)).2.1), ms, (va_up mk q (!(dr_wr P (ms q) (w q, true, tn) d k v (dr_va P (ms q) (w q) (kn, tw, un) d k ^^^ v)).1))), _, ⟨rm_c_write2, rfl, rfl, by decide, by decide, c_write2 l dC dI cI cB cQ cJ a.aR a.aS a.aA a.aL a.aE true tn P n a.aTs a.aWs a.aMs lo a.aEW a.aEK tw kn un w ms mk bb q d k v hp5 hn hb9 hsq hq hok hok2 (hd1.trans rfl) (hk1.trans rfl) hd hk⟩, ⟨rm_c_mwrite2, rfl, rfl, by decide, by decide, MG.map (c_mwrite2 l dC dI cI cB cQ cJ b.aO b.bW b.bL b.bF b.bK b.bB b.bS b.bN b.bM th P n true lf mz wd lo fr mk' bt su kv mi bb q d k v hp5 hn hb8 hsq hq hkq hdq hd hk hok' hmq' hgd) (fun r u hr => ⟨(0, (rf_wr P (rf_g lo fr q) q (rf_put wd lf (169 * q + 13 * d + k) v) d k (wd (169 * q + 13 * d + k) ^^^ v)).2.2.1, (rf_wr P (rf_g lo fr q) q (rf_put wd lf (169 * q + 13 * d + k) v) d k (wd (169 * q + 13 * d + k) ^^^ v)).2.2.2, dr_cnt (rf_g lo fr q) P, (rf_wr P (rf_g lo fr q) q (rf_put wd lf (169 * q + 13 * d + k) v) d k (wd (169 * q + 13 * d + k) ^^^ v)).2.1, lo, fr, va_up mk' q (!(rf_wr P (rf_g lo fr q) q (rf_put wd lf (169 * q + 13 * d + k) v) d k (wd (169 * q + 13 * d + k) ^^^ v)).1), bt, su, kv, rf_mi (rf_g lo fr q) mi P), ⟨by rw [show r = _ from hr]; exact congrArg (fun z : Bool => nI (if z = true then 1 else 0)) gA.1.symm, inv_write h0 hq gA gB hX _ _ _ 0 _ _ _ _ (rf_mi_lt hmi P (by omega))⟩, rfl⟩)⟩⟩
      | true =>
        have hmd : ms q d = true := by rw [hg9 d hd]; exact hgd
        have hpif : (true, (w q, true, tn)) = dr_pif P (ms q) (w q, true, tn) d k v := by unfold dr_pif; rw [if_pos hmd]
        have r1 : Ro P q (true, (w q, true, tn)) (true, (wd, true, lf)) := ⟨rfl, hw q hq, rfl, rfl, fun _ => (hlf rfl).symm⟩
        obtain ⟨g1, g2⟩ := rl_wr (z := (wd, true, lf)) (b := (true, (wd, true, lf))) (ch := dr_va P (ms q) (w q) (kn, tw, un) d k ^^^ v) hp5 r1 Fr.rf hg9 hpif
        have gA : Ro P q (dr_wr P (ms q) (w q, true, tn) d k v (dr_va P (ms q) (w q) (kn, tw, un) d k ^^^ v)) (rf_wr P (rf_g lo fr q) q (true, wd, true, lf) d k (T (d * P + k) ^^^ v)) := by
          have g3 := g1
          rw [hva] at g3
          rw [hva]
          exact g3
        have gB : Fr P q wd (rf_wr P (rf_g lo fr q) q (true, wd, true, lf) d k (T (d * P + k) ^^^ v)).2.1 := by
          rw [hva] at g2
          exact g2
        have hag : ∀ c, c < P * P → rf_g lo fr q (c / P) = false → rf_w P wd q c = T c := fun c hc9 hz => by
          rw [(hw q hq).c hc9]
          exact hT2 c hc9 (by rw [hg9 _ (Nat.div_lt_of_lt_mul hc9)]; exact hz)
        exact ⟨((dr_wr P (ms q) (w q, true, tn) d k v (dr_va P (ms q) (w q) (kn, tw, un) d k ^^^ v)).2.2.1, (dr_wr P (ms q) (w q, true, tn) d k v (dr_va P (ms q) (w q) (kn, tw, un) d k ^^^ v)).2.2.2, (dr_vt P (ms q) (w q) (kn, tw, un) d).2.2, lo, (dr_vt P (ms q) (w q) (kn, tw, un) d).1, (dr_vt P (ms q) (w q) (kn, tw, un) d).2.1, (va_up w q (dr_wr P (ms q) (w q, true, tn) d k v (dr_va P (ms q) (w q) (kn, tw, un) d k ^^^ v)).2.1), ms, (va_up mk q (!(dr_wr P (ms q) (w q, true, tn) d k v (dr_va P (ms q) (w q) (kn, tw, un) d k ^^^ v)).1))), _, ⟨rm_c_write2, rfl, rfl, by decide, by decide, c_write2 l dC dI cI cB cQ cJ a.aR a.aS a.aA a.aL a.aE true tn P n a.aTs a.aWs a.aMs lo a.aEW a.aEK tw kn un w ms mk bb q d k v hp5 hn hb9 hsq hq hok hok2 (hd1.trans rfl) (hk1.trans rfl) hd hk⟩, ⟨rm_c_mwrite3, rfl, rfl, by decide, by decide, MG.map (c_mwrite3 l dC dI cI cB cQ cJ b.aO b.bW b.bL b.bF b.bK b.bB b.bS b.bN b.bM th P n true lf mz wd lo fr mk' bt su kv mi bb q d k v T hp5 hn hb8 hsq hq hkq hdq hd hk hok' hmq' hgd hT1 hag hmi) (fun r u hr => ⟨(0, (rf_wr P (rf_g lo fr q) q (true, wd, true, lf) d k (T (d * P + k) ^^^ v)).2.2.1, (rf_wr P (rf_g lo fr q) q (true, wd, true, lf) d k (T (d * P + k) ^^^ v)).2.2.2, dr_cnt (rf_g lo fr q) P, (rf_wr P (rf_g lo fr q) q (true, wd, true, lf) d k (T (d * P + k) ^^^ v)).2.1, lo, fr, va_up mk' q (!(rf_wr P (rf_g lo fr q) q (true, wd, true, lf) d k (T (d * P + k) ^^^ v)).1), u.1, u.2.1, u.2.2, rf_mi (rf_g lo fr q) (rf_mi (rf_g lo fr q) mi P) P), ⟨by rw [show r = _ from hr]; exact congrArg (fun z : Bool => nI (if z = true then 1 else 0)) gA.1.symm, inv_write h0 hq gA gB hX _ _ _ 0 _ _ _ _ (rf_mi_lt (rf_mi_lt hmi P (by omega)) P (by omega))⟩, rfl⟩)⟩⟩

set_option maxHeartbeats 1000000 in
theorem op_rebuild {P n : Nat} {S : CS} {M : MS} (h : Inv P n S M) (x : Int32) : ∃ (S' : CS) (r : Int32), OpC l dC dI cI cB cQ cJ a P n yX3_rebuild cX3_rebuild 4 .int [.int x] S S' r ∧ OpM l dC dI cI cB cQ cJ b P n yX4_rebuild cX4_rebuild 6 .int [.int x] M (Inv P n S') r := by
  obtain ⟨pw, tn, un, lo, kn, tw, w, ms, mk⟩ := S
  obtain ⟨th, pw', lf, mz, wd, lo', fr, mk', bt, su, kv, mi⟩ := M
  have hq1 : pw' = pw := h.2.2.2.1
  have hq2 : lo' = lo := h.2.2.2.2.2.1
  rw [hq1, hq2] at h
  rw [hq1, hq2]
  have h0 := h
  obtain ⟨hp5, hn1, hn, -, hlf0, -, hms0, hfr0, hmk0, hw0, hmi0, hT0, hon0⟩ := h
  have hmi : ∀ t, mi t < 13 := hmi0
  have hlf : pw = true → lf = tn := hlf0
  have hms : ∀ s, s < n → ∀ d, d < P → ms s d = rf_g lo fr s d := hms0
  have hfr : ∀ d, d < P → lo d = true → ∀ s, s < n → fr (4 * d + s) = false := hfr0
  have hmk : ∀ s, s < n → mk' s = mk s := hmk0
  have hw : ∀ s, s < n → Wq P (w s) wd s := hw0
  have hT : ∀ s, s < n → mk s = false → dr_cnt (ms s) P ≤ 2 → ∃ T, dr_Full P T ∧ Ag P (ms s) (w s) T := hT0
  have hon : pw = true → ∀ s, s < n → mk s = true → 0 < dr_cnt (ms s) P := hon0
  have hl5 := hp5.le
  cases pw with
  | false =>
    exact ⟨(false, tn, un, lo, kn, tw, w, ms, mk), _, ⟨rm_c_rebuild0, rfl, rfl, by decide, by decide, c_rebuild0 l dC dI cI cB cQ cJ a.aR a.aS a.aA a.aL a.aE false tn P n a.aTs a.aWs a.aMs lo a.aEW a.aEK tw kn un w ms mk x hp5 hn ⟩, ⟨rm_c_mrebuild0, rfl, rfl, by decide, by decide, MG.map (c_mrebuild0 l dC dI cI cB cQ cJ b.aO b.bW b.bL b.bF b.bK b.bB b.bS b.bN b.bM th P n false lf mz wd lo fr mk' bt su kv mi x hp5 hn ) (fun r u hr => ⟨(0, false, lf, mz, wd, lo, fr, mk', bt, su, kv, mi), ⟨hr, h0.scr 0 mz bt su kv hmi⟩, rfl⟩)⟩⟩
  | true =>
    obtain ⟨T, hTT⟩ := inv_T hT
    obtain ⟨h1, h2⟩ := inv_rb0 h0 hTT
    obtain ⟨g1, g2, g3⟩ := rl_rb (x := x) hp5 (by omega) hmk h1 rfl n (Nat.le_refl _)
    exact ⟨((dr_rb P lo mk x (0, w, ms, true, tn, kn, tw, un) n).2.2.2.2.1, (dr_rb P lo mk x (0, w, ms, true, tn, kn, tw, un) n).2.2.2.2.2.1, (dr_rb P lo mk x (0, w, ms, true, tn, kn, tw, un) n).2.2.2.2.2.2.2.2, lo, (dr_rb P lo mk x (0, w, ms, true, tn, kn, tw, un) n).2.2.2.2.2.2.1, (dr_rb P lo mk x (0, w, ms, true, tn, kn, tw, un) n).2.2.2.2.2.2.2.1, ((dr_rb P lo mk x (0, w, ms, true, tn, kn, tw, un) n).2.2.1), ((dr_rb P lo mk x (0, w, ms, true, tn, kn, tw, un) n).2.2.2.1), mk), _, ⟨rm_c_rebuild1, rfl, rfl, by decide, by decide, c_rebuild1 l dC dI cI cB cQ cJ a.aR a.aS a.aA a.aL a.aE true tn P n a.aTs a.aWs a.aMs lo a.aEW a.aEK tw kn un w ms mk x hp5 hn ⟩, ⟨rm_c_mrebuild1, rfl, rfl, by decide, by decide, MG.map (c_mrebuild1 l dC dI cI cB cQ cJ b.aO b.bW b.bL b.bF b.bK b.bB b.bS b.bN b.bM th P n true lf mz wd lo fr mk' bt su kv mi x T hp5 hn h2 hmi) (fun r u hr => ⟨(0, (rf_rb T P lo mk' x (0, wd, fr, true, lf) n).2.2.2.2.1, (rf_rb T P lo mk' x (0, wd, fr, true, lf) n).2.2.2.2.2, u.2.2.2.2, (rf_rb T P lo mk' x (0, wd, fr, true, lf) n).2.2.1, lo, (rf_rb T P lo mk' x (0, wd, fr, true, lf) n).2.2.2.1, mk', u.1, u.2.1, u.2.2.1, u.2.2.2.1), ⟨by rw [show r = _ from hr.1]; exact congrArg nI g2.1.symm, inv_rb1 hp5 hn1 hn hmk g2 0 _ _ _ _ hr.2⟩, rfl⟩)⟩⟩

end OPS2
