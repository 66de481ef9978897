section OPS1
variable (l : Launch) (dC : Nat → ClassId) (dI : Nat → Nat → Nat) (cI cB cQ cJ : ClassId) (a : AC) (b : AM)

set_option maxHeartbeats 1000000 in
theorem op_count {P n : Nat} {S : CS} {M : MS} (h : Inv P n S M) (x : Int32) : ∃ (S' : CS) (r : Int32), OpC l dC dI cI cB cQ cJ a P n yX3_count cX3_count 2 .int [.int x] S S' r ∧ OpM l dC dI cI cB cQ cJ b P n yX4_count cX4_count 5 .int [.int x] M (Inv P n S') r := by
  obtain ⟨pw, tn, un, lo, kn, tw, w, ms, mk⟩ := S
  obtain ⟨th, pw', lf, mz, wd, lo', fr, mk', bt, su, kv, mi⟩ := M
  have hq1 : pw' = pw := h.2.2.2.1
  have hq2 : lo' = lo := h.2.2.2.2.2.1
  rw [hq1, hq2] at h
  rw [hq1, hq2]
  have h0 := h
  obtain ⟨hp5, hn1, hn, -, hlf0, -, hms0, hfr0, hmk0, hw0, hmi0, hT0, hon0⟩ := h
  have hmi : ∀ t, mi t < 13 := hmi0
  have hlf : pw = true → lf = tn := hlf0
  have hms : ∀ s, s < n → ∀ d, d < P → ms s d = rf_g lo fr s d := hms0
  have hfr : ∀ d, d < P → lo d = true → ∀ s, s < n → fr (4 * d + s) = false := hfr0
  have hmk : ∀ s, s < n → mk' s = mk s := hmk0
  have hw : ∀ s, s < n → Wq P (w s) wd s := hw0
  have hT : ∀ s, s < n → mk s = false → dr_cnt (ms s) P ≤ 2 → ∃ T, dr_Full P T ∧ Ag P (ms s) (w s) T := hT0
  have hon : pw = true → ∀ s, s < n → mk s = true → 0 < dr_cnt (ms s) P := hon0
  have hl5 := hp5.le
  exact ⟨(pw, tn, un, lo, kn, tw, w, ms, mk), _, ⟨rm_c_count, rfl, rfl, by decide, by decide, c_count l dC dI cI cB cQ cJ a.aR a.aS a.aA a.aL a.aE pw tn P n a.aTs a.aWs a.aMs lo a.aEW a.aEK tw kn un w ms mk x hp5 hn ⟩, ⟨rm_c_mcount, rfl, rfl, by decide, by decide, MG.map (c_mcount l dC dI cI cB cQ cJ b.aO b.bW b.bL b.bF b.bK b.bB b.bS b.bN b.bM th P n pw lf mz wd lo fr mk' bt su kv mi x hp5 hn ) (fun r u hr => ⟨(0, pw, lf, mz, wd, lo, fr, mk', bt, su, kv, mi), ⟨by rw [show r = _ from hr, rl_bk, rl_cnt hn1 hms], h0.scr 0 mz bt su kv hmi⟩, rfl⟩)⟩⟩

set_option maxHeartbeats 1000000 in
theorem op_on {P n : Nat} {S : CS} {M : MS} (h : Inv P n S M)  : ∃ (S' : CS) (r : Int32), OpC l dC dI cI cB cQ cJ a P n yX3_on cX3_on 1 .boolean [] S S' r ∧ OpM l dC dI cI cB cQ cJ b P n yX4_on cX4_on 1 .boolean [] M (Inv P n S') r := by
  obtain ⟨pw, tn, un, lo, kn, tw, w, ms, mk⟩ := S
  obtain ⟨th, pw', lf, mz, wd, lo', fr, mk', bt, su, kv, mi⟩ := M
  have hq1 : pw' = pw := h.2.2.2.1
  have hq2 : lo' = lo := h.2.2.2.2.2.1
  rw [hq1, hq2] at h
  rw [hq1, hq2]
  have h0 := h
  obtain ⟨hp5, hn1, hn, -, hlf0, -, hms0, hfr0, hmk0, hw0, hmi0, hT0, hon0⟩ := h
  have hmi : ∀ t, mi t < 13 := hmi0
  have hlf : pw = true → lf = tn := hlf0
  have hms : ∀ s, s < n → ∀ d, d < P → ms s d = rf_g lo fr s d := hms0
  have hfr : ∀ d, d < P → lo d = true → ∀ s, s < n → fr (4 * d + s) = false := hfr0
  have hmk : ∀ s, s < n → mk' s = mk s := hmk0
  have hw : ∀ s, s < n → Wq P (w s) wd s := hw0
  have hT : ∀ s, s < n → mk s = false → dr_cnt (ms s) P ≤ 2 → ∃ T, dr_Full P T ∧ Ag P (ms s) (w s) T := hT0
  have hon : pw = true → ∀ s, s < n → mk s = true → 0 < dr_cnt (ms s) P := hon0
  have hl5 := hp5.le
  exact ⟨(pw, tn, un, lo, kn, tw, w, ms, mk), _, ⟨rm_c_on, rfl, rfl, by decide, by decide, c_on l dC dI cI cB cQ cJ a.aR a.aS a.aA a.aL a.aE pw tn P n a.aTs a.aWs a.aMs lo a.aEW a.aEK tw kn un w ms mk  hp5 hn ⟩, ⟨rm_c_mon, rfl, rfl, by decide, by decide, MG.map (c_mon l dC dI cI cB cQ cJ b.aO b.bW b.bL b.bF b.bK b.bB b.bS b.bN b.bM th P n pw lf mz wd lo fr mk' bt su kv mi  hp5 hn ) (fun r u hr => ⟨(0, pw, lf, mz, wd, lo, fr, mk', bt, su, kv, mi), ⟨hr, h0.scr 0 mz bt su kv hmi⟩, rfl⟩)⟩⟩

set_option maxHeartbeats 1000000 in
theorem op_cut {P n : Nat} {S : CS} {M : MS} (h : Inv P n S M) (x : Int32) : ∃ (S' : CS) (r : Int32), OpC l dC dI cI cB cQ cJ a P n yX3_cut cX3_cut 2 .boolean [.int x] S S' r ∧ OpM l dC dI cI cB cQ cJ b P n yX4_cut cX4_cut 2 .boolean [.int x] M (Inv P n S') r := by
  obtain ⟨pw, tn, un, lo, kn, tw, w, ms, mk⟩ := S
  obtain ⟨th, pw', lf, mz, wd, lo', fr, mk', bt, su, kv, mi⟩ := M
  have hq1 : pw' = pw := h.2.2.2.1
  have hq2 : lo' = lo := h.2.2.2.2.2.1
  rw [hq1, hq2] at h
  rw [hq1, hq2]
  have h0 := h
  obtain ⟨hp5, hn1, hn, -, hlf0, -, hms0, hfr0, hmk0, hw0, hmi0, hT0, hon0⟩ := h
  have hmi : ∀ t, mi t < 13 := hmi0
  have hlf : pw = true → lf = tn := hlf0
  have hms : ∀ s, s < n → ∀ d, d < P → ms s d = rf_g lo fr s d := hms0
  have hfr : ∀ d, d < P → lo d = true → ∀ s, s < n → fr (4 * d + s) = false := hfr0
  have hmk : ∀ s, s < n → mk' s = mk s := hmk0
  have hw : ∀ s, s < n → Wq P (w s) wd s := hw0
  have hT : ∀ s, s < n → mk s = false → dr_cnt (ms s) P ≤ 2 → ∃ T, dr_Full P T ∧ Ag P (ms s) (w s) T := hT0
  have hon : pw = true → ∀ s, s < n → mk s = true → 0 < dr_cnt (ms s) P := hon0
  have hl5 := hp5.le
  by_cases hc : pw = false ∨ x < 0
  · exact ⟨(pw, tn, un, lo, kn, tw, w, ms, mk), _, ⟨rm_c_cut0, rfl, rfl, by decide, by decide, c_cut0 l dC dI cI cB cQ cJ a.aR a.aS a.aA a.aL a.aE pw tn P n a.aTs a.aWs a.aMs lo a.aEW a.aEK tw kn un w ms mk x hp5 hn hc⟩, ⟨rm_c_mcut0, rfl, rfl, by decide, by decide, MG.map (c_mcut0 l dC dI cI cB cQ cJ b.aO b.bW b.bL b.bF b.bK b.bB b.bS b.bN b.bM th P n pw lf mz wd lo fr mk' bt su kv mi x hp5 hn hc) (fun r u hr => ⟨(0, pw, lf, mz, wd, lo, fr, mk', bt, su, kv, mi), ⟨hr, h0.scr 0 mz bt su kv hmi⟩, rfl⟩)⟩⟩
  · have hx : 0 ≤ x := Int32.not_lt.mp (fun z => hc (Or.inr z))
    have ht : pw = true := by cases hq : pw with | true => rfl | false => exact absurd (Or.inl hq) hc
    subst ht
    exact ⟨(true, x, un, lo, kn, tw, w, ms, mk), _, ⟨rm_c_cut1, rfl, rfl, by decide, by decide, c_cut1 l dC dI cI cB cQ cJ a.aR a.aS a.aA a.aL a.aE true tn P n a.aTs a.aWs a.aMs lo a.aEW a.aEK tw kn un w ms mk x hp5 hn hx⟩, ⟨rm_c_mcut1, rfl, rfl, by decide, by decide, MG.map (c_mcut1 l dC dI cI cB cQ cJ b.aO b.bW b.bL b.bF b.bK b.bB b.bS b.bN b.bM th P n true lf mz wd lo fr mk' bt su kv mi x hp5 hn hx) (fun r u hr => ⟨(0, true, x, mz, wd, lo, fr, mk', bt, su, kv, mi), ⟨hr, hp5, hn1, hn, rfl, fun _ => rfl, rfl, hms, hfr, hmk, hw, hmi, hT, hon⟩, rfl⟩)⟩⟩

set_option maxHeartbeats 1000000 in
theorem op_drive {P n : Nat} {S : CS} {M : MS} (h : Inv P n S M) (x : Int32) : ∃ (S' : CS) (r : Int32), OpC l dC dI cI cB cQ cJ a P n yX3_drive cX3_drive 2 .int [.int x] S S' r ∧ OpM l dC dI cI cB cQ cJ b P n yX4_drive cX4_drive 4 .int [.int x] M (Inv P n S') r := by
  obtain ⟨pw, tn, un, lo, kn, tw, w, ms, mk⟩ := S
  obtain ⟨th, pw', lf, mz, wd, lo', fr, mk', bt, su, kv, mi⟩ := M
  have hq1 : pw' = pw := h.2.2.2.1
  have hq2 : lo' = lo := h.2.2.2.2.2.1
  rw [hq1, hq2] at h
  rw [hq1, hq2]
  have h0 := h
  obtain ⟨hp5, hn1, hn, -, hlf0, -, hms0, hfr0, hmk0, hw0, hmi0, hT0, hon0⟩ := h
  have hmi : ∀ t, mi t < 13 := hmi0
  have hlf : pw = true → lf = tn := hlf0
  have hms : ∀ s, s < n → ∀ d, d < P → ms s d = rf_g lo fr s d := hms0
  have hfr : ∀ d, d < P → lo d = true → ∀ s, s < n → fr (4 * d + s) = false := hfr0
  have hmk : ∀ s, s < n → mk' s = mk s := hmk0
  have hw : ∀ s, s < n → Wq P (w s) wd s := hw0
  have hT : ∀ s, s < n → mk s = false → dr_cnt (ms s) P ≤ 2 → ∃ T, dr_Full P T ∧ Ag P (ms s) (w s) T := hT0
  have hon : pw = true → ∀ s, s < n → mk s = true → 0 < dr_cnt (ms s) P := hon0
  have hl5 := hp5.le
  cases hc : dr_in x P with
  | false =>
    exact ⟨(pw, tn, un, lo, kn, tw, w, ms, mk), _, ⟨rm_c_drive0, rfl, rfl, by decide, by decide, c_drive0 l dC dI cI cB cQ cJ a.aR a.aS a.aA a.aL a.aE pw tn P n a.aTs a.aWs a.aMs lo a.aEW a.aEK tw kn un w ms mk x hp5 hn hc⟩, ⟨rm_c_mdrive0, rfl, rfl, by decide, by decide, MG.map (c_mdrive0 l dC dI cI cB cQ cJ b.aO b.bW b.bL b.bF b.bK b.bB b.bS b.bN b.bM th P n pw lf mz wd lo fr mk' bt su kv mi x hp5 hn hc) (fun r u hr => ⟨(0, pw, lf, mz, wd, lo, fr, mk', bt, su, kv, mi), ⟨hr, h0.scr 0 mz bt su kv hmi⟩, rfl⟩)⟩⟩
  | true =>
    obtain ⟨d, hd, rfl⟩ := dr_in_t (by omega) hc
    exact ⟨(pw, tn, un, lo, kn, tw, w, ms, mk), _, ⟨rm_c_drive1, rfl, rfl, by decide, by decide, c_drive1 l dC dI cI cB cQ cJ a.aR a.aS a.aA a.aL a.aE pw tn P n a.aTs a.aWs a.aMs lo a.aEW a.aEK tw kn un w ms mk d hp5 hn hd⟩, ⟨rm_c_mdrive1, rfl, rfl, by decide, by decide, MG.map (c_mdrive1 l dC dI cI cB cQ cJ b.aO b.bW b.bL b.bF b.bK b.bB b.bS b.bN b.bM th P n pw lf mz wd lo fr mk' bt su kv mi d hp5 hn hd) (fun r u hr => ⟨(0, pw, lf, mz, wd, lo, fr, mk', bt, su, kv, mi), ⟨by rw [show r = _ from hr, rl_dv hn1 hms hd], h0.scr 0 mz bt su kv hmi⟩, rfl⟩)⟩⟩

set_option maxHeartbeats 1000000 in
theorem op_stripe {P n : Nat} {S : CS} {M : MS} (h : Inv P n S M) (x : Int32) : ∃ (S' : CS) (r : Int32), OpC l dC dI cI cB cQ cJ a P n yX3_stripe cX3_stripe 2 .int [.int x] S S' r ∧ OpM l dC dI cI cB cQ cJ b P n yX4_stripe cX4_stripe 2 .int [.int x] M (Inv P n S') r := by
  obtain ⟨pw, tn, un, lo, kn, tw, w, ms, mk⟩ := S
  obtain ⟨th, pw', lf, mz, wd, lo', fr, mk', bt, su, kv, mi⟩ := M
  have hq1 : pw' = pw := h.2.2.2.1
  have hq2 : lo' = lo := h.2.2.2.2.2.1
  rw [hq1, hq2] at h
  rw [hq1, hq2]
  have h0 := h
  obtain ⟨hp5, hn1, hn, -, hlf0, -, hms0, hfr0, hmk0, hw0, hmi0, hT0, hon0⟩ := h
  have hmi : ∀ t, mi t < 13 := hmi0
  have hlf : pw = true → lf = tn := hlf0
  have hms : ∀ s, s < n → ∀ d, d < P → ms s d = rf_g lo fr s d := hms0
  have hfr : ∀ d, d < P → lo d = true → ∀ s, s < n → fr (4 * d + s) = false := hfr0
  have hmk : ∀ s, s < n → mk' s = mk s := hmk0
  have hw : ∀ s, s < n → Wq P (w s) wd s := hw0
  have hT : ∀ s, s < n → mk s = false → dr_cnt (ms s) P ≤ 2 → ∃ T, dr_Full P T ∧ Ag P (ms s) (w s) T := hT0
  have hon : pw = true → ∀ s, s < n → mk s = true → 0 < dr_cnt (ms s) P := hon0
  have hl5 := hp5.le
  cases hc : dr_in x n with
  | false =>
    exact ⟨(pw, tn, un, lo, kn, tw, w, ms, mk), _, ⟨rm_c_stripe0, rfl, rfl, by decide, by decide, c_stripe0 l dC dI cI cB cQ cJ a.aR a.aS a.aA a.aL a.aE pw tn P n a.aTs a.aWs a.aMs lo a.aEW a.aEK tw kn un w ms mk x hp5 hn hc⟩, ⟨rm_c_mstripe0, rfl, rfl, by decide, by decide, MG.map (c_mstripe0 l dC dI cI cB cQ cJ b.aO b.bW b.bL b.bF b.bK b.bB b.bS b.bN b.bM th P n pw lf mz wd lo fr mk' bt su kv mi x hp5 hn hc) (fun r u hr => ⟨(0, pw, lf, mz, wd, lo, fr, mk', bt, su, kv, mi), ⟨hr, h0.scr 0 mz bt su kv hmi⟩, rfl⟩)⟩⟩
  | true =>
    obtain ⟨q, hq, rfl⟩ := dr_in_t (by omega) hc
    cases hk : mk q with
    | false =>
      have hk' : mk' q = false := by rw [hmk q hq]; exact hk
      exact ⟨(pw, tn, un, lo, kn, tw, w, ms, mk), _, ⟨rm_c_stripe1, rfl, rfl, by decide, by decide, c_stripe1 l dC dI cI cB cQ cJ a.aR a.aS a.aA a.aL a.aE pw tn P n a.aTs a.aWs a.aMs lo a.aEW a.aEK tw kn un w ms mk q hp5 hn hq⟩, ⟨rm_c_mstripe1, rfl, rfl, by decide, by decide, MG.map (c_mstripe1 l dC dI cI cB cQ cJ b.aO b.bW b.bL b.bF b.bK b.bB b.bS b.bN b.bM th P n pw lf mz wd lo fr mk' bt su kv mi q hp5 hn hq hk') (fun r u hr => ⟨(0, pw, lf, mz, wd, lo, fr, mk', bt, su, kv, mi), ⟨by rw [show r = _ from hr, hk]; rfl, h0.scr 0 mz bt su kv hmi⟩, rfl⟩)⟩⟩
    | true =>
      have hk' : mk' q = true := by rw [hmk q hq]; exact hk
      exact ⟨(pw, tn, un, lo, kn, tw, w, ms, mk), _, ⟨rm_c_stripe1, rfl, rfl, by decide, by decide, c_stripe1 l dC dI cI cB cQ cJ a.aR a.aS a.aA a.aL a.aE pw tn P n a.aTs a.aWs a.aMs lo a.aEW a.aEK tw kn un w ms mk q hp5 hn hq⟩, ⟨rm_c_mstripe2, rfl, rfl, by decide, by decide, MG.map (c_mstripe2 l dC dI cI cB cQ cJ b.aO b.bW b.bL b.bF b.bK b.bB b.bS b.bN b.bM th P n pw lf mz wd lo fr mk' bt su kv mi q hp5 hn hq hk') (fun r u hr => ⟨(0, pw, lf, dr_cnt (rf_g lo fr q) P, wd, lo, fr, mk', bt, su, kv, rf_mi (rf_g lo fr q) mi P), ⟨by rw [show r = _ from hr, hk, rl_gc hms hq]; exact congrArg nI (rl_str _), h0.scr 0 _ bt su kv (rf_mi_lt hmi P (by omega))⟩, rfl⟩)⟩⟩

set_option maxHeartbeats 1000000 in
theorem op_word {P n : Nat} {S : CS} {M : MS} (h : Inv P n S M) (x : Int32) (y : Int32) (z : Int32) : ∃ (S' : CS) (r : Int32), OpC l dC dI cI cB cQ cJ a P n yX3_word cX3_word 4 .int [.int x, .int y, .int z] S S' r ∧ OpM l dC dI cI cB cQ cJ b P n yX4_word cX4_word 4 .int [.int x, .int y, .int z] M (Inv P n S') r := by
  obtain ⟨pw, tn, un, lo, kn, tw, w, ms, mk⟩ := S
  obtain ⟨th, pw', lf, mz, wd, lo', fr, mk', bt, su, kv, mi⟩ := M
  have hq1 : pw' = pw := h.2.2.2.1
  have hq2 : lo' = lo := h.2.2.2.2.2.1
  rw [hq1, hq2] at h
  rw [hq1, hq2]
  have h0 := h
  obtain ⟨hp5, hn1, hn, -, hlf0, -, hms0, hfr0, hmk0, hw0, hmi0, hT0, hon0⟩ := h
  have hmi : ∀ t, mi t < 13 := hmi0
  have hlf : pw = true → lf = tn := hlf0
  have hms : ∀ s, s < n → ∀ d, d < P → ms s d = rf_g lo fr s d := hms0
  have hfr : ∀ d, d < P → lo d = true → ∀ s, s < n → fr (4 * d + s) = false := hfr0
  have hmk : ∀ s, s < n → mk' s = mk s := hmk0
  have hw : ∀ s, s < n → Wq P (w s) wd s := hw0
  have hT : ∀ s, s < n → mk s = false → dr_cnt (ms s) P ≤ 2 → ∃ T, dr_Full P T ∧ Ag P (ms s) (w s) T := hT0
  have hon : pw = true → ∀ s, s < n → mk s = true → 0 < dr_cnt (ms s) P := hon0
  have hl5 := hp5.le
  by_cases hc : dr_in x P = true ∧ dr_in y n = true ∧ dr_in z P = true
  · obtain ⟨d, hd, rfl⟩ := dr_in_t (by omega) hc.1
    obtain ⟨q, hq, rfl⟩ := dr_in_t (by omega) hc.2.1
    obtain ⟨k, hk, rfl⟩ := dr_in_t (by omega) hc.2.2
    exact ⟨(pw, tn, un, lo, kn, tw, w, ms, mk), _, ⟨rm_c_word1, rfl, rfl, by decide, by decide, c_word1 l dC dI cI cB cQ cJ a.aR a.aS a.aA a.aL a.aE pw tn P n a.aTs a.aWs a.aMs lo a.aEW a.aEK tw kn un w ms mk d q k hp5 hn hd hq hk⟩, ⟨rm_c_mword1, rfl, rfl, by decide, by decide, MG.map (c_mword1 l dC dI cI cB cQ cJ b.aO b.bW b.bL b.bF b.bK b.bB b.bS b.bN b.bM th P n pw lf mz wd lo fr mk' bt su kv mi d q k hp5 hn hd hq hk) (fun r u hr => ⟨(0, pw, lf, mz, wd, lo, fr, mk', bt, su, kv, mi), ⟨by rw [show r = _ from hr]; exact (hw q hq d hd k hk).symm, h0.scr 0 mz bt su kv hmi⟩, rfl⟩)⟩⟩
  · exact ⟨(pw, tn, un, lo, kn, tw, w, ms, mk), _, ⟨rm_c_word0, rfl, rfl, by decide, by decide, c_word0 l dC dI cI cB cQ cJ a.aR a.aS a.aA a.aL a.aE pw tn P n a.aTs a.aWs a.aMs lo a.aEW a.aEK tw kn un w ms mk x y z hp5 hn hc⟩, ⟨rm_c_mword0, rfl, rfl, by decide, by decide, MG.map (c_mword0 l dC dI cI cB cQ cJ b.aO b.bW b.bL b.bF b.bK b.bB b.bS b.bN b.bM th P n pw lf mz wd lo fr mk' bt su kv mi x y z hp5 hn hc) (fun r u hr => ⟨(0, pw, lf, mz, wd, lo, fr, mk', bt, su, kv, mi), ⟨hr, h0.scr 0 mz bt su kv hmi⟩, rfl⟩)⟩⟩

set_option maxHeartbeats 1000000 in
theorem op_agree {P n : Nat} {S : CS} {M : MS} (h : Inv P n S M) (x : Int32) : ∃ (S' : CS) (r : Int32), OpC l dC dI cI cB cQ cJ a P n yX3_agree cX3_agree 2 .int [.int x] S S' r ∧ OpM l dC dI cI cB cQ cJ b P n yX4_agree cX4_agree 8 .int [.int x] M (Inv P n S') r := by
  obtain ⟨pw, tn, un, lo, kn, tw, w, ms, mk⟩ := S
  obtain ⟨th, pw', lf, mz, wd, lo', fr, mk', bt, su, kv, mi⟩ := M
  have hq1 : pw' = pw := h.2.2.2.1
  have hq2 : lo' = lo := h.2.2.2.2.2.1
  rw [hq1, hq2] at h
  rw [hq1, hq2]
  have h0 := h
  obtain ⟨hp5, hn1, hn, -, hlf0, -, hms0, hfr0, hmk0, hw0, hmi0, hT0, hon0⟩ := h
  have hmi : ∀ t, mi t < 13 := hmi0
  have hlf : pw = true → lf = tn := hlf0
  have hms : ∀ s, s < n → ∀ d, d < P → ms s d = rf_g lo fr s d := hms0
  have hfr : ∀ d, d < P → lo d = true → ∀ s, s < n → fr (4 * d + s) = false := hfr0
  have hmk : ∀ s, s < n → mk' s = mk s := hmk0
  have hw : ∀ s, s < n → Wq P (w s) wd s := hw0
  have hT : ∀ s, s < n → mk s = false → dr_cnt (ms s) P ≤ 2 → ∃ T, dr_Full P T ∧ Ag P (ms s) (w s) T := hT0
  have hon : pw = true → ∀ s, s < n → mk s = true → 0 < dr_cnt (ms s) P := hon0
  have hl5 := hp5.le
  cases hc : dr_in x n with
  | false =>
    exact ⟨(pw, tn, un, lo, kn, tw, w, ms, mk), _, ⟨rm_c_agree0, rfl, rfl, by decide, by decide, c_agree0 l dC dI cI cB cQ cJ a.aR a.aS a.aA a.aL a.aE pw tn P n a.aTs a.aWs a.aMs lo a.aEW a.aEK tw kn un w ms mk x hp5 hn hc⟩, ⟨rm_c_magree0, rfl, rfl, by decide, by decide, MG.map (c_magree0 l dC dI cI cB cQ cJ b.aO b.bW b.bL b.bF b.bK b.bB b.bS b.bN b.bM th P n pw lf mz wd lo fr mk' bt su kv mi x hp5 hn hc) (fun r u hr => ⟨(0, pw, lf, mz, wd, lo, fr, mk', bt, su, kv, mi), ⟨hr, h0.scr 0 mz bt su kv hmi⟩, rfl⟩)⟩⟩
  | true =>
    obtain ⟨q, hq, rfl⟩ := dr_in_t (by omega) hc
    exact ⟨(pw, tn, un, lo, kn, tw, w, ms, mk), _, ⟨rm_c_agree1, rfl, rfl, by decide, by decide, c_agree1 l dC dI cI cB cQ cJ a.aR a.aS a.aA a.aL a.aE pw tn P n a.aTs a.aWs a.aMs lo a.aEW a.aEK tw kn un w ms mk q hp5 hn hq⟩, ⟨rm_c_magree1, rfl, rfl, by decide, by decide, MG.map (c_magree1 l dC dI cI cB cQ cJ b.aO b.bW b.bL b.bF b.bK b.bB b.bS b.bN b.bM th P n pw lf mz wd lo fr mk' bt su kv mi q hp5 hn hq) (fun r u hr => ⟨(0, pw, lf, mz, wd, lo, fr, mk', bt, su, kv, mi), ⟨by rw [show r = _ from hr, rl_agn hp5 (hms q hq) (hw q hq)], h0.scr 0 mz bt su kv hmi⟩, rfl⟩)⟩⟩

set_option maxHeartbeats 1000000 in
theorem op_lose {P n : Nat} {S : CS} {M : MS} (h : Inv P n S M) (x : Int32) : ∃ (S' : CS) (r : Int32), OpC l dC dI cI cB cQ cJ a P n yX3_lose cX3_lose 3 .boolean [.int x] S S' r ∧ OpM l dC dI cI cB cQ cJ b P n yX4_lose cX4_lose 4 .boolean [.int x] M (Inv P n S') r := by
  obtain ⟨pw, tn, un, lo, kn, tw, w, ms, mk⟩ := S
  obtain ⟨th, pw', lf, mz, wd, lo', fr, mk', bt, su, kv, mi⟩ := M
  have hq1 : pw' = pw := h.2.2.2.1
  have hq2 : lo' = lo := h.2.2.2.2.2.1
  rw [hq1, hq2] at h
  rw [hq1, hq2]
  have h0 := h
  obtain ⟨hp5, hn1, hn, -, hlf0, -, hms0, hfr0, hmk0, hw0, hmi0, hT0, hon0⟩ := h
  have hmi : ∀ t, mi t < 13 := hmi0
  have hlf : pw = true → lf = tn := hlf0
  have hms : ∀ s, s < n → ∀ d, d < P → ms s d = rf_g lo fr s d := hms0
  have hfr : ∀ d, d < P → lo d = true → ∀ s, s < n → fr (4 * d + s) = false := hfr0
  have hmk : ∀ s, s < n → mk' s = mk s := hmk0
  have hw : ∀ s, s < n → Wq P (w s) wd s := hw0
  have hT : ∀ s, s < n → mk s = false → dr_cnt (ms s) P ≤ 2 → ∃ T, dr_Full P T ∧ Ag P (ms s) (w s) T := hT0
  have hon : pw = true → ∀ s, s < n → mk s = true → 0 < dr_cnt (ms s) P := hon0
  have hl5 := hp5.le
  cases hc : dr_in x P with
  | false =>
    exact ⟨(pw, tn, un, lo, kn, tw, w, ms, mk), _, ⟨rm_c_lose0, rfl, rfl, by decide, by decide, c_lose0 l dC dI cI cB cQ cJ a.aR a.aS a.aA a.aL a.aE pw tn P n a.aTs a.aWs a.aMs lo a.aEW a.aEK tw kn un w ms mk x hp5 hn hc⟩, ⟨rm_c_mlose0, rfl, rfl, by decide, by decide, MG.map (c_mlose0 l dC dI cI cB cQ cJ b.aO b.bW b.bL b.bF b.bK b.bB b.bS b.bN b.bM th P n pw lf mz wd lo fr mk' bt su kv mi x hp5 hn hc) (fun r u hr => ⟨(0, pw, lf, mz, wd, lo, fr, mk', bt, su, kv, mi), ⟨hr, h0.scr 0 mz bt su kv hmi⟩, rfl⟩)⟩⟩
  | true =>
    obtain ⟨d, hd, rfl⟩ := dr_in_t (by omega) hc
    cases hld : lo d with
    | true =>
      exact ⟨(pw, tn, un, lo, kn, tw, w, ms, mk), _, ⟨rm_c_lose1, rfl, rfl, by decide, by decide, c_lose1 l dC dI cI cB cQ cJ a.aR a.aS a.aA a.aL a.aE pw tn P n a.aTs a.aWs a.aMs lo a.aEW a.aEK tw kn un w ms mk d hp5 hn hd hld⟩, ⟨rm_c_mlose1, rfl, rfl, by decide, by decide, MG.map (c_mlose1 l dC dI cI cB cQ cJ b.aO b.bW b.bL b.bF b.bK b.bB b.bS b.bN b.bM th P n pw lf mz wd lo fr mk' bt su kv mi d hp5 hn hd hld) (fun r u hr => ⟨(0, pw, lf, mz, wd, lo, fr, mk', bt, su, kv, mi), ⟨hr, h0.scr 0 mz bt su kv hmi⟩, rfl⟩)⟩⟩
    | false =>
      exact ⟨(pw, tn, un, va_up lo d true, kn, tw, dr_loW P w d n, dr_loM ms d n, mk), _, ⟨rm_c_lose2, rfl, rfl, by decide, by decide, c_lose2 l dC dI cI cB cQ cJ a.aR a.aS a.aA a.aL a.aE pw tn P n a.aTs a.aWs a.aMs lo a.aEW a.aEK tw kn un w ms mk d hp5 hn hd hld⟩, ⟨rm_c_mlose2, rfl, rfl, by decide, by decide, MG.map (c_mlose2 l dC dI cI cB cQ cJ b.aO b.bW b.bL b.bF b.bK b.bB b.bS b.bN b.bM th P n pw lf mz wd lo fr mk' bt su kv mi d hp5 hn hd hld) (fun r u hr => ⟨(0, pw, lf, mz, rf_lW P wd d n, va_up lo d true, rf_lF fr d false n, mk', bt, su, kv, mi), ⟨hr, inv_lose h0 hd⟩, rfl⟩)⟩⟩

set_option maxHeartbeats 1000000 in
theorem op_replace {P n : Nat} {S : CS} {M : MS} (h : Inv P n S M) (x : Int32) : ∃ (S' : CS) (r : Int32), OpC l dC dI cI cB cQ cJ a P n yX3_replace cX3_replace 2 .boolean [.int x] S S' r ∧ OpM l dC dI cI cB cQ cJ b P n yX4_replace cX4_replace 3 .boolean [.int x] M (Inv P n S') r := by
  obtain ⟨pw, tn, un, lo, kn, tw, w, ms, mk⟩ := S
  obtain ⟨th, pw', lf, mz, wd, lo', fr, mk', bt, su, kv, mi⟩ := M
  have hq1 : pw' = pw := h.2.2.2.1
  have hq2 : lo' = lo := h.2.2.2.2.2.1
  rw [hq1, hq2] at h
  rw [hq1, hq2]
  have h0 := h
  obtain ⟨hp5, hn1, hn, -, hlf0, -, hms0, hfr0, hmk0, hw0, hmi0, hT0, hon0⟩ := h
  have hmi : ∀ t, mi t < 13 := hmi0
  have hlf : pw = true → lf = tn := hlf0
  have hms : ∀ s, s < n → ∀ d, d < P → ms s d = rf_g lo fr s d := hms0
  have hfr : ∀ d, d < P → lo d = true → ∀ s, s < n → fr (4 * d + s) = false := hfr0
  have hmk : ∀ s, s < n → mk' s = mk s := hmk0
  have hw : ∀ s, s < n → Wq P (w s) wd s := hw0
  have hT : ∀ s, s < n → mk s = false → dr_cnt (ms s) P ≤ 2 → ∃ T, dr_Full P T ∧ Ag P (ms s) (w s) T := hT0
  have hon : pw = true → ∀ s, s < n → mk s = true → 0 < dr_cnt (ms s) P := hon0
  have hl5 := hp5.le
  by_cases hc0 : pw = false ∨ dr_in x P = false
  · exact ⟨(pw, tn, un, lo, kn, tw, w, ms, mk), _, ⟨rm_c_rep0, rfl, rfl, by decide, by decide, c_rep0 l dC dI cI cB cQ cJ a.aR a.aS a.aA a.aL a.aE pw tn P n a.aTs a.aWs a.aMs lo a.aEW a.aEK tw kn un w ms mk x hp5 hn hc0⟩, ⟨rm_c_mrep0, rfl, rfl, by decide, by decide, MG.map (c_mrep0 l dC dI cI cB cQ cJ b.aO b.bW b.bL b.bF b.bK b.bB b.bS b.bN b.bM th P n pw lf mz wd lo fr mk' bt su kv mi x hp5 hn hc0) (fun r u hr => ⟨(0, pw, lf, mz, wd, lo, fr, mk', bt, su, kv, mi), ⟨hr, h0.scr 0 mz bt su kv hmi⟩, rfl⟩)⟩⟩
  · have ht : pw = true := by cases hq : pw with | true => rfl | false => exact absurd (Or.inl hq) hc0
    have hc : dr_in x P = true := by cases hq : dr_in x P with | true => rfl | false => exact absurd (Or.inr hq) hc0
    subst ht
    obtain ⟨d, hd, rfl⟩ := dr_in_t (by omega) hc
    cases hld : lo d with
    | false =>
      exact ⟨(true, tn, un, lo, kn, tw, w, ms, mk), _, ⟨rm_c_rep1, rfl, rfl, by decide, by decide, c_rep1 l dC dI cI cB cQ cJ a.aR a.aS a.aA a.aL a.aE true tn P n a.aTs a.aWs a.aMs lo a.aEW a.aEK tw kn un w ms mk d hp5 hn hd hld⟩, ⟨rm_c_mrep1, rfl, rfl, by decide, by decide, MG.map (c_mrep1 l dC dI cI cB cQ cJ b.aO b.bW b.bL b.bF b.bK b.bB b.bS b.bN b.bM th P n true lf mz wd lo fr mk' bt su kv mi d hp5 hn hd hld) (fun r u hr => ⟨(0, true, lf, mz, wd, lo, fr, mk', bt, su, kv, mi), ⟨hr, h0.scr 0 mz bt su kv hmi⟩, rfl⟩)⟩⟩
    | true =>
      exact ⟨(true, tn, un, va_up lo d false, kn, tw, w, ms, mk), _, ⟨rm_c_rep2, rfl, rfl, by decide, by decide, c_rep2 l dC dI cI cB cQ cJ a.aR a.aS a.aA a.aL a.aE true tn P n a.aTs a.aWs a.aMs lo a.aEW a.aEK tw kn un w ms mk d hp5 hn hd hld⟩, ⟨rm_c_mrep2, rfl, rfl, by decide, by decide, MG.map (c_mrep2 l dC dI cI cB cQ cJ b.aO b.bW b.bL b.bF b.bK b.bB b.bS b.bN b.bM th P n true lf mz wd lo fr mk' bt su kv mi d hp5 hn hd hld) (fun r u hr => ⟨(0, true, lf, mz, wd, va_up lo d false, rf_lF fr d true n, mk', bt, su, kv, mi), ⟨hr, inv_rep h0 hd hld⟩, rfl⟩)⟩⟩

set_option maxHeartbeats 1000000 in
theorem op_start {P n : Nat} {S : CS} {M : MS} (h : Inv P n S M)  : ∃ (S' : CS) (r : Int32), OpC l dC dI cI cB cQ cJ a P n yX3_start cX3_start 4 .int [] S S' r ∧ OpM l dC dI cI cB cQ cJ b P n yX4_start cX4_start 4 .int [] M (Inv P n S') r := by
  obtain ⟨pw, tn, un, lo, kn, tw, w, ms, mk⟩ := S
  obtain ⟨th, pw', lf, mz, wd, lo', fr, mk', bt, su, kv, mi⟩ := M
  have hq1 : pw' = pw := h.2.2.2.1
  have hq2 : lo' = lo := h.2.2.2.2.2.1
  rw [hq1, hq2] at h
  rw [hq1, hq2]
  have h0 := h
  obtain ⟨hp5, hn1, hn, -, hlf0, -, hms0, hfr0, hmk0, hw0, hmi0, hT0, hon0⟩ := h
  have hmi : ∀ t, mi t < 13 := hmi0
  have hlf : pw = true → lf = tn := hlf0
  have hms : ∀ s, s < n → ∀ d, d < P → ms s d = rf_g lo fr s d := hms0
  have hfr : ∀ d, d < P → lo d = true → ∀ s, s < n → fr (4 * d + s) = false := hfr0
  have hmk : ∀ s, s < n → mk' s = mk s := hmk0
  have hw : ∀ s, s < n → Wq P (w s) wd s := hw0
  have hT : ∀ s, s < n → mk s = false → dr_cnt (ms s) P ≤ 2 → ∃ T, dr_Full P T ∧ Ag P (ms s) (w s) T := hT0
  have hon : pw = true → ∀ s, s < n → mk s = true → 0 < dr_cnt (ms s) P := hon0
  have hl5 := hp5.le
  cases pw with
  | true =>
    exact ⟨(true, tn, un, lo, kn, tw, w, ms, mk), _, ⟨rm_c_start0, rfl, rfl, by decide, by decide, c_start0 l dC dI cI cB cQ cJ a.aR a.aS a.aA a.aL a.aE true tn P n a.aTs a.aWs a.aMs lo a.aEW a.aEK tw kn un w ms mk  hp5 hn ⟩, ⟨rm_c_mstart0, rfl, rfl, by decide, by decide, MG.map (c_mstart0 l dC dI cI cB cQ cJ b.aO b.bW b.bL b.bF b.bK b.bB b.bS b.bN b.bM th P n true lf mz wd lo fr mk' bt su kv mi  hp5 hn ) (fun r u hr => ⟨(0, true, lf, mz, wd, lo, fr, mk', bt, su, kv, mi), ⟨hr, h0.scr 0 mz bt su kv hmi⟩, rfl⟩)⟩⟩
  | false =>
    obtain ⟨g1, g2⟩ := inv_start h0
    exact ⟨(true, -1, un, lo, kn, tw, (dr_sta P ms w mk n).2.1, ms, (dr_sta P ms w mk n).2.2), _, ⟨rm_c_start1, rfl, rfl, by decide, by decide, c_start1 l dC dI cI cB cQ cJ a.aR a.aS a.aA a.aL a.aE false tn P n a.aTs a.aWs a.aMs lo a.aEW a.aEK tw kn un w ms mk  hp5 hn ⟩, ⟨rm_c_mstart1, rfl, rfl, by decide, by decide, MG.map (c_mstart1 l dC dI cI cB cQ cJ b.aO b.bW b.bL b.bF b.bK b.bB b.bS b.bN b.bM th P n false lf mz wd lo fr mk' bt su kv mi  hp5 hn ) (fun r u hr => ⟨(0, true, -1, (rf_sta P lo fr (0, wd, mk', mz, mi) n).2.2.2.1, (rf_sta P lo fr (0, wd, mk', mz, mi) n).2.1, lo, fr, (rf_sta P lo fr (0, wd, mk', mz, mi) n).2.2.1, bt, su, kv, (rf_sta P lo fr (0, wd, mk', mz, mi) n).2.2.2.2), ⟨by rw [show r = _ from hr, g1], g2⟩, rfl⟩)⟩⟩

end OPS1
