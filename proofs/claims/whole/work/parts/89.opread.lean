theorem MGE.map {σ τ : Type} {l : Launch} {y : MethodName} {wc : List Cond} {rm : Room} {D : va_G} {cl : List vw_C} {tys : List (ClassId × FieldType)} {av : List Value} {ws : va_W} {E : (Nat → Prop) → State → Prop} {mc ms : Nat} {post : Int32 → σ → Prop} {F : σ → va_W} {post' : Int32 → τ → Prop} {F' : τ → va_W} (h : MGE l y wc rm D cl tys av ws E post F mc ms) (hm : ∀ r u, post r u → ∃ v, post' r v ∧ F u = F' v) : MGE l y wc rm D cl tys av ws E post' F' mc ms := by
  intro sz p e ha hc hk s m args below hf happ hP hK
  obtain ⟨n, o, h1, h2, h3, ⟨⟨r, u, ho, hp, hB⟩, hF⟩, hL⟩ := h sz p e ha hc hk s m args below hf happ hP hK
  obtain ⟨v, hv, hFv⟩ := hm r u hp
  exact ⟨n, o, h1, h2, h3, ⟨⟨r, v, ho, hv, by show va_P D cl (F' v) _ ∧ va_D (va_A ws sz) (F' v); rw [← hFv]; exact hB⟩, hF⟩, hL⟩
theorem vp_updL_0 {g : Nat → Int64} {x : Int64} : vp_updL g 0 x 0 = x := by simp [vp_updL]
section OPS3
variable (l : Launch) (dC : Nat → ClassId) (dI : Nat → Nat → Nat) (cI cB cQ cJ : ClassId) (a : AC) (b : AM)

set_option maxHeartbeats 1000000 in
theorem op_read (htl : l.stackTraces = false) {P n : Nat} {S : CS} {M : MS} (h : Inv P n S M) (x : Int32) (aJ : Nat) (g : Nat → Int64) : ∃ (S' : CS) (kk : Int32) (g' : Nat → Int64) (r : Int32), MGE l yL_read wL_read rm_lr (dC, dI) vwCl (TY cI cB cQ cJ) [.ref a.aR, .int x, .ref aJ] ((aJ, .inl (cJ, 1, .inr (.inl g))) :: RWs cI cB cQ a P n S) E_th (fun (r : Int32) (_ : Unit) => r = kk) (fun (_ : Unit) => (aJ, .inl (cJ, 1, .inr (.inl g'))) :: RWs cI cB cQ a P n S') 1 6 ∧
    OpM l dC dI cI cB cQ cJ b P n yX4_read cX4_read 6 .int [.int x] M (fun M' => Inv P n S' M' ∧ nI M'.th = kk) r ∧ (kk = 0 → g' 0 = r.toInt64) := by
  obtain ⟨pw, tn, un, lo, kn, tw, w, ms, mk⟩ := S
  obtain ⟨th, pw', lf, mz, wd, lo', fr, mk', bt, su, kv, mi⟩ := M
  have hq1 : pw' = pw := h.2.2.2.1
  have hq2 : lo' = lo := h.2.2.2.2.2.1
  rw [hq1, hq2] at h
  rw [hq1, hq2]
  have h0 := h
  obtain ⟨hp5, hn1, hn, -, hlf0, -, hms0, hfr0, hmk0, hw0, hmi0, hT0, hon0⟩ := h
  have hmi : ∀ t, mi t < 13 := hmi0
  have hlf : pw = true → lf = tn := hlf0
  have hms : ∀ s, s < n → ∀ d, d < P → ms s d = rf_g lo fr s d := hms0
  have hfr : ∀ d, d < P → lo d = true → ∀ s, s < n → fr (4 * d + s) = false := hfr0
  have hmk : ∀ s, s < n → mk' s = mk s := hmk0
  have hw : ∀ s, s < n → Wq P (w s) wd s := hw0
  have hT : ∀ s, s < n → mk s = false → dr_cnt (ms s) P ≤ 2 → ∃ T, dr_Full P T ∧ Ag P (ms s) (w s) T := hT0
  have hon : pw = true → ∀ s, s < n → mk s = true → 0 < dr_cnt (ms s) P := hon0
  have hl5 := hp5.le
  have hpq := dr_PP2 hp5
  have hnb : n * (P * (P - 2)) ≤ 4 * 143 := Nat.mul_le_mul (by omega) hpq.2
  cases hc : dr_in x (n * (P * (P - 2))) with
  | false =>
    have hc1 : dr_in x (n * (P - 2) * P) = false := by rw [rl_bk]; exact hc
    exact ⟨(pw, tn, un, lo, kn, tw, w, ms, mk), 1, g, nI 0, MGE.map (c_lr1 (c_read0 l htl dC dI cI cB cQ cJ a.aR a.aS a.aA a.aL a.aE pw tn P n a.aTs a.aWs a.aMs lo a.aEW a.aEK tw kn un w ms mk x hp5 hn hc) rfl rfl rfl (by decide) (by decide)) (fun r u hr => ⟨(), hr, rfl⟩), ⟨rm_c_mread0, rfl, rfl, by decide, by decide, MG.map (c_mread0 l dC dI cI cB cQ cJ b.aO b.bW b.bL b.bF b.bK b.bB b.bS b.bN b.bM th P n pw lf mz wd lo fr mk' bt su kv mi x hp5 hn hc1) (fun r u hr => ⟨(1, pw, lf, mz, wd, lo, fr, mk', bt, su, kv, mi), ⟨hr, h0.scr 1 mz bt su kv hmi, rfl⟩, rfl⟩)⟩, (fun z9 => absurd z9 (by decide))⟩
  | true =>
    obtain ⟨bb, hb9, rfl⟩ := dr_in_t (by omega) hc
    have hb8 : bb < n * (P - 2) * P := by rw [rl_bk]; exact hb9
    cases pw with
    | false =>
      exact ⟨(false, tn, un, lo, kn, tw, w, ms, mk), 2, g, nI 0, MGE.map (c_lr2 (c_read1 l htl dC dI cI cB cQ cJ a.aR a.aS a.aA a.aL a.aE false tn P n a.aTs a.aWs a.aMs lo a.aEW a.aEK tw kn un w ms mk bb hp5 hn hb9) rfl rfl rfl (by decide) (by decide)) (fun r u hr => ⟨(), hr, rfl⟩), ⟨rm_c_mread1, rfl, rfl, by decide, by decide, MG.map (c_mread1 l dC dI cI cB cQ cJ b.aO b.bW b.bL b.bF b.bK b.bB b.bS b.bN b.bM th P n false lf mz wd lo fr mk' bt su kv mi bb hp5 hn hb8) (fun r u hr => ⟨(2, false, lf, mz, wd, lo, fr, mk', bt, su, kv, mi), ⟨hr, h0.scr 2 mz bt su kv hmi, rfl⟩, rfl⟩)⟩, (fun z9 => absurd z9 (by decide))⟩
    | true =>
      obtain ⟨hq, hd1, hk1, hd, hk⟩ := rl_bq hp5 hb9
      generalize hsq : bb / (P * (P - 2)) = q at hq
      generalize hdq : bb % P = d at hd1 hd
      generalize hkq : bb / P % (P - 2) = k at hk1 hk
      have hgc := rl_gc hms hq
      have hg9 : ∀ d, d < P → ms q d = rf_g lo fr q d := hms q hq
      have hcl : d * P + k < P * P := dr_pl hd (by omega)
      cases hgd : rf_g lo fr q d with
      | false =>
        have hmd : ms q d = false := by rw [hg9 d hd]; exact hgd
        have hva : dr_va P (ms q) (w q) (kn, tw, un) d k = wd (169 * q + 13 * d + k) := by
          rw [← hw q hq d hd k (by omega)]
          unfold dr_va
          rw [if_neg (by rw [hmd]; decide)]
        exact ⟨(true, tn, (dr_vt P (ms q) (w q) (kn, tw, un) d).2.2, lo, (dr_vt P (ms q) (w q) (kn, tw, un) d).1, (dr_vt P (ms q) (w q) (kn, tw, un) d).2.1, w, ms, mk), 0, vp_updL g 0 (dr_va P (ms q) (w q) (kn, tw, un) d k).toInt64, _, MGE.map (c_lr0 (c_read2 l dC dI cI cB cQ cJ a.aR a.aS a.aA a.aL a.aE true tn P n a.aTs a.aWs a.aMs lo a.aEW a.aEK tw kn un w ms mk bb q d k hp5 hn hb9 hsq hq (hd1.trans rfl) hd (hk1.trans rfl) hk (Or.inl hmd)) rfl rfl rfl (by decide) (by decide)) (fun r u hr => ⟨(), hr.1, by rw [show u.1 = _ from hr.2]⟩), ⟨rm_c_mread2, rfl, rfl, by decide, by decide, MG.map (c_mread2 l dC dI cI cB cQ cJ b.aO b.bW b.bL b.bF b.bK b.bB b.bS b.bN b.bM th P n true lf mz wd lo fr mk' bt su kv mi bb q d k hp5 hn hb8 hsq hq hkq hdq hd hk hgd) (fun r u hr => ⟨(0, true, lf, mz, wd, lo, fr, mk', bt, su, kv, mi), ⟨hr, (h0.tel _ _ _).scr 0 mz bt su kv hmi, rfl⟩, rfl⟩)⟩, (fun _ => by rw [← hva]; exact vp_updL_0)⟩
      | true =>
        have hmd : ms q d = true := by rw [hg9 d hd]; exact hgd
        cases hkm : mk q with
        | true =>
          have hnt : (!mk q && decide (dr_cnt (ms q) P ≤ 2)) = false := by rw [hkm]; rfl
          exact ⟨(true, tn, un, lo, kn, tw, w, ms, mk), 1, g, nI 0, MGE.map (c_lr1 (c_read4 l htl dC dI cI cB cQ cJ a.aR a.aS a.aA a.aL a.aE true tn P n a.aTs a.aWs a.aMs lo a.aEW a.aEK tw kn un w ms mk bb q d hp5 hn hb9 hsq hq (hd1.trans rfl) hd hmd hnt) rfl rfl rfl (by decide) (by decide)) (fun r u hr => ⟨(), hr, rfl⟩), ⟨rm_c_mread3, rfl, rfl, by decide, by decide, MG.map (c_mread3 l dC dI cI cB cQ cJ b.aO b.bW b.bL b.bF b.bK b.bB b.bS b.bN b.bM th P n true lf mz wd lo fr mk' bt su kv mi bb q d k hp5 hn hb8 hsq hq hkq hdq hd hk hgd ((hmk q hq).trans hkm)) (fun r u hr => ⟨(1, true, lf, mz, wd, lo, fr, mk', bt, su, kv, mi), ⟨hr, h0.scr 1 mz bt su kv hmi, rfl⟩, rfl⟩)⟩, (fun z9 => absurd z9 (by decide))⟩
        | false =>
          by_cases hle : dr_cnt (ms q) P ≤ 2
          · obtain ⟨T, hT1, hT2⟩ := hT q hq hkm hle
            have hva : dr_va P (ms q) (w q) (kn, tw, un) d k = T (d * P + k) := by
              unfold dr_va
              rw [if_pos hmd]
              exact dr_told hp5 hT1 hT2 hle kn tw _ hcl
            have hag : ∀ c, c < P * P → rf_g lo fr q (c / P) = false → rf_w P wd q c = T c := fun c hc9 hz => by
              rw [(hw q hq).c hc9]
              exact hT2 c hc9 (by rw [hg9 _ (Nat.div_lt_of_lt_mul hc9)]; exact hz)
            have hok9 : (!mk q && decide (dr_cnt (ms q) P ≤ 2)) = true := by rw [hkm, decide_eq_true hle]; rfl
            have hle' : dr_cnt (rf_g lo fr q) P ≤ 2 := by rw [← hgc]; exact hle
            exact ⟨(true, tn, (dr_vt P (ms q) (w q) (kn, tw, un) d).2.2, lo, (dr_vt P (ms q) (w q) (kn, tw, un) d).1, (dr_vt P (ms q) (w q) (kn, tw, un) d).2.1, w, ms, mk), 0, vp_updL g 0 (dr_va P (ms q) (w q) (kn, tw, un) d k).toInt64, _, MGE.map (c_lr0 (c_read2 l dC dI cI cB cQ cJ a.aR a.aS a.aA a.aL a.aE true tn P n a.aTs a.aWs a.aMs lo a.aEW a.aEK tw kn un w ms mk bb q d k hp5 hn hb9 hsq hq (hd1.trans rfl) hd (hk1.trans rfl) hk (Or.inr hok9)) rfl rfl rfl (by decide) (by decide)) (fun r u hr => ⟨(), hr.1, by rw [show u.1 = _ from hr.2]⟩), ⟨rm_c_mread5, rfl, rfl, by decide, by decide, MG.map (c_mread5 l dC dI cI cB cQ cJ b.aO b.bW b.bL b.bF b.bK b.bB b.bS b.bN b.bM th P n true lf mz wd lo fr mk' bt su kv mi bb q d k T hp5 hn hb8 hsq hq hkq hdq hd hk hgd ((hmk q hq).trans hkm) hle' hT1 hag hmi) (fun r u hr => ⟨(0, true, lf, dr_cnt (rf_g lo fr q) P, wd, lo, fr, mk', u.1, u.2.1, u.2.2, rf_mi (rf_g lo fr q) (rf_mi (rf_g lo fr q) mi P) P), ⟨hr, (h0.tel _ _ _).scr 0 _ _ _ _ (rf_mi_lt (rf_mi_lt hmi P (by omega)) P (by omega)), rfl⟩, rfl⟩)⟩, (fun _ => by rw [← hva]; exact vp_updL_0)⟩
          · have hnt : (!mk q && decide (dr_cnt (ms q) P ≤ 2)) = false := by rw [decide_eq_false hle]; simp
            have hbad' : 2 < dr_cnt (rf_g lo fr q) P := by rw [← hgc]; omega
            exact ⟨(true, tn, un, lo, kn, tw, w, ms, mk), 1, g, nI 0, MGE.map (c_lr1 (c_read4 l htl dC dI cI cB cQ cJ a.aR a.aS a.aA a.aL a.aE true tn P n a.aTs a.aWs a.aMs lo a.aEW a.aEK tw kn un w ms mk bb q d hp5 hn hb9 hsq hq (hd1.trans rfl) hd hmd hnt) rfl rfl rfl (by decide) (by decide)) (fun r u hr => ⟨(), hr, rfl⟩), ⟨rm_c_mread4, rfl, rfl, by decide, by decide, MG.map (c_mread4 l dC dI cI cB cQ cJ b.aO b.bW b.bL b.bF b.bK b.bB b.bS b.bN b.bM th P n true lf mz wd lo fr mk' bt su kv mi bb q d k hp5 hn hb8 hsq hq hkq hdq hd hk hgd ((hmk q hq).trans hkm) hbad') (fun r u hr => ⟨(1, true, lf, dr_cnt (rf_g lo fr q) P, wd, lo, fr, mk', bt, su, kv, rf_mi (rf_g lo fr q) mi P), ⟨hr, h0.scr 1 _ bt su kv (rf_mi_lt hmi P (by omega)), rfl⟩, rfl⟩)⟩, (fun z9 => absurd z9 (by decide))⟩

end OPS3
