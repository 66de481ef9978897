/-! what is kept -/
theorem rl_str (c : Nat) : (if 0 < c then 2 else 1) = (if (true && decide (0 < c)) = true then 2 else if true = true then 1 else 0) := by
  by_cases h : 0 < c
  · rw [if_pos h, decide_eq_true h]; rfl
  · rw [if_neg h, decide_eq_false h]; rfl
theorem inv_lose {P n d : Nat} {pw : Bool} {tn un lf : Int32} {lo kn fr mk mk' : Nat → Bool} {tw su kv wd : Nat → Int32} {w : Nat → Nat → Int32} {ms : Nat → Nat → Bool} {th mz : Nat} {bt mi : Nat → Nat} (h : Inv P n (pw, tn, un, lo, kn, tw, w, ms, mk) (th, pw, lf, mz, wd, lo, fr, mk', bt, su, kv, mi)) (hd : d < P) :
    Inv P n (pw, tn, un, va_up lo d true, kn, tw, dr_loW P w d n, dr_loM ms d n, mk) (0, pw, lf, mz, rf_lW P wd d n, va_up lo d true, rf_lF fr d false n, mk', bt, su, kv, mi) := by
  obtain ⟨hp5, hn1, hn, hpw, hlf, hlo, hms, hfr, hmk, hw, hmi, hT, hon⟩ := h
  have hms : ∀ s, s < n → ∀ d, d < P → ms s d = rf_g lo fr s d := hms
  have hfr : ∀ d, d < P → lo d = true → ∀ s, s < n → fr (4 * d + s) = false := hfr
  have hw : ∀ s, s < n → Wq P (w s) wd s := hw
  have hT : ∀ s, s < n → mk s = false → dr_cnt (ms s) P ≤ 2 → ∃ T, dr_Full P T ∧ Ag P (ms s) (w s) T := hT
  have hon : pw = true → ∀ s, s < n → mk s = true → 0 < dr_cnt (ms s) P := hon
  have hl := hp5.le
  have hle : ∀ s, dr_cnt (ms s) P ≤ dr_cnt (va_up (ms s) d true) P := fun s => dr_cnt_mono (fun k hk hq => by
    by_cases e : k = d
    · rw [e, va_up_s]
    · rw [va_up_n e]; exact hq)
  refine ⟨hp5, hn1, hn, rfl, hlf, rfl, fun s hs d' hd' => ?_, fun d' hd' hl' s hs => ?_, hmk, fun s hs => ?_, hmi, fun s hs hm hc => ?_, fun hq s hs hm => ?_⟩
  · show dr_loM ms d n s d' = rf_g (va_up lo d true) (rf_lF fr d false n) s d'
    unfold rf_g
    rw [dr_loM_at, if_pos hs, rf_lF_at (by omega) d' s (by omega)]
    by_cases e : d' = d
    · rw [e, va_up_s, va_up_s]; rfl
    · rw [va_up_n e, va_up_n e, if_neg (fun z => e z.1), hms s hs d' hd']; rfl
  · show rf_lF fr d false n (4 * d' + s) = false
    rw [rf_lF_at (by omega) d' s (by omega)]
    split
    · rfl
    · rename_i hne
      have hl' : va_up lo d true d' = true := hl'
      by_cases e : d' = d
      · exact absurd ⟨e, hs⟩ hne
      · rw [va_up_n e] at hl'
        exact hfr d' hd' hl' s hs
  · show Wq P (dr_loW P w d n s) (rf_lW P wd d n) s
    rw [dr_loW_at]
    exact rl_lW (by omega) hw hd n (Nat.le_refl _) s hs
  · have hc : dr_cnt (dr_loM ms d n s) P ≤ 2 := hc
    show ∃ T, dr_Full P T ∧ Ag P (dr_loM ms d n s) (dr_loW P w d n s) T
    rw [dr_loM_at, if_pos hs] at hc ⊢
    rw [dr_loW_at, if_pos hs]
    obtain ⟨T, h1, h2⟩ := hT s hs hm (Nat.le_trans (hle s) hc)
    refine ⟨T, h1, fun c hc9 hq => ?_⟩
    have hne : c / P ≠ d := fun e => by rw [e, va_up_s] at hq; cases hq
    rw [va_up_n hne] at hq
    rw [← h2 c hc9 hq]
    have : ∀ m, m ≤ P → dr_zr P (w s) d m c = w s c := by
      intro m
      induction m with
      | zero => intro _; rfl
      | succ m ih =>
        intro hm9
        rw [dr_zr, va_up_n (fun e => hne (by rw [e, dr_pl_div (by omega)]))]
        exact ih (by omega)
    exact this P (Nat.le_refl _)
  · show 0 < dr_cnt (dr_loM ms d n s) P
    rw [dr_loM_at, if_pos hs]
    exact Nat.lt_of_lt_of_le (hon hq s hs hm) (hle s)
theorem inv_rep {P n d : Nat} {pw : Bool} {tn un lf : Int32} {lo kn fr mk mk' : Nat → Bool} {tw su kv wd : Nat → Int32} {w : Nat → Nat → Int32} {ms : Nat → Nat → Bool} {th mz : Nat} {bt mi : Nat → Nat} (h : Inv P n (pw, tn, un, lo, kn, tw, w, ms, mk) (th, pw, lf, mz, wd, lo, fr, mk', bt, su, kv, mi)) (hd : d < P) (hld : lo d = true) :
    Inv P n (pw, tn, un, va_up lo d false, kn, tw, w, ms, mk) (0, pw, lf, mz, wd, va_up lo d false, rf_lF fr d true n, mk', bt, su, kv, mi) := by
  obtain ⟨hp5, hn1, hn, hpw, hlf, hlo, hms, hfr, hmk, hw, hmi, hT, hon⟩ := h
  have hms : ∀ s, s < n → ∀ d, d < P → ms s d = rf_g lo fr s d := hms
  have hfr : ∀ d, d < P → lo d = true → ∀ s, s < n → fr (4 * d + s) = false := hfr
  refine ⟨hp5, hn1, hn, rfl, hlf, rfl, fun s hs d' hd' => ?_, fun d' hd' hl' s hs => ?_, hmk, hw, hmi, hT, hon⟩
  · show ms s d' = rf_g (va_up lo d false) (rf_lF fr d true n) s d'
    unfold rf_g
    rw [hms s hs d' hd', rf_lF_at (by omega) d' s (by omega)]
    unfold rf_g
    by_cases e : d' = d
    · rw [e, va_up_s, if_pos ⟨rfl, hs⟩, hld]; rfl
    · rw [va_up_n e, if_neg (fun z => e z.1)]
  · show rf_lF fr d true n (4 * d' + s) = false
    have hl' : va_up lo d false d' = true := hl'
    by_cases e : d' = d
    · rw [e, va_up_s] at hl'; cases hl'
    · rw [va_up_n e] at hl'
      rw [rf_lF_at (by omega) d' s (by omega), if_neg (fun z => e z.1)]
      exact hfr d' hd' hl' s hs
theorem inv_start {P n : Nat} {pw : Bool} {tn un lf : Int32} {lo kn fr mk mk' : Nat → Bool} {tw su kv wd : Nat → Int32} {w : Nat → Nat → Int32} {ms : Nat → Nat → Bool} {th mz : Nat} {bt mi : Nat → Nat} (h : Inv P n (pw, tn, un, lo, kn, tw, w, ms, mk) (th, pw, lf, mz, wd, lo, fr, mk', bt, su, kv, mi)) :
    (rf_sta P lo fr (0, wd, mk', mz, mi) n).1 = (dr_sta P ms w mk n).1 ∧ Inv P n (true, -1, un, lo, kn, tw, (dr_sta P ms w mk n).2.1, ms, (dr_sta P ms w mk n).2.2) (0, true, -1, (rf_sta P lo fr (0, wd, mk', mz, mi) n).2.2.2.1, (rf_sta P lo fr (0, wd, mk', mz, mi) n).2.1, lo, fr, (rf_sta P lo fr (0, wd, mk', mz, mi) n).2.2.1, bt, su, kv, (rf_sta P lo fr (0, wd, mk', mz, mi) n).2.2.2.2) := by
  obtain ⟨hp5, hn1, hn, hpw, hlf, hlo, hms, hfr, hmk, hw, hmi, hT, hon⟩ := h
  have hT : ∀ s, s < n → mk s = false → dr_cnt (ms s) P ≤ 2 → ∃ T, dr_Full P T ∧ Ag P (ms s) (w s) T := hT
  obtain ⟨h1, h2, h3, h4, h5, h6, h7⟩ := rl_sta (mz := mz) hp5 hms hw hmk hmi n (Nat.le_refl _)
  refine ⟨h1.symm, hp5, hn1, hn, rfl, fun _ => rfl, rfl, hms, hfr, h2, h3, h4, fun s hs hm hc => ?_, fun _ s hs hm => h5 s hs hm⟩
  have hm : (dr_sta P ms w mk n).2.2 s = false := hm
  show ∃ T, dr_Full P T ∧ Ag P (ms s) ((dr_sta P ms w mk n).2.1 s) T
  rcases h7 s with ⟨g1, g2⟩ | ⟨g1, g2⟩
  · rw [g2]
    exact hT s hs (g1.symm.trans hm) hc
  · rw [g2]
    exact ⟨_, dr_rn_full hp5 (w s), fun _ _ _ => rfl⟩
