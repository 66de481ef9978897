/-! write and rebuild keep what is kept -/
section KEEP2
variable {P n : Nat} {tn un lf : Int32} {lo kn fr mk mk' : Nat → Bool} {tw su kv wd : Nat → Int32} {w : Nat → Nat → Int32} {ms : Nat → Nat → Bool} {th mz : Nat} {bt mi : Nat → Nat}
theorem inv_write (h : Inv P n (true, tn, un, lo, kn, tw, w, ms, mk) (th, true, lf, mz, wd, lo, fr, mk', bt, su, kv, mi)) {q : Nat} (hq : q < n) {X : Bool × dr_X} {Y : Bool × rf_X3} (hR : Ro P q X Y) (hF : Fr P q wd Y.2.1) (hX : X.1 = true → ∃ T, dr_Full P T ∧ Ag P (ms q) X.2.1 T)
    (un' : Int32) (kn' : Nat → Bool) (tw' : Nat → Int32) (th' mz' : Nat) (bt' : Nat → Nat) (su' kv' : Nat → Int32) {mi' : Nat → Nat} (hmi' : ∀ t, mi' t < 13) :
    Inv P n (X.2.2.1, X.2.2.2, un', lo, kn', tw', va_up w q X.2.1, ms, va_up mk q (!X.1)) (th', Y.2.2.1, Y.2.2.2, mz', Y.2.1, lo, fr, va_up mk' q (!Y.1), bt', su', kv', mi') := by
  obtain ⟨hp5, hn1, hn, hpw, hlf, hlo, hms, hfr, hmk, hw, hmi, hT, hon⟩ := h
  have hmk9 : ∀ s, s < n → mk' s = mk s := hmk
  have hw9 : ∀ s, s < n → Wq P (w s) wd s := hw
  have hT9 : ∀ s, s < n → mk s = false → dr_cnt (ms s) P ≤ 2 → ∃ T, dr_Full P T ∧ Ag P (ms s) (w s) T := hT
  have hon9 : ∀ s, s < n → mk s = true → 0 < dr_cnt (ms s) P := hon rfl
  obtain ⟨e1, e2, e3, e4, e5⟩ := hR
  refine ⟨hp5, hn1, hn, ?_, fun hz => ?_, rfl, hms, hfr, fun s hs => ?_, fun s hs => ?_, hmi', fun s hs hm hc => ?_, fun hz s hs hm => ?_⟩
  · show Y.2.2.1 = X.2.2.1
    rw [e3, e4, e1]
  · have hz : X.2.2.1 = true := hz
    rw [e3] at hz
    exact (e5 hz).symm
  · show va_up mk' q (!Y.1) s = va_up mk q (!X.1) s
    by_cases e : s = q
    · rw [e, va_up_s, va_up_s, e1]
    · rw [va_up_n e, va_up_n e]; exact hmk9 s hs
  · show Wq P (va_up w q X.2.1 s) Y.2.1 s
    by_cases e : s = q
    · rw [e, va_up_s]; exact e2
    · rw [va_up_n e]; exact hF s e _ (hw9 s hs)
  · have hm : va_up mk q (!X.1) s = false := hm
    show ∃ T, dr_Full P T ∧ Ag P (ms s) (va_up w q X.2.1 s) T
    by_cases e : s = q
    · rw [e, va_up_s] at hm
      rw [e, va_up_s]
      exact hX (by simpa using hm)
    · rw [va_up_n e] at hm
      rw [va_up_n e]
      exact hT9 s hs hm hc
  · have hz : X.2.2.1 = true := hz
    have hm : va_up mk q (!X.1) s = true := hm
    by_cases e : s = q
    · rw [e, va_up_s, ← e3, hz] at hm
      cases hm
    · rw [va_up_n e] at hm
      exact hon9 s hs hm
theorem inv_rb0 (h : Inv P n (true, tn, un, lo, kn, tw, w, ms, mk) (th, true, lf, mz, wd, lo, fr, mk', bt, su, kv, mi)) {T : Nat → Nat → Int32} (hTT : ∀ s, s < n → mk s = false → dr_cnt (ms s) P ≤ 2 → dr_Full P (T s) ∧ Ag P (ms s) (w s) (T s)) :
    Rb P n lo mk T (0, w, ms, true, tn, kn, tw, un) (0, wd, fr, true, lf) ∧ rf_OK P lo fr mk' wd T 0 n := by
  obtain ⟨hp5, hn1, hn, hpw, hlf, hlo, hms, hfr, hmk, hw, hmi, hT, hon⟩ := h
  have hms9 : ∀ s, s < n → ∀ d, d < P → ms s d = rf_g lo fr s d := hms
  have hmk9 : ∀ s, s < n → mk' s = mk s := hmk
  have hw9 : ∀ s, s < n → Wq P (w s) wd s := hw
  refine ⟨⟨rfl, hw, hms, hfr, rfl, fun _ => hlf rfl, hTT, hon rfl⟩, fun s _ hs hm hc => ?_⟩
  obtain ⟨h1, h2⟩ := hTT s hs (by rw [← hmk9 s hs]; exact hm) (by rw [rl_gc hms9 hs]; exact hc)
  refine ⟨h1, fun c hc9 hg => ?_⟩
  rw [(hw9 s hs).c hc9]
  exact h2 c hc9 (by rw [hms9 s hs _ (Nat.div_lt_of_lt_mul hc9)]; exact hg)
theorem inv_rb1 (hp5 : dr_P P) (hn1 : 1 ≤ n) (hn : n < 5) (hmk : ∀ s, s < n → mk' s = mk s) {T : Nat → Nat → Int32} {y : dr_Z} {z : rf_Z} (h : Rb P n lo mk T y z) (th' mz' : Nat) (bt' : Nat → Nat) (su' kv' : Nat → Int32) {mi' : Nat → Nat} (hmi' : ∀ t, mi' t < 13) :
    Inv P n (y.2.2.2.1, y.2.2.2.2.1, y.2.2.2.2.2.2.2, lo, y.2.2.2.2.2.1, y.2.2.2.2.2.2.1, y.2.1, y.2.2.1, mk) (th', z.2.2.2.1, z.2.2.2.2, mz', z.2.1, lo, z.2.2.1, mk', bt', su', kv', mi') := by
  obtain ⟨h1, h2, h3, h4, h5, h6, h7, h8⟩ := h
  exact ⟨hp5, hn1, hn, h5, h6, rfl, h3, h4, hmk, h2, hmi', fun s hs hm hc => ⟨T s, h7 s hs hm hc⟩, fun _ => h8⟩
theorem inv_T (hT : ∀ s, s < n → mk s = false → dr_cnt (ms s) P ≤ 2 → ∃ T, dr_Full P T ∧ Ag P (ms s) (w s) T) : ∃ T : Nat → Nat → Int32, ∀ s, s < n → mk s = false → dr_cnt (ms s) P ≤ 2 → dr_Full P (T s) ∧ Ag P (ms s) (w s) (T s) := by
  have h : ∀ s, ∃ T : Nat → Int32, s < n → mk s = false → dr_cnt (ms s) P ≤ 2 → dr_Full P T ∧ Ag P (ms s) (w s) T := by
    intro s
    by_cases h1 : s < n ∧ mk s = false ∧ dr_cnt (ms s) P ≤ 2
    · obtain ⟨T, hT1⟩ := hT s h1.1 h1.2.1 h1.2.2
      exact ⟨T, fun _ _ _ => hT1⟩
    · exact ⟨fun _ => 0, fun a b c => absurd ⟨a, b, c⟩ h1⟩
  exact ⟨fun s => Classical.choose (h s), fun s => Classical.choose_spec (h s)⟩
/-- where a block lies -/
theorem rl_bq {P b : Nat} (hp : dr_P P) (hb : b < n * (P * (P - 2))) : b / (P * (P - 2)) < n ∧ b % (P * (P - 2)) % P = b % P ∧ b % (P * (P - 2)) / P = b / P % (P - 2) ∧ b % P < P ∧ b / P % (P - 2) < P - 2 := by
  have hl := hp.le
  refine ⟨Nat.div_lt_of_lt_mul (by rw [Nat.mul_comm]; exact hb), Nat.mod_mul_right_mod _ _ _, Nat.mod_mul_right_div_self _ _ _, Nat.mod_lt _ (by omega), Nat.mod_lt _ (by omega)⟩
end KEEP2
