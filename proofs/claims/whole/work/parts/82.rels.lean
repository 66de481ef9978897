/-! start, side by side -/
theorem rl_rn {P : Nat} (hp : dr_P P) {v wd : Nat → Int32} {q : Nat} (h : Wq P v wd q) : ∀ m, m ≤ P → Wq P (dr_rn P v m) (rf_rn P wd q m) q ∧ Fr P q wd (rf_rn P wd q m)
  | 0, _ => ⟨h, Fr.rf⟩
  | m + 1, hm => by
    have hl := hp.le
    obtain ⟨h1, h2⟩ := rl_rn hp h m (by omega)
    rw [dr_rn, rf_rn]
    unfold rf_rn1 dr_rn1
    have a1 : Wq P (va_up (dr_rn P v m) (m * P + (P - 2)) (dr_sum P (dr_rn P v m) m (P - 2) (P - 2))) (va_up (rf_rn P wd q m) (169 * q + 13 * m + (P - 2)) (rf_pa P (rf_rn P wd q m) q m (P - 2) (P - 2))) q := by
      rw [rl_pa hp h1 m (P - 2) (by omega)]
      exact h1.up (by omega) (by omega) (by omega) _
    refine ⟨?_, fun s hs v9 h9 => ((h2 s hs v9 h9).other (by omega) (by omega) (by omega) hs _).other (by omega) (by omega) (by omega) hs _⟩
    rw [rl_pa hp a1 m (P - 1) (by omega)]
    exact a1.up (by omega) (by omega) (by omega) _
theorem dr_rn_data {P : Nat} (hp : dr_P P) {v : Nat → Int32} {d k : Nat} (hk : k < P - 2) : ∀ m, dr_rn P v m (d * P + k) = v (d * P + k)
  | 0 => rfl
  | m + 1 => by
    have hl := hp.le
    rw [dr_rn]
    unfold dr_rn1
    rw [va_up_n (fun z => by have := (dr_pl_inj (by omega) (by omega) z).2; omega), va_up_n (fun z => by have := (dr_pl_inj (by omega) (by omega) z).2; omega)]
    exact dr_rn_data hp hk m
theorem dr_sum_data {P : Nat} {v v' : Nat → Int32} (h : ∀ d k, k < P - 2 → v' (d * P + k) = v (d * P + k)) (o row : Nat) : dr_sum P v' o row (P - 2) = dr_sum P v o row (P - 2) := dr_xs_congr (fun k hk => h _ k hk)
theorem dr_rn_par {P : Nat} (hp : dr_P P) {v : Nat → Int32} {o row : Nat} (hr : dr_row P row) : ∀ m, o < m → dr_rn P v m (o * P + row) = dr_sum P v o row (P - 2)
  | 0, h => absurd h (by omega)
  | m + 1, h => by
    have hl := hp.le
    rw [dr_rn]
    unfold dr_rn1
    have e1 : dr_sum P (dr_rn P v m) m (P - 2) (P - 2) = dr_sum P v m (P - 2) (P - 2) := dr_sum_data (fun d k hk => dr_rn_data hp hk m) _ _
    have e2 : dr_sum P (va_up (dr_rn P v m) (m * P + (P - 2)) (dr_sum P (dr_rn P v m) m (P - 2) (P - 2))) m (P - 1) (P - 2) = dr_sum P v m (P - 1) (P - 2) := dr_sum_data (fun d k hk => by rw [va_up_n (fun z => by have := (dr_pl_inj (by omega) (by omega) z).2; omega)]; exact dr_rn_data hp hk m) _ _
    rw [e2]
    by_cases e : o = m
    · subst e
      rcases hr with rfl | rfl
      · rw [va_up_n (fun z => by have := (dr_pl_inj (by omega) (by omega) z).2; omega), va_up_s, e1]
      · rw [va_up_s]
    · rw [va_up_n (fun z => e (dr_pl_inj (by rcases hr with rfl | rfl <;> omega) (by omega) z).1), va_up_n (fun z => e (dr_pl_inj (by rcases hr with rfl | rfl <;> omega) (by omega) z).1)]
      exact dr_rn_par hp hr m (by omega)
theorem dr_rn_full {P : Nat} (hp : dr_P P) (v : Nat → Int32) : dr_Full P (dr_rn P v P) := by
  intro o row ho hr
  rw [dr_rn_par hp hr P ho]
  exact (dr_sum_data (fun d k hk => dr_rn_data hp hk P) o row).symm
theorem rl_sta {P n : Nat} (hp : dr_P P) {lo fr : Nat → Bool} {ms : Nat → Nat → Bool} {w : Nat → Nat → Int32} {mk mk' : Nat → Bool} {wd : Nat → Int32} {mz : Nat} {mi : Nat → Nat} (hms : ∀ s, s < n → ∀ d, d < P → ms s d = rf_g lo fr s d) (hw : ∀ s, s < n → Wq P (w s) wd s) (hmk : ∀ s, s < n → mk' s = mk s) (hmi : ∀ t, mi t < 13) :
    ∀ i, i ≤ n → (dr_sta P ms w mk i).1 = (rf_sta P lo fr (0, wd, mk', mz, mi) i).1 ∧ (∀ s, s < n → (rf_sta P lo fr (0, wd, mk', mz, mi) i).2.2.1 s = (dr_sta P ms w mk i).2.2 s) ∧ (∀ s, s < n → Wq P ((dr_sta P ms w mk i).2.1 s) (rf_sta P lo fr (0, wd, mk', mz, mi) i).2.1 s) ∧ (∀ t, (rf_sta P lo fr (0, wd, mk', mz, mi) i).2.2.2.2 t < 13) ∧
      (∀ s, s < i → (dr_sta P ms w mk i).2.2 s = true → 0 < dr_cnt (ms s) P) ∧ (∀ s, i ≤ s → (dr_sta P ms w mk i).2.2 s = mk s ∧ (dr_sta P ms w mk i).2.1 s = w s) ∧
      (∀ s, ((dr_sta P ms w mk i).2.2 s = mk s ∧ (dr_sta P ms w mk i).2.1 s = w s) ∨ (dr_cnt (ms s) P = 0 ∧ (dr_sta P ms w mk i).2.1 s = dr_rn P (w s) P))
  | 0, _ => ⟨rfl, hmk, hw, hmi, fun s hs => absurd hs (by omega), fun _ _ => ⟨rfl, rfl⟩, fun _ => Or.inl ⟨rfl, rfl⟩⟩
  | i + 1, hi => by
    have hl := hp.le
    obtain ⟨h1, h2, h3, h4, h5, h6, h7⟩ := rl_sta (mz := mz) hp hms hw hmk hmi i (by omega)
    have hc := rl_gc (q := i) hms (by omega)
    generalize hy : dr_sta P ms w mk i = y at h1 h2 h3 h5 h6 h7
    generalize hz : rf_sta P lo fr (0, wd, mk', mz, mi) i = z at h1 h2 h3 h4
    have hmi' := rf_mi_lt (g := rf_g lo fr i) h4 P (by omega)
    rw [dr_sta, rf_sta, hy, hz]
    have hm := h2 i (by omega)
    by_cases hk : y.2.2 i = true
    · rw [if_pos (show z.2.2.1 i = true by rw [hm]; exact hk)]
      by_cases h0 : dr_cnt (ms i) P = 0
      · rw [if_pos (show (y.2.2 i && !(y.2.2 i && decide (0 < dr_cnt (ms i) P))) = true by rw [hk, h0]; rfl), if_pos (show dr_cnt (rf_g lo fr i) P = 0 by rw [← hc]; exact h0)]
        obtain ⟨g1, g2⟩ := rl_rn hp (h3 i (by omega)) P (Nat.le_refl _)
        refine ⟨by show y.1 + 1 = z.1 + 1; rw [h1], fun s hs => ?_, fun s hs => ?_, hmi', fun s hs ht => ?_, fun s hs => ?_, fun s => ?_⟩
        · show va_up z.2.2.1 i false s = va_up y.2.2 i false s
          by_cases e : s = i
          · rw [e, va_up_s, va_up_s]
          · rw [va_up_n e, va_up_n e]; exact h2 s hs
        · show Wq P (va_up y.2.1 i (dr_rn P (y.2.1 i) P) s) (rf_rn P z.2.1 i P) s
          by_cases e : s = i
          · rw [e, va_up_s]; exact g1
          · rw [va_up_n e]; exact g2 s e _ (h3 s hs)
        · have ht : va_up y.2.2 i false s = true := ht
          by_cases e : s = i
          · rw [e, va_up_s] at ht; cases ht
          · rw [va_up_n e] at ht; exact h5 s (by omega) ht
        · show va_up y.2.2 i false s = mk s ∧ va_up y.2.1 i (dr_rn P (y.2.1 i) P) s = w s
          rw [va_up_n (by omega), va_up_n (by omega)]
          exact h6 s (by omega)
        · show (va_up y.2.2 i false s = mk s ∧ va_up y.2.1 i (dr_rn P (y.2.1 i) P) s = w s) ∨ (dr_cnt (ms s) P = 0 ∧ va_up y.2.1 i (dr_rn P (y.2.1 i) P) s = dr_rn P (w s) P)
          by_cases e : s = i
          · rw [e, va_up_s, va_up_s, (h6 i (Nat.le_refl _)).2]
            exact Or.inr ⟨h0, rfl⟩
          · rw [va_up_n e, va_up_n e]
            exact h7 s
      · rw [if_neg (show ¬ (y.2.2 i && !(y.2.2 i && decide (0 < dr_cnt (ms i) P))) = true by rw [hk, decide_eq_true (show 0 < dr_cnt (ms i) P by omega)]; decide), if_neg (show ¬ dr_cnt (rf_g lo fr i) P = 0 by rw [← hc]; exact h0)]
        refine ⟨h1, h2, h3, hmi', fun s hs ht => ?_, fun s hs => h6 s (by omega), h7⟩
        by_cases e : s = i
        · rw [e]; omega
        · exact h5 s (by omega) ht
    · have hk' : y.2.2 i = false := by simpa using hk
      rw [if_neg (show ¬ (y.2.2 i && !(y.2.2 i && decide (0 < dr_cnt (ms i) P))) = true by rw [hk']; simp), if_neg (show ¬ z.2.2.1 i = true by rw [hm]; exact hk)]
      refine ⟨h1, h2, h3, h4, fun s hs ht => ?_, fun s hs => h6 s (by omega), h7⟩
      by_cases e : s = i
      · rw [e, hk'] at ht; cases ht
      · exact h5 s (by omega) ht
