/-! rebuild, side by side -/
section RELB
variable {P q : Nat} {lo ms fr : Nat → Bool} {tw T : Nat → Int32}
theorem rl_pdr (hp : dr_P P) {x : dr_X} {z : rf_X3} {d : Nat} (h0 : Ro P q (true, x) (true, z)) (hd : d < P) (ht : ∀ c, c < P * P → tw c = T c) : ∀ m, m ≤ P → Ro P q (dr_pdr P tw d x m) (rf_pdr z T P q d m) ∧ Fr P q z.1 (rf_pdr z T P q d m).2.1 ∧ (∀ d' k', k' < P → d' ≠ d → (dr_pdr P tw d x m).2.1 (d' * P + k') = x.1 (d' * P + k')) ∧ ((dr_pdr P tw d x m).1 = true → ∀ k', k' < m → (dr_pdr P tw d x m).2.1 (d * P + k') = T (d * P + k'))
  | 0, _ => ⟨h0, Fr.rf, fun _ _ _ _ => rfl, fun _ k' h => absurd h (by omega)⟩
  | m + 1, hm => by
    have hl := hp.le
    obtain ⟨h1, h2, h3, h4⟩ := rl_pdr hp h0 hd ht m (by omega)
    obtain ⟨e1, e2, e3, e4, e5⟩ := id h1
    rw [dr_pdr, rf_pdr]
    by_cases hk : (dr_pdr P tw d x m).1 = true
    · rw [if_pos hk, if_pos (by rw [← e1]; exact hk), ht _ (dr_pl hd (by omega))]
      obtain ⟨g1, g2⟩ := rl_put (v := T (d * P + m)) (by omega) e2 (by rw [e3]; exact hk) (e5 hk) hd (show m < P by omega)
      refine ⟨g1, h2.tr g2, fun d' k' hk' hne => ?_, fun htt k' hk' => ?_⟩
      · rw [← h3 d' k' hk' hne]
        unfold dr_put
        split
        · rfl
        · show va_up _ _ _ _ = _
          rw [va_up_n (fun z9 => hne (dr_pl_inj hk' (by omega) z9).1)]
      · unfold dr_put at htt ⊢
        by_cases h9 : (dr_pdr P tw d x m).2.2.2 = 0
        · rw [if_pos h9] at htt; cases htt
        · rw [if_neg h9]
          show va_up _ _ _ _ = _
          by_cases e : k' = m
          · rw [e, va_up_s]
          · rw [va_up_n (fun z9 => e (dr_pl_inj (by omega) (by omega) z9).2)]
            exact h4 hk k' (by omega)
    · rw [if_neg hk, if_neg (by rw [← e1]; exact hk)]
      exact ⟨h1, h2, h3, fun z9 => absurd z9 hk⟩
theorem rl_rbl (hp : dr_P P) {x : dr_X} {z : rf_X3} (h0 : Ro P q (true, x) (true, z)) (ht : ∀ c, c < P * P → tw c = T c) (hf : ∀ d, d < P → (ms d && !lo d) = fr (4 * d + q)) : ∀ m, m ≤ P → Ro P q (dr_rbl P lo ms tw x m) (rf_rbl z T P q fr m) ∧ Fr P q z.1 (rf_rbl z T P q fr m).2.1 ∧ (∀ d' k', k' < P → d' < P → (ms d' && !lo d') = false → (dr_rbl P lo ms tw x m).2.1 (d' * P + k') = x.1 (d' * P + k')) ∧ ((dr_rbl P lo ms tw x m).1 = true → ∀ d' k', k' < P → d' < m → (ms d' && !lo d') = true → (dr_rbl P lo ms tw x m).2.1 (d' * P + k') = T (d' * P + k'))
  | 0, _ => ⟨h0, Fr.rf, fun _ _ _ _ _ => rfl, fun _ d' _ _ h => absurd h (by omega)⟩
  | m + 1, hm => by
    have hl := hp.le
    obtain ⟨h1, h2, h3, h4⟩ := rl_rbl hp h0 ht hf m (by omega)
    obtain ⟨e1, e2, e3, e4, e5⟩ := id h1
    rw [dr_rbl, rf_rbl]
    by_cases hk : (dr_rbl P lo ms tw x m).1 = true
    · have hkb : (rf_rbl z T P q fr m).1 = true := by rw [← e1]; exact hk
      rw [if_pos hk, if_pos hkb]
      by_cases hn : (ms m && !lo m) = true
      · rw [if_pos hn, if_pos (by rw [← hf m (by omega)]; exact hn)]
        have hr0 : Ro P q (true, (dr_rbl P lo ms tw x m).2) (true, (rf_rbl z T P q fr m).2) := ⟨rfl, e2, by show _ = true; rw [e3]; exact hk, by show _ = true; rw [e4]; exact hkb, fun _ => e5 hk⟩
        obtain ⟨g1, g2, g3, g4⟩ := rl_pdr hp hr0 (show m < P by omega) ht P (Nat.le_refl _)
        refine ⟨g1, h2.tr g2, fun d' k' hk' hd' hnn => ?_, fun htt d' k' hk' hd' hnn => ?_⟩
        · rw [g3 d' k' hk' (fun e => by rw [e, hn] at hnn; cases hnn)]
          exact h3 d' k' hk' hd' hnn
        · by_cases e : d' = m
          · rw [e]; exact g4 htt k' hk'
          · rw [g3 d' k' hk' e]; exact h4 hk d' k' hk' (by omega) hnn
      · rw [if_neg hn, if_neg (by rw [← hf m (by omega)]; exact hn)]
        refine ⟨h1, h2, h3, fun htt d' k' hk' hd' hnn => ?_⟩
        by_cases e : d' = m
        · rw [e] at hnn; exact absurd hnn hn
        · exact h4 htt d' k' hk' (by omega) hnn
    · rw [if_neg hk, if_neg (by rw [← e1]; exact hk)]
      exact ⟨h1, h2, h3, fun z9 => absurd z9 hk⟩
theorem dr_mf_at : ∀ m d, dr_mf lo ms m d = if d < m then (ms d && lo d) else ms d
  | 0, d => by rw [if_neg (by omega)]; rfl
  | m + 1, d => by
    have e0 : dr_mf lo ms m m = ms m := by rw [dr_mf_at m m, if_neg (Nat.lt_irrefl m)]
    rw [dr_mf, e0]
    by_cases h : (ms m && !lo m) = true
    · rw [if_pos h]
      by_cases e : d = m
      · subst e
        rw [va_up_s, if_pos (by omega)]
        revert h
        cases ms d <;> cases lo d <;> decide
      · rw [va_up_n e, dr_mf_at m d]
        by_cases h2 : d < m
        · rw [if_pos h2, if_pos (by omega)]
        · rw [if_neg h2, if_neg (by omega)]
    · rw [if_neg h, dr_mf_at m d]
      by_cases e : d = m
      · subst e
        rw [if_neg (by omega), if_pos (by omega)]
        revert h
        cases ms d <;> cases lo d <;> decide
      · by_cases h2 : d < m
        · rw [if_pos h2, if_pos (by omega)]
        · rw [if_neg h2, if_neg (by omega)]
theorem rl_fc_at {s : Nat} (hs : s < 4) : ∀ m d s', s' < 4 → rf_fc fr s m (4 * d + s') = if d < m ∧ s' = s then false else fr (4 * d + s')
  | 0, d, s', _ => by rw [if_neg (by omega)]; rfl
  | m + 1, d, s', hs' => by
    rw [rf_fc]
    by_cases e : 4 * d + s' = 4 * m + s
    · rw [e, va_up_s, if_pos (by omega)]
    · rw [va_up_n e, rl_fc_at hs m d s' hs']
      by_cases h2 : d < m ∧ s' = s
      · rw [if_pos h2, if_pos (by omega)]
      · rw [if_neg h2, if_neg (by omega)]
end RELB
/-- what holds of the two sides while stripes are rebuilt -/
def Rb (P n : Nat) (lo mk : Nat → Bool) (T : Nat → Nat → Int32) (y : dr_Z) (z : rf_Z) : Prop :=
  y.1 = z.1 ∧ (∀ s, s < n → Wq P (y.2.1 s) z.2.1 s) ∧ (∀ s, s < n → ∀ d, d < P → y.2.2.1 s d = rf_g lo z.2.2.1 s d) ∧ (∀ d, d < P → lo d = true → ∀ s, s < n → z.2.2.1 (4 * d + s) = false) ∧ z.2.2.2.1 = y.2.2.2.1 ∧ (y.2.2.2.1 = true → z.2.2.2.2 = y.2.2.2.2.1) ∧
  (∀ s, s < n → mk s = false → dr_cnt (y.2.2.1 s) P ≤ 2 → dr_Full P (T s) ∧ Ag P (y.2.2.1 s) (y.2.1 s) (T s)) ∧ (∀ s, s < n → mk s = true → 0 < dr_cnt (y.2.2.1 s) P)
set_option maxHeartbeats 1000000 in
theorem rl_rb1 {P n i : Nat} (hp : dr_P P) (hn : n ≤ 4) (hi : i < n) {lo mk mk' : Nat → Bool} {T : Nat → Nat → Int32} (hmk : mk' i = mk i) {y : dr_Z} {z : rf_Z} (h : Rb P n lo mk T y z) (hpw : y.2.2.2.1 = true) :
    (dr_rb1 P lo mk i y).1 = (rf_rb1 T P lo mk' i z).1 ∧ Rb P n lo mk T (dr_rb1 P lo mk i y).2 (rf_rb1 T P lo mk' i z).2 ∧ ((dr_rb1 P lo mk i y).1 = true → (dr_rb1 P lo mk i y).2.2.2.2.1 = true) := by
  have hl := hp.le
  obtain ⟨h1, h2, h3, h4, h5, h6, h7, h8⟩ := id h
  have hfr : ∀ d, d < P → (y.2.2.1 i d && !lo d) = z.2.2.1 (4 * d + i) := by
    intro d hd
    rw [h3 i hi d hd]
    unfold rf_g
    cases hlo : lo d with
    | true => rw [h4 d hd hlo i hi]; rfl
    | false => simp
  have hany : dr_any (fun d => y.2.2.1 i d && !lo d) P = dr_any (fun d => z.2.2.1 (4 * d + i)) P := by
    cases hb : dr_any (fun d => z.2.2.1 (4 * d + i)) P with
    | false =>
      rw [dr_any_false] at hb ⊢
      intro k hk
      show (y.2.2.1 i k && !lo k) = false
      rw [hfr k hk]
      exact hb k hk
    | true =>
      cases ha : dr_any (fun d => y.2.2.1 i d && !lo d) P with
      | true => rfl
      | false =>
        rw [dr_any_false] at ha
        have : dr_any (fun d => z.2.2.1 (4 * d + i)) P = false := by
          rw [dr_any_false]
          intro k hk
          show z.2.2.1 (4 * k + i) = false
          rw [← hfr k hk]
          exact ha k hk
        rw [this] at hb
        cases hb
  have hc : dr_cnt (y.2.2.1 i) P = dr_cnt (rf_g lo z.2.2.1 i) P := dr_cnt_congr (fun d hd => h3 i hi d hd)
  unfold dr_rb1 rf_rb1
  rw [hany, hc, hmk]
  by_cases hif : (dr_any (fun d => z.2.2.1 (4 * d + i)) P && (!mk i && decide (dr_cnt (rf_g lo z.2.2.1 i) P ≤ 2))) = true
  · rw [if_pos hif, if_pos hif]
    have hmi : mk i = false := by
      cases hm : mk i with
      | false => rfl
      | true => rw [hm] at hif; simp at hif
    have hle : dr_cnt (y.2.2.1 i) P ≤ 2 := by
      rw [hc]
      rw [Bool.and_eq_true, Bool.and_eq_true] at hif
      exact of_decide_eq_true hif.2.2
    obtain ⟨hT, hA⟩ := h7 i hi hmi hle
    have htold := dr_told hp hT hA hle y.2.2.2.2.2.1 y.2.2.2.2.2.2.1
    have hr0 : Ro P i (true, (y.2.1 i, y.2.2.2.1, y.2.2.2.2.1)) (true, (z.2.1, true, z.2.2.2.2)) := ⟨rfl, h2 i hi, hpw, rfl, fun _ => (h6 hpw).symm⟩
    obtain ⟨g1, g2, g3, g4⟩ := rl_rbl hp hr0 htold hfr P (Nat.le_refl _)
    have gr : Ro P i (dr_rbr P lo i y) (rf_rbr T P i z) := g1
    have gf : Fr P i z.2.1 (rf_rbr T P i z).2.1 := g2
    have gk : ∀ d' k', k' < P → d' < P → (y.2.2.1 i d' && !lo d') = false → (dr_rbr P lo i y).2.1 (d' * P + k') = y.2.1 i (d' * P + k') := g3
    have gt : (dr_rbr P lo i y).1 = true → ∀ d' k', k' < P → d' < P → (y.2.2.1 i d' && !lo d') = true → (dr_rbr P lo i y).2.1 (d' * P + k') = T i (d' * P + k') := g4
    clear g1 g2 g3 g4
    generalize dr_rbr P lo i y = a at gr gk gt ⊢
    generalize rf_rbr T P i z = b at gr gf ⊢
    obtain ⟨e1, e2, e3, e4, e5⟩ := gr
    have hcd : ∀ c, c < P * P → c / P < P ∧ c % P < P ∧ c / P * P + c % P = c := fun c hc9 => ⟨Nat.div_lt_of_lt_mul hc9, Nat.mod_lt _ (by omega), by rw [Nat.mul_comm]; exact Nat.div_add_mod c P⟩
    have hW : ∀ s, s < n → Wq P (va_up y.2.1 i a.2.1 s) b.2.1 s := by
      intro s hs
      by_cases e : s = i
      · rw [e, va_up_s]; exact e2
      · rw [va_up_n e]; exact gf s e _ (h2 s hs)
    refine ⟨e1, ?_, fun ht => by show a.2.2.1 = true; rw [e3]; exact ht⟩
    by_cases ht : a.1 = true
    · have htb : b.1 = true := by rw [← e1]; exact ht
      rw [if_pos ht, if_pos htb, if_pos ht, if_pos htb]
      have hmf : ∀ d, d < P → dr_mf lo (y.2.2.1 i) P d = lo d := by
        intro d hd
        rw [dr_mf_at, if_pos hd, h3 i hi d hd]
        unfold rf_g
        cases lo d <;> simp
      have hlt : ∀ d, d < P → lo d = true → y.2.2.1 i d = true := fun d hd hlo => by rw [h3 i hi d hd]; unfold rf_g; rw [hlo]; rfl
      refine ⟨by show y.1 + 1 = z.1 + 1; rw [h1], hW, fun s hs d hd => ?_, fun d hd hlo s hs => ?_, by show b.2.2.1 = a.2.2.1; rw [e3, e4, e1], fun _ => (e5 ht).symm, fun s hs hm hcn => ?_, fun s hs hm => ?_⟩
      · show va_up y.2.2.1 i (dr_mf lo (y.2.2.1 i) P) s d = rf_g lo (rf_fc z.2.2.1 i P) s d
        unfold rf_g
        rw [rl_fc_at (by omega) P d s (by omega)]
        by_cases e : s = i
        · rw [e, va_up_s, hmf d hd, if_pos ⟨hd, rfl⟩]; simp
        · rw [va_up_n e, if_neg (fun z9 => e z9.2), h3 s hs d hd]; rfl
      · show rf_fc z.2.2.1 i P (4 * d + s) = false
        rw [rl_fc_at (by omega) P d s (by omega)]
        split
        · rfl
        · exact h4 d hd hlo s hs
      · have hcn : dr_cnt (va_up y.2.2.1 i (dr_mf lo (y.2.2.1 i) P) s) P ≤ 2 := hcn
        show dr_Full P (T s) ∧ Ag P (va_up y.2.2.1 i (dr_mf lo (y.2.2.1 i) P) s) (va_up y.2.1 i a.2.1 s) (T s)
        by_cases e : s = i
        · subst e
          rw [va_up_s, va_up_s]
          refine ⟨hT, fun c hc9 hmm => ?_⟩
          obtain ⟨k1, k2, k3⟩ := hcd c hc9
          rw [hmf _ k1] at hmm
          cases hq : y.2.2.1 s (c / P) with
          | true =>
            have := gt ht (c / P) (c % P) k2 k1 (by rw [hq, hmm]; rfl)
            rw [k3] at this
            exact this
          | false =>
            have := gk (c / P) (c % P) k2 k1 (by rw [hq]; rfl)
            rw [k3] at this
            rw [this]
            exact hA c hc9 hq
        · rw [va_up_n e] at hcn
          rw [va_up_n e, va_up_n e]
          exact h7 s hs hm hcn
      · show 0 < dr_cnt (va_up y.2.2.1 i (dr_mf lo (y.2.2.1 i) P) s) P
        by_cases e : s = i
        · rw [e, hmi] at hm; cases hm
        · rw [va_up_n e]; exact h8 s hs hm
    · have htb : ¬ b.1 = true := by rw [← e1]; exact ht
      rw [if_neg ht, if_neg htb, if_neg ht, if_neg htb]
      refine ⟨h1, hW, fun s hs d hd => ?_, h4, by show b.2.2.1 = a.2.2.1; rw [e3, e4, e1], fun z9 => ?_, fun s hs hm hcn => ?_, fun s hs hm => ?_⟩
      · show va_up y.2.2.1 i (y.2.2.1 i) s d = rf_g lo z.2.2.1 s d
        rw [va_up_id]; exact h3 s hs d hd
      · have z9 : a.2.2.1 = true := z9
        rw [e3] at z9
        exact absurd z9 ht
      · have hcn : dr_cnt (va_up y.2.2.1 i (y.2.2.1 i) s) P ≤ 2 := hcn
        rw [va_up_id] at hcn
        show dr_Full P (T s) ∧ Ag P (va_up y.2.2.1 i (y.2.2.1 i) s) (va_up y.2.1 i a.2.1 s) (T s)
        rw [va_up_id]
        by_cases e : s = i
        · subst e
          rw [va_up_s]
          refine ⟨hT, fun c hc9 hmm => ?_⟩
          obtain ⟨k1, k2, k3⟩ := hcd c hc9
          have := gk (c / P) (c % P) k2 k1 (by rw [hmm]; rfl)
          rw [k3] at this
          rw [this]
          exact hA c hc9 hmm
        · rw [va_up_n e]
          exact h7 s hs hm hcn
      · show 0 < dr_cnt (va_up y.2.2.1 i (y.2.2.1 i) s) P
        rw [va_up_id]; exact h8 s hs hm
  · rw [if_neg hif, if_neg hif]
    exact ⟨rfl, h, fun _ => hpw⟩
theorem rl_rb {P n : Nat} (hp : dr_P P) (hn : n ≤ 4) {lo mk mk' : Nat → Bool} {T : Nat → Nat → Int32} {x : Int32} (hmk : ∀ s, s < n → mk' s = mk s) {y : dr_Z} {z : rf_Z} (h : Rb P n lo mk T y z) (hpw : y.2.2.2.1 = true) :
    ∀ i, i ≤ n → (dr_rb P lo mk x y i).1 = (rf_rb T P lo mk' x z i).1 ∧ Rb P n lo mk T (dr_rb P lo mk x y i).2 (rf_rb T P lo mk' x z i).2 ∧ ((dr_rb P lo mk x y i).1 = true → (dr_rb P lo mk x y i).2.2.2.2.1 = true)
  | 0, _ => ⟨rfl, h, fun _ => hpw⟩
  | i + 1, hi => by
    obtain ⟨h1, h2, h3⟩ := rl_rb hp hn hmk h hpw (x := x) i (by omega)
    rw [dr_rb, rf_rb, ← h1, ← h2.1]
    by_cases hc : (dr_rb P lo mk x y i).1 = true ∧ ¬ x ≤ nI (dr_rb P lo mk x y i).2.1
    · rw [if_pos hc, if_pos hc]
      exact rl_rb1 hp hn (by omega) (hmk i (by omega)) h2 (h3 hc.1)
    · rw [if_neg hc, if_neg hc]
      exact ⟨rfl, h2, fun z9 => by cases z9⟩
