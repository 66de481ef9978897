/-! class and reference side by side: the same words -/
def Wq (P : Nat) (v : Nat → Int32) (wd : Nat → Int32) (q : Nat) : Prop := ∀ d, d < P → ∀ k, k < P → v (d * P + k) = wd (169 * q + 13 * d + k)
theorem Wq.c {P : Nat} {v wd : Nat → Int32} {q : Nat} (h : Wq P v wd q) {c : Nat} (hc : c < P * P) : rf_w P wd q c = v c := by
  have hP : 0 < P := by rcases Nat.eq_zero_or_pos P with rfl | h9; omega; exact h9
  have e : c / P * P + c % P = c := by rw [Nat.mul_comm]; exact Nat.div_add_mod c P
  have h1 := h (c / P) (Nat.div_lt_of_lt_mul hc) (c % P) (Nat.mod_lt _ hP)
  rw [e] at h1
  exact h1.symm
theorem ix_inj {s d k s' d' k' : Nat} (hd : d < 13) (hk : k < 13) (hd' : d' < 13) (hk' : k' < 13) (h : 169 * s + 13 * d + k = 169 * s' + 13 * d' + k') : s = s' ∧ d = d' ∧ k = k' := by omega
theorem Wq.up {P : Nat} {v wd : Nat → Int32} {q d k : Nat} (h : Wq P v wd q) (hP : P ≤ 13) (hd : d < P) (hk : k < P) (x : Int32) : Wq P (va_up v (d * P + k) x) (va_up wd (169 * q + 13 * d + k) x) q := by
  intro d' hd' k' hk'
  by_cases e : d' = d ∧ k' = k
  · obtain ⟨rfl, rfl⟩ := e
    rw [va_up_s, va_up_s]
  · rw [va_up_n (fun z => e (dr_pl_inj hk' hk z)), va_up_n (fun z => e (by have := ix_inj (by omega) (by omega) (by omega) (by omega) z; exact this.2))]
    exact h d' hd' k' hk'
theorem Wq.other {P : Nat} {v wd : Nat → Int32} {s q d k : Nat} (h : Wq P v wd s) (hP : P ≤ 13) (hd : d < P) (hk : k < P) (hs : s ≠ q) (x : Int32) : Wq P v (va_up wd (169 * q + 13 * d + k) x) s := by
  intro d' hd' k' hk'
  rw [va_up_n (fun z => hs (ix_inj (by omega) (by omega) (by omega) (by omega) z).1)]
  exact h d' hd' k' hk'
/-- count, drive -/
theorem rl_dv {P n : Nat} {lo fr : Nat → Bool} {ms : Nat → Nat → Bool} (hn : 1 ≤ n) (hms : ∀ s, s < n → ∀ d, d < P → ms s d = rf_g lo fr s d) {d : Nat} (hd : d < P) : (if lo d = true then 1 else if dr_any (fun s9 => ms s9 d) n = true then 2 else 0) = rf_dv lo fr n d := by
  unfold rf_dv
  by_cases hl : lo d = true
  · rw [if_pos hl, if_pos hl]
  · rw [if_neg hl, if_neg hl]
    have e : dr_any (fun s9 => ms s9 d) n = dr_any (fun s => fr (4 * d + s)) n := by
      cases h1 : dr_any (fun s => fr (4 * d + s)) n with
      | false =>
        rw [dr_any_false] at h1 ⊢
        intro k hk
        show ms k d = false
        rw [hms k hk d hd]
        unfold rf_g
        rw [h1 k hk]
        simpa using hl
      | true =>
        cases h2 : dr_any (fun s9 => ms s9 d) n with
        | true => rfl
        | false =>
          rw [dr_any_false] at h2
          have h3 : dr_any (fun s => fr (4 * d + s)) n = false := by
            rw [dr_any_false]
            intro k hk
            have h4 : ms k d = false := h2 k hk
            rw [hms k hk d hd] at h4
            unfold rf_g at h4
            rw [Bool.or_eq_false_iff] at h4
            exact h4.2
          rw [h3] at h1
          cases h1
    rw [e]
theorem rl_cnt {P n : Nat} {lo fr : Nat → Bool} {ms : Nat → Nat → Bool} (hn : 1 ≤ n) (hms : ∀ s, s < n → ∀ d, d < P → ms s d = rf_g lo fr s d) : dr_cnt (fun d => dr_any (fun s9 => ms s9 d) n) P = dr_cnt (fun d => decide (0 < rf_dv lo fr n d)) P := by
  refine dr_cnt_congr (fun d hd => ?_)
  show dr_any (fun s9 => ms s9 d) n = decide (0 < rf_dv lo fr n d)
  rw [← rl_dv hn hms hd]
  by_cases hl : lo d = true
  · rw [if_pos hl, dr_any_true (i := 0) (by omega) (by show ms 0 d = true; rw [hms 0 (by omega) d hd]; unfold rf_g; rw [hl]; rfl)]
    rfl
  · rw [if_neg hl]
    cases h : dr_any (fun s9 => ms s9 d) n <;> rfl
theorem rl_bk (n P : Nat) : n * (P - 2) * P = n * (P * (P - 2)) := by rw [Nat.mul_assoc, Nat.mul_comm (P - 2) P]
theorem rl_gc {P n q : Nat} {lo fr : Nat → Bool} {ms : Nat → Nat → Bool} (hms : ∀ s, s < n → ∀ d, d < P → ms s d = rf_g lo fr s d) (hq : q < n) : dr_cnt (ms q) P = dr_cnt (rf_g lo fr q) P := dr_cnt_congr (fun d hd => hms q hq d hd)
/-- agree -/
theorem rl_wh {P : Nat} (hp : dr_P P) {ms g : Nat → Bool} (hg : ∀ d, d < P → ms d = g d) {o row : Nat} (ho : o < P) : ∀ n, rf_wh P g o row n = (!(dr_any (fun k => ms (dr_dd P o k row)) n) && !(ms o))
  | 0 => by simp [rf_wh, dr_any, hg o ho]
  | n + 1 => by
    rw [rf_wh, rl_wh hp hg ho n, dr_any, hg _ (dr_dd_lt hp (o := o) (k := n) (row := row))]
    cases dr_any (fun k => ms (dr_dd P o k row)) n <;> cases ms o <;> cases g (dr_dd P o n row) <;> rfl
theorem rl_pa {P : Nat} (hp : dr_P P) {v wd : Nat → Int32} {q : Nat} (h : Wq P v wd q) (o row : Nat) : ∀ {n : Nat}, n ≤ P → rf_pa P wd q o row n = dr_sum P v o row n := by
  intro n hn
  unfold rf_pa dr_sum
  refine dr_xs_congr (fun k hk => ?_)
  exact (h _ (dr_dd_lt hp) k (by omega)).symm
theorem rl_ag {P : Nat} (hp : dr_P P) {ms g : Nat → Bool} (hg : ∀ d, d < P → ms d = g d) {v wd : Nat → Int32} {q : Nat} (h : Wq P v wd q) {o row : Nat} (ho : o < P) (hr : row < P) :
    (rf_wh P g o row (P - 2) && decide (wd (169 * q + 13 * o + row) = rf_pa P wd q o row (P - 2))) = dr_ag P ms v o row := by
  rw [rl_wh hp hg ho, rl_pa hp h o row (by omega), ← h o ho row hr]
  rfl
theorem rl_agn {P : Nat} (hp : dr_P P) {ms g : Nat → Bool} (hg : ∀ d, d < P → ms d = g d) {v wd : Nat → Int32} {q : Nat} (h : Wq P v wd q) : rf_agn P g wd q (2 * P) = dr_agn P ms v P := by
  have hl := hp.le
  have hA : ∀ n, n ≤ P → rf_agn P g wd q n = dr_cnt (fun d => dr_ag P ms v d (P - 2)) n := by
    intro n
    induction n with
    | zero => intro _; rfl
    | succ n ih =>
      intro hn
      rw [rf_agn, ih (by omega), dr_cnt]
      congr 1
      unfold rf_ag1
      have e1 : n % P = n := Nat.mod_eq_of_lt (by omega)
      have e2 : rf_row P n = P - 2 := by unfold rf_row; rw [if_pos (by omega)]
      rw [e1, e2, rl_ag hp hg h (by omega) (by omega)]
  have hB : ∀ n, n ≤ P → rf_agn P g wd q (P + n) = dr_cnt (fun d => dr_ag P ms v d (P - 2)) P + dr_cnt (fun d => dr_ag P ms v d (P - 1)) n := by
    intro n
    induction n with
    | zero => intro _; rw [Nat.add_zero, hA P (Nat.le_refl _)]; rfl
    | succ n ih =>
      intro hn
      rw [← Nat.add_assoc, rf_agn, ih (by omega), dr_cnt, Nat.add_assoc]
      congr 2
      unfold rf_ag1
      have e1 : (P + n) % P = n := by rw [Nat.add_mod_left]; exact Nat.mod_eq_of_lt (by omega)
      have e2 : rf_row P (P + n) = P - 1 := by unfold rf_row; rw [if_neg (by omega)]
      rw [e1, e2, rl_ag hp hg h (by omega) (by omega)]
  have hC : ∀ n, dr_agn P ms v n = dr_cnt (fun d => dr_ag P ms v d (P - 2)) n + dr_cnt (fun d => dr_ag P ms v d (P - 1)) n := by
    intro n
    induction n with
    | zero => rfl
    | succ n ih => rw [dr_agn, ih, dr_cnt, dr_cnt]; omega
  rw [show 2 * P = P + P by omega, hB P (Nat.le_refl _), hC]
/-- lose -/
theorem rl_zr {P : Nat} (hP : P ≤ 13) {v wd : Nat → Int32} {q d : Nat} (h : Wq P v wd q) (hd : d < P) : ∀ {n : Nat}, n ≤ P → Wq P (dr_zr P v d n) (rf_lz wd q d n) q
  | 0, _ => h
  | n + 1, hn => (rl_zr hP h hd (n := n) (by omega)).up hP hd (by omega) 0
theorem rl_zr_o {P : Nat} (hP : P ≤ 13) {v wd : Nat → Int32} {s q d : Nat} (h : Wq P v wd s) (hd : d < P) (hs : s ≠ q) : ∀ {n : Nat}, n ≤ P → Wq P v (rf_lz wd q d n) s
  | 0, _ => h
  | n + 1, hn => (rl_zr_o hP h hd hs (n := n) (by omega)).other hP hd (by omega) hs 0
theorem dr_loW_at {P : Nat} {w : Nat → Nat → Int32} {d : Nat} : ∀ {n s : Nat}, dr_loW P w d n s = if s < n then dr_zr P (w s) d P else w s
  | 0, s => by rw [if_neg (by omega)]; rfl
  | n + 1, s => by
    rw [dr_loW]
    by_cases e : s = n
    · subst e
      rw [va_up_s, dr_loW_at, if_neg (by omega), if_pos (by omega)]
    · rw [va_up_n e, dr_loW_at]
      by_cases h : s < n
      · rw [if_pos h, if_pos (by omega)]
      · rw [if_neg h, if_neg (by omega)]
theorem dr_loM_at {ms : Nat → Nat → Bool} {d : Nat} : ∀ {n s : Nat}, dr_loM ms d n s = if s < n then va_up (ms s) d true else ms s
  | 0, s => by rw [if_neg (by omega)]; rfl
  | n + 1, s => by
    rw [dr_loM]
    by_cases e : s = n
    · subst e
      rw [va_up_s, dr_loM_at, if_neg (by omega), if_pos (by omega)]
    · rw [va_up_n e, dr_loM_at]
      by_cases h : s < n
      · rw [if_pos h, if_pos (by omega)]
      · rw [if_neg h, if_neg (by omega)]
theorem rl_lW {P n : Nat} (hP : P ≤ 13) {w : Nat → Nat → Int32} {wd : Nat → Int32} (h : ∀ s, s < n → Wq P (w s) wd s) {d : Nat} (hd : d < P) : ∀ m, m ≤ n → ∀ s, s < n → Wq P (if s < m then dr_zr P (w s) d P else w s) (rf_lW P wd d m) s
  | 0, _, s, hs => by rw [if_neg (by omega)]; exact h s hs
  | m + 1, hm, s, hs => by
    rw [rf_lW]
    have ih := rl_lW hP h hd m (by omega) s hs
    by_cases e : s = m
    · subst e
      rw [if_neg (by omega)] at ih
      rw [if_pos (by omega)]
      exact rl_zr hP ih hd (Nat.le_refl _)
    · have e2 : (s < m + 1) ↔ s < m := by omega
      by_cases h2 : s < m
      · rw [if_pos h2] at ih
        rw [if_pos (by omega)]
        exact rl_zr_o hP ih hd e (Nat.le_refl _)
      · rw [if_neg h2] at ih
        rw [if_neg (by omega)]
        exact rl_zr_o hP ih hd e (Nat.le_refl _)
theorem rf_lF_at {fr : Nat → Bool} {d : Nat} {x : Bool} : ∀ {n : Nat}, n ≤ 4 → ∀ d' s, s < 4 → rf_lF fr d x n (4 * d' + s) = if d' = d ∧ s < n then x else fr (4 * d' + s)
  | 0, _, d', s, hs => by rw [if_neg (by omega)]; rfl
  | n + 1, hn, d', s, hs => by
    rw [rf_lF]
    by_cases e : 4 * d' + s = 4 * d + n
    · rw [e, va_up_s, if_pos (by omega)]
    · rw [va_up_n e, rf_lF_at (n := n) (by omega) d' s hs]
      by_cases h : d' = d ∧ s < n
      · rw [if_pos h, if_pos (by omega)]
      · rw [if_neg h, if_neg (by omega)]
