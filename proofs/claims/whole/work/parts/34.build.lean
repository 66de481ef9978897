/-! the reference's system of parities: which drives miss, the rows, that they have one solution -/
def rf_mi (g : Nat → Bool) (mi : Nat → Nat) : Nat → (Nat → Nat)
  | 0 => mi
  | d + 1 => if g d = true then va_up (rf_mi g mi d) (dr_cnt g d) d else rf_mi g mi d
/-- the first place below n at which d stands, or n -/
def rf_ix (mi : Nat → Nat) (d : Nat) : Nat → Nat
  | 0 => 0
  | n + 1 => if rf_ix mi d n < n then rf_ix mi d n else if mi n = d then n else n + 1
theorem rf_ix_spec (mi : Nat → Nat) (d : Nat) : ∀ n, rf_ix mi d n ≤ n ∧ (∀ j, j < rf_ix mi d n → mi j ≠ d) ∧ (rf_ix mi d n < n → mi (rf_ix mi d n) = d)
  | 0 => ⟨Nat.le_refl _, fun j hj => absurd hj (Nat.not_lt_zero _), fun h => absurd h (Nat.not_lt_zero _)⟩
  | n + 1 => by
    obtain ⟨h1, h2, h3⟩ := rf_ix_spec mi d n
    rw [rf_ix]
    by_cases g : rf_ix mi d n < n
    · rw [if_pos g]; exact ⟨by omega, h2, fun _ => h3 g⟩
    · have e : rf_ix mi d n = n := by omega
      rw [if_neg g]
      rw [e] at h2
      by_cases g2 : mi n = d
      · rw [if_pos g2]; exact ⟨by omega, h2, fun _ => g2⟩
      · rw [if_neg g2]
        refine ⟨Nat.le_refl _, fun j hj => ?_, fun h => absurd h (Nat.lt_irrefl _)⟩
        by_cases z : j = n
        · rw [z]; exact g2
        · exact h2 j (by omega)
theorem rf_ix_is {mi : Nat → Nat} {d n j : Nat} (hj : j < n) (hd : mi j = d) (hn : ∀ i, i < j → mi i ≠ d) : rf_ix mi d n = j := by
  obtain ⟨h1, h2, h3⟩ := rf_ix_spec mi d n
  rcases Nat.lt_trichotomy (rf_ix mi d n) j with h | h | h
  · exact absurd (h3 (by omega)) (hn _ h)
  · exact h
  · exact absurd hd (h2 j h)
theorem rf_mi_spec (g : Nat → Bool) (mi : Nat → Nat) : ∀ n, (∀ j, j < dr_cnt g n → rf_mi g mi n j < n ∧ g (rf_mi g mi n j) = true) ∧ (∀ i j, i < j → j < dr_cnt g n → rf_mi g mi n i < rf_mi g mi n j) ∧ (∀ d, d < n → g d = true → ∃ j, j < dr_cnt g n ∧ rf_mi g mi n j = d)
  | 0 => ⟨fun j hj => absurd hj (Nat.not_lt_zero _), fun i j _ hj => absurd hj (Nat.not_lt_zero _), fun d hd => absurd hd (Nat.not_lt_zero _)⟩
  | n + 1 => by
    obtain ⟨h1, h2, h3⟩ := rf_mi_spec g mi n
    rw [rf_mi, dr_cnt]
    by_cases e : g n = true
    · rw [if_pos e, if_pos e]
      refine ⟨fun j hj => ?_, fun i j hij hj => ?_, fun d hd hg => ?_⟩
      · by_cases z : j = dr_cnt g n
        · rw [z, va_up_s]; exact ⟨Nat.lt_succ_self _, e⟩
        · rw [va_up_n z]
          obtain ⟨a, b⟩ := h1 j (by omega)
          exact ⟨by omega, b⟩
      · by_cases z : j = dr_cnt g n
        · rw [z, va_up_s, va_up_n (by omega)]
          exact (h1 i (by omega)).1
        · rw [va_up_n z, va_up_n (by omega)]
          exact h2 i j hij (by omega)
      · by_cases z : d = n
        · exact ⟨dr_cnt g n, by omega, by rw [va_up_s, z]⟩
        · obtain ⟨j, hj, hm⟩ := h3 d (by omega) hg
          exact ⟨j, by omega, by rw [va_up_n (by omega)]; exact hm⟩
    · rw [if_neg e, if_neg e, Nat.add_zero]
      refine ⟨fun j hj => ?_, h2, fun d hd hg => ?_⟩
      · obtain ⟨a, b⟩ := h1 j hj
        exact ⟨by omega, b⟩
      · by_cases z : d = n
        · rw [z] at hg; exact absurd hg e
        · exact h3 d (by omega) hg
/-- what a list of the missing drives is -/
def rf_M (P : Nat) (g : Nat → Bool) (nm : Nat) (mi : Nat → Nat) : Prop := (∀ d, d < P → g d = true → rf_ix mi d nm < nm ∧ mi (rf_ix mi d nm) = d) ∧ (∀ d, d < P → g d = false → ¬ rf_ix mi d nm < nm) ∧ (∀ j, j < nm → mi j < P ∧ g (mi j) = true ∧ rf_ix mi (mi j) nm = j)
theorem rf_M_of (P : Nat) (g : Nat → Bool) (mi : Nat → Nat) : rf_M P g (dr_cnt g P) (rf_mi g mi P) := by
  obtain ⟨h1, h2, h3⟩ := rf_mi_spec g mi P
  have h4 : ∀ j, j < dr_cnt g P → rf_ix (rf_mi g mi P) (rf_mi g mi P j) (dr_cnt g P) = j := fun j hj => rf_ix_is hj rfl (fun i hi => Nat.ne_of_lt (h2 i j hi hj))
  refine ⟨fun d hd hg => ?_, fun d hd hg hz => ?_, fun j hj => ⟨(h1 j hj).1, (h1 j hj).2, h4 j hj⟩⟩
  · obtain ⟨j, hj, rfl⟩ := h3 d hd hg
    rw [h4 j hj]; exact ⟨hj, rfl⟩
  · have := (rf_ix_spec (rf_mi g mi P) d (dr_cnt g P)).2.2 hz
    have h5 := (h1 _ hz).2
    rw [this, hg] at h5
    cases h5
/-- one word joins a row -/
def rf_b1 (P : Nat) (mi : Nat → Nat) (nm d k b : Nat) : Nat := if rf_ix mi d nm < nm then b ^^^ 2 ^ (P * rf_ix mi d nm + k) else b
def rf_s1 (mi : Nat → Nat) (nm d : Nat) (x y : Int32) : Int32 := if rf_ix mi d nm < nm then y else y ^^^ x
/-- a row's bits and its sum, up to data word n; w: the words by d * P + k -/
def rf_be (P : Nat) (mi : Nat → Nat) (nm o row : Nat) : Nat → Nat
  | 0 => rf_b1 P mi nm o row 0
  | k + 1 => rf_b1 P mi nm (dr_dd P o k row) k (rf_be P mi nm o row k)
def rf_se (P : Nat) (mi : Nat → Nat) (nm : Nat) (w : Nat → Int32) (o row : Nat) : Nat → Int32
  | 0 => rf_s1 mi nm o (w (o * P + row)) 0
  | k + 1 => rf_s1 mi nm (dr_dd P o k row) (w (dr_dd P o k row * P + k)) (rf_se P mi nm w o row k)
theorem rf_dot_pow (X : Nat → Int32) {e n : Nat} (he : e < n) : rf_dot (2 ^ e) X n = X e := by
  unfold rf_dot
  have := dr_xs_one (f := fun v => if (2 ^ e).testBit v = true then X v else 0) (g := fun _ => 0) (n := n) (j := e) he (fun k _ hk => by
    rw [Nat.testBit_two_pow]
    rw [if_neg (by simp; exact fun z => hk z.symm)])
  rw [dr_xs_zero (f := fun _ => 0) (fun _ _ => rfl)] at this
  simpa [Nat.testBit_two_pow] using this
theorem rf_dot_0 (X : Nat → Int32) (n : Nat) : rf_dot 0 X n = 0 := dr_xs_zero (fun v _ => by simp)
/-- a row, seen through values Z of the unknowns: the words of the missing drives -/
theorem rf_be_dot {P : Nat} (h : dr_P P) {g : Nat → Bool} {nm : Nat} {mi : Nat → Nat} (hM : rf_M P g nm mi) (Z : Nat → Int32) {o row : Nat} (ho : o < P) (hr : dr_row P row) : ∀ n, n ≤ P - 2 →
    rf_dot (rf_be P mi nm o row n) Z (P * nm) = (if g o = true then Z (P * rf_ix mi o nm + row) else 0) ^^^ dr_xs (fun k => if g (dr_dd P o k row) = true then Z (P * rf_ix mi (dr_dd P o k row) nm + k) else 0) n := by
  have hp := h.le
  have one : ∀ d k b, d < P → k < P → rf_dot (rf_b1 P mi nm d k b) Z (P * nm) = rf_dot b Z (P * nm) ^^^ (if g d = true then Z (P * rf_ix mi d nm + k) else 0) := by
    intro d k b hd hk
    unfold rf_b1
    cases hg : g d with
    | true =>
      obtain ⟨h1, -⟩ := hM.1 d hd hg
      have hlt : P * rf_ix mi d nm + k < P * nm := by
        have := Nat.mul_le_mul_left P (show rf_ix mi d nm + 1 ≤ nm from h1)
        rw [Nat.mul_add] at this
        omega
      rw [if_pos h1, rf_dot_xor, rf_dot_pow _ hlt, if_pos rfl]
    | false =>
      rw [if_neg (hM.2.1 d hd hg), if_neg (by decide), Int32.xor_zero]
  intro n
  induction n with
  | zero =>
    intro _
    rw [rf_be, one o row 0 ho (by rcases hr with rfl | rfl <;> omega), rf_dot_0]
    simp [dr_xs]
  | succ n ih =>
    intro hn
    rw [rf_be, one _ n _ (dr_dd_lt h) (by omega), ih (by omega), dr_xs]
    ac_rfl
theorem rf_be_lt {P : Nat} (h : dr_P P) {g : Nat → Bool} {nm : Nat} {mi : Nat → Nat} (hM : rf_M P g nm mi) {o row : Nat} (ho : o < P) (hr : dr_row P row) : ∀ n, n ≤ P - 2 → rf_be P mi nm o row n < 2 ^ (P * nm) := by
  have hp := h.le
  have one : ∀ d k b, d < P → k < P → b < 2 ^ (P * nm) → rf_b1 P mi nm d k b < 2 ^ (P * nm) := by
    intro d k b hd hk hb
    unfold rf_b1
    by_cases h1 : rf_ix mi d nm < nm
    · rw [if_pos h1]
      have hlt : P * rf_ix mi d nm + k < P * nm := by
        have := Nat.mul_le_mul_left P (show rf_ix mi d nm + 1 ≤ nm from h1)
        rw [Nat.mul_add] at this
        omega
      exact Nat.xor_lt_two_pow hb (Nat.pow_lt_pow_right (by decide) hlt)
    · rw [if_neg h1]; exact hb
  intro n
  induction n with
  | zero => intro _; rw [rf_be]; exact one o row 0 ho (by rcases hr with rfl | rfl <;> omega) (Nat.two_pow_pos _)
  | succ n ih => intro hn; rw [rf_be]; exact one _ n _ (dr_dd_lt h) (by omega) (ih (by omega))
theorem rf_se_eq {P : Nat} (h : dr_P P) {g : Nat → Bool} {nm : Nat} {mi : Nat → Nat} (hM : rf_M P g nm mi) {w T : Nat → Int32} (hw : ∀ c, c < P * P → g (c / P) = false → w c = T c) {o row : Nat} (ho : o < P) (hr : dr_row P row) : ∀ n, n ≤ P - 2 →
    rf_se P mi nm w o row n = (if g o = true then 0 else T (o * P + row)) ^^^ dr_xs (fun k => if g (dr_dd P o k row) = true then 0 else T (dr_dd P o k row * P + k)) n := by
  have hp := h.le
  have one : ∀ d k y, d < P → k < P → rf_s1 mi nm d (w (d * P + k)) y = y ^^^ (if g d = true then 0 else T (d * P + k)) := by
    intro d k y hd hk
    unfold rf_s1
    cases hg : g d with
    | true => rw [if_pos (hM.1 d hd hg).1, if_pos rfl, Int32.xor_zero]
    | false => rw [if_neg (hM.2.1 d hd hg), if_neg (by decide), hw _ (dr_pl hd hk) (by rw [dr_pl_div hk]; exact hg)]
  intro n
  induction n with
  | zero =>
    intro _
    rw [rf_se, one o row 0 ho (by rcases hr with rfl | rfl <;> omega)]
    simp [dr_xs]
  | succ n ih =>
    intro hn
    rw [rf_se, one _ n _ (dr_dd_lt h) (by omega), ih (by omega), dr_xs]
    ac_rfl
/-- the values that belong to the unknowns -/
def rf_X (P : Nat) (mi : Nat → Nat) (T : Nat → Int32) (v : Nat) : Int32 := T (mi (v / P) * P + v % P)
theorem rf_X_at {P : Nat} {mi : Nat → Nat} {T : Nat → Int32} {j k : Nat} (hk : k < P) : rf_X P mi T (P * j + k) = T (mi j * P + k) := by
  unfold rf_X
  rw [Nat.mul_add_div (by omega), Nat.div_eq_of_lt hk, Nat.add_zero, Nat.mul_add_mod, Nat.mod_eq_of_lt hk]
def rf_row (P e : Nat) : Nat := if e < P then P - 2 else P - 1
theorem rf_row_ok (P e : Nat) : dr_row P (rf_row P e) := by
  unfold rf_row
  split
  · exact Or.inl rfl
  · exact Or.inr rfl
/-- the system at its start -/
theorem rf_GI_0 {P : Nat} (h : dr_P P) {g : Nat → Bool} {nm : Nat} {mi : Nat → Nat} (hM : rf_M P g nm mi) (hc : dr_cnt g P ≤ 2) {w T : Nat → Int32} (hT : dr_Full P T) (hw : ∀ c, c < P * P → g (c / P) = false → w c = T c)
    {b : Nat → Nat} {s : Nat → Int32} (hb : ∀ e, e < 2 * P → b e = rf_be P mi nm (e % P) (rf_row P e) (P - 2)) (hs : ∀ e, e < 2 * P → s e = rf_se P mi nm w (e % P) (rf_row P e) (P - 2)) : rf_GI (2 * P) (P * nm) (rf_X P mi T) 0 b s := by
  have hp := h.le
  have hp0 : 0 < P := by omega
  refine ⟨fun e he => ?_, fun r v hr => absurd hr (Nat.not_lt_zero _), fun r v _ _ hv => absurd hv (Nat.not_lt_zero _), fun Y hY v hv => ?_, fun e he => ?_⟩
  · have ho := Nat.mod_lt e hp0
    have hr := rf_row_ok P e
    rw [hs e he, hb e he, rf_se_eq h hM hw ho hr _ (Nat.le_refl _), rf_be_dot h hM _ ho hr _ (Nat.le_refl _)]
    have hx : ∀ d k, d < P → k < P → (if g d = true then rf_X P mi T (P * rf_ix mi d nm + k) else 0) = (if g d = true then T (d * P + k) else 0) := by
      intro d k hd hk
      cases hg : g d with
      | true => rw [if_pos rfl, if_pos rfl, rf_X_at hk, (hM.1 d hd hg).2]
      | false => rfl
    rw [hx _ _ ho (by rcases hr with z | z <;> rw [z] <;> omega)]
    rw [dr_xs_congr (f := fun k => if g (dr_dd P (e % P) k (rf_row P e)) = true then rf_X P mi T (P * rf_ix mi (dr_dd P (e % P) k (rf_row P e)) nm + k) else 0) (g := fun k => if g (dr_dd P (e % P) k (rf_row P e)) = true then T (dr_dd P (e % P) k (rf_row P e) * P + k) else 0) (fun k hk => hx _ _ (dr_dd_lt h) (by omega))]
    apply Int32.xor_eq_zero_iff.mp
    rw [dr_xor4, ← dr_xs_xor]
    have hF := hT _ _ ho hr
    have e1 : (if g (e % P) = true then 0 else T (e % P * P + rf_row P e)) ^^^ (if g (e % P) = true then T (e % P * P + rf_row P e) else 0) = T (e % P * P + rf_row P e) := by
      cases g (e % P) <;> simp
    rw [e1, hF]
    apply Int32.xor_eq_zero_iff.mpr
    refine dr_xs_congr (fun k hk => ?_)
    cases g (dr_dd P (e % P) k (rf_row P e)) <;> simp
  · -- another solution would be another full content
    have hfull : dr_Full P (fun c => if g (c / P) = true then T c ^^^ Y (P * rf_ix mi (c / P) nm + c % P) else T c) := by
      intro o row ho hr
      have hrl : row < P := by rcases hr with rfl | rfl <;> omega
      have hb0 : rf_dot (rf_be P mi nm o row (P - 2)) Y (P * nm) = 0 := by
        rcases hr with rfl | rfl
        · have := hY o (by omega)
          rw [hb o (by omega), Nat.mod_eq_of_lt ho, rf_row, if_pos ho] at this
          exact this
        · have := hY (P + o) (by omega)
          rw [hb (P + o) (by omega), Nat.add_mod_left, Nat.mod_eq_of_lt ho, rf_row, if_neg (by omega)] at this
          exact this
      rw [rf_be_dot h hM _ ho hr _ (Nat.le_refl _)] at hb0
      show (if g ((o * P + row) / P) = true then T (o * P + row) ^^^ Y (P * rf_ix mi ((o * P + row) / P) nm + (o * P + row) % P) else T (o * P + row)) = _
      rw [dr_pl_div hrl, dr_pl_mod hrl]
      have e2 : (if g o = true then T (o * P + row) ^^^ Y (P * rf_ix mi o nm + row) else T (o * P + row)) = T (o * P + row) ^^^ (if g o = true then Y (P * rf_ix mi o nm + row) else 0) := by
        cases g o <;> simp
      rw [e2, hT o row ho hr, Int32.xor_eq_zero_iff.mp hb0]
      unfold dr_sum
      rw [← dr_xs_xor]
      refine dr_xs_congr (fun k hk => ?_)
      have hkl : k < P := by omega
      show _ = if g ((dr_dd P o k row * P + k) / P) = true then T (dr_dd P o k row * P + k) ^^^ Y (P * rf_ix mi ((dr_dd P o k row * P + k) / P) nm + (dr_dd P o k row * P + k) % P) else T (dr_dd P o k row * P + k)
      rw [dr_pl_div hkl, dr_pl_mod hkl]
      cases g (dr_dd P o k row) <;> simp
    have hu := dr_unique h hc hT hfull (fun c hc hg => by
      show T c = if g (c / P) = true then _ else T c
      rw [hg]; rfl)
    have hj : v / P < nm := Nat.div_lt_of_lt_mul hv
    have hk := Nat.mod_lt v hp0
    obtain ⟨m1, m2, m3⟩ := hM.2.2 _ hj
    have := hu (mi (v / P) * P + v % P) (dr_pl m1 hk)
    rw [dr_pl_div hk, dr_pl_mod hk, m2, if_pos rfl, m3] at this
    rw [Nat.div_add_mod] at this
    have h3 := congrArg (fun z => T (mi (v / P) * P + v % P) ^^^ z) this
    simpa [← Int32.xor_assoc] using h3.symm
  · rw [hb e he]
    exact rf_be_lt h hM (Nat.mod_lt e hp0) (rf_row_ok P e) _ (Nat.le_refl _)
