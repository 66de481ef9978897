/-! the reference's elimination: rows of bits and sums -/
/-- the sum over the unknowns that a row has -/
def rf_dot (b : Nat) (X : Nat → Int32) (n : Nat) : Int32 := dr_xs (fun v => if b.testBit v = true then X v else 0) n
theorem rf_dot_xor (a b : Nat) (X : Nat → Int32) (n : Nat) : rf_dot (a ^^^ b) X n = rf_dot a X n ^^^ rf_dot b X n := by
  unfold rf_dot
  rw [← dr_xs_xor]
  refine dr_xs_congr (fun v _ => ?_)
  rw [Nat.testBit_xor]
  cases a.testBit v <;> cases b.testBit v <;> simp
/-- where the elimination stands at column u -/
def rf_GI (N n : Nat) (X : Nat → Int32) (u : Nat) (b : Nat → Nat) (s : Nat → Int32) : Prop :=
  (∀ e, e < N → s e = rf_dot (b e) X n) ∧ (∀ r v, r < u → v < u → (b r).testBit v = decide (r = v)) ∧ (∀ r v, u ≤ r → r < N → v < u → (b r).testBit v = false) ∧
  (∀ Y : Nat → Int32, (∀ e, e < N → rf_dot (b e) Y n = 0) → ∀ v, v < n → Y v = 0) ∧ (∀ e, e < N → b e < 2 ^ n)
/-- a column that is left has a row for it -/
theorem rf_pivot {N n u : Nat} {X : Nat → Int32} {b : Nat → Nat} {s : Nat → Int32} (h : rf_GI N n X u b s) (hu : u < n) (hn : n ≤ N) : ¬ ∀ r, u ≤ r → r < N → (b r).testBit u = false := by
  intro hz
  obtain ⟨-, h2, h3, h4, -⟩ := h
  have key : ∀ e, e < N → rf_dot (b e) (fun v => if v = u then 1 else if v < u then (if (b v).testBit u = true then 1 else 0) else 0) n = 0 := by
    intro e he
    by_cases g : e < u
    · -- row e: its own column, and u
      have hd : rf_dot (b e) (fun v => if v = u then 1 else if v < u then (if (b v).testBit u = true then 1 else 0) else 0) n ^^^ dr_xs (fun v => if v = e then (if (b e).testBit u = true then 1 else 0) else 0) n = dr_xs (fun v => if v = u then (if (b e).testBit u = true then 1 else 0) else 0) n := by
        unfold rf_dot
        rw [← dr_xs_xor]
        refine dr_xs_congr (fun v hv => ?_)
        dsimp only
        by_cases g1 : v = u
        · rw [if_pos g1, if_pos g1, if_neg (show ¬ v = e by omega), g1]
          simp
        · by_cases g2 : v < u
          · rw [h2 e v g g2, if_neg g1, if_neg g1, if_pos g2]
            by_cases g3 : v = e
            · rw [g3]; simp
            · rw [if_neg g3]; simp [show ¬ e = v from fun z => g3 z.symm]
          · rw [if_neg g1, if_neg g2, if_neg (show ¬ v = e by omega), if_neg g1]; simp
      have one : ∀ (j : Nat) (x : Int32), j < n → dr_xs (fun v => if v = j then x else 0) n = x := by
        intro j x hj
        have := dr_xs_one (f := fun v => if v = j then x else 0) (g := fun _ => 0) (n := n) (j := j) hj (fun k _ hk => if_neg hk)
        rw [dr_xs_zero (f := fun _ => 0) (fun _ _ => rfl)] at this
        simpa using this
      rw [one e _ (by omega), one u _ hu] at hd
      have e2 := congrArg (fun z => z ^^^ (if (b e).testBit u = true then (1 : Int32) else 0)) hd
      simpa [Int32.xor_assoc] using e2
    · refine dr_xs_zero (fun v hv => ?_)
      by_cases g1 : v = u
      · subst g1; rw [hz e (by omega) he]; rfl
      · by_cases g2 : v < u
        · rw [h3 e v (by omega) he g2]; rfl
        · simp [g1, g2]
  have := h4 _ key u hu
  simp at this
/-- two rows change places -/
def rf_sw {α : Type} (f : Nat → α) (i j : Nat) : Nat → α := va_up (va_up f j (f i)) i (f j)
theorem rf_sw_at {α : Type} (f : Nat → α) (i j k : Nat) : rf_sw f i j k = if k = i then f j else if k = j then f i else f k := by
  unfold rf_sw va_up
  rfl
/-- the row at u is added to the rows below e that have column u -/
def rf_eb (b : Nat → Nat) (u : Nat) : Nat → (Nat → Nat)
  | 0 => b
  | e + 1 => if e ≠ u ∧ (rf_eb b u e e).testBit u = true then va_up (rf_eb b u e) e (rf_eb b u e e ^^^ b u) else rf_eb b u e
def rf_es (b : Nat → Nat) (s : Nat → Int32) (u : Nat) : Nat → (Nat → Int32)
  | 0 => s
  | e + 1 => if e ≠ u ∧ (rf_eb b u e e).testBit u = true then va_up (rf_es b s u e) e (rf_es b s u e e ^^^ s u) else rf_es b s u e
theorem rf_eb_at (b : Nat → Nat) (u : Nat) : ∀ n k, rf_eb b u n k = if k < n ∧ k ≠ u ∧ (b k).testBit u = true then b k ^^^ b u else b k
  | 0, k => by simp [rf_eb]
  | n + 1, k => by
    have ih := rf_eb_at b u n
    rw [rf_eb]
    have hn : rf_eb b u n n = b n := by rw [ih n, if_neg (by omega)]
    rw [hn]
    by_cases g : n ≠ u ∧ (b n).testBit u = true
    · rw [if_pos g]
      by_cases e : k = n
      · subst e; rw [va_up_s, if_pos ⟨by omega, g⟩]
      · rw [va_up_n e, ih k]
        by_cases g2 : k < n ∧ k ≠ u ∧ (b k).testBit u = true
        · rw [if_pos g2, if_pos ⟨by omega, g2.2⟩]
        · rw [if_neg g2, if_neg (fun z => g2 ⟨by omega, z.2⟩)]
    · rw [if_neg g, ih k]
      by_cases e : k = n
      · subst e; rw [if_neg (fun z => by omega), if_neg (fun z => g z.2)]
      · by_cases g2 : k < n ∧ k ≠ u ∧ (b k).testBit u = true
        · rw [if_pos g2, if_pos ⟨by omega, g2.2⟩]
        · rw [if_neg g2, if_neg (fun z => g2 ⟨by omega, z.2⟩)]
theorem rf_es_at (b : Nat → Nat) (s : Nat → Int32) (u : Nat) : ∀ n k, rf_es b s u n k = if k < n ∧ k ≠ u ∧ (b k).testBit u = true then s k ^^^ s u else s k
  | 0, k => by simp [rf_es]
  | n + 1, k => by
    have ih := rf_es_at b s u n
    rw [rf_es]
    have hn : rf_eb b u n n = b n := by rw [rf_eb_at b u n n, if_neg (by omega)]
    have hs : rf_es b s u n n = s n := by rw [ih n, if_neg (by omega)]
    rw [hn, hs]
    by_cases g : n ≠ u ∧ (b n).testBit u = true
    · rw [if_pos g]
      by_cases e : k = n
      · subst e; rw [va_up_s, if_pos ⟨by omega, g⟩]
      · rw [va_up_n e, ih k]
        by_cases g2 : k < n ∧ k ≠ u ∧ (b k).testBit u = true
        · rw [if_pos g2, if_pos ⟨by omega, g2.2⟩]
        · rw [if_neg g2, if_neg (fun z => g2 ⟨by omega, z.2⟩)]
    · rw [if_neg g, ih k]
      by_cases e : k = n
      · subst e; rw [if_neg (fun z => by omega), if_neg (fun z => g z.2)]
      · by_cases g2 : k < n ∧ k ≠ u ∧ (b k).testBit u = true
        · rw [if_pos g2, if_pos ⟨by omega, g2.2⟩]
        · rw [if_neg g2, if_neg (fun z => g2 ⟨by omega, z.2⟩)]
/-- changing two rows' places keeps it -/
theorem rf_GI_sw {N n u r : Nat} {X : Nat → Int32} {b : Nat → Nat} {s : Nat → Int32} (h : rf_GI N n X u b s) (hu : u < N) (h1 : u ≤ r) (h2 : r < N) : rf_GI N n X u (rf_sw b u r) (rf_sw s u r) := by
  obtain ⟨a1, a2, a3, a4, a5⟩ := h
  refine ⟨fun e he => ?_, fun q v hq hv => ?_, fun q v hq hq2 hv => ?_, fun Y hY v hv => ?_, fun e he => ?_⟩
  · rw [rf_sw_at, rf_sw_at]
    by_cases g1 : e = u
    · rw [if_pos g1, if_pos g1]; exact a1 r h2
    · rw [if_neg g1, if_neg g1]
      by_cases g2 : e = r
      · rw [if_pos g2, if_pos g2]; exact a1 u hu
      · rw [if_neg g2, if_neg g2]; exact a1 e he
  · rw [rf_sw_at, if_neg (by omega), if_neg (by omega)]; exact a2 q v hq hv
  · rw [rf_sw_at]
    by_cases g1 : q = u
    · rw [if_pos g1]; exact a3 r v h1 h2 hv
    · rw [if_neg g1]
      by_cases g2 : q = r
      · rw [if_pos g2]; exact a3 u v (Nat.le_refl _) hu hv
      · rw [if_neg g2]; exact a3 q v hq hq2 hv
  · refine a4 Y (fun e he => ?_) v hv
    by_cases g1 : e = u
    · have := hY r h2
      rw [rf_sw_at] at this
      by_cases g2 : r = u
      · rw [if_pos g2] at this; rw [g1, ← g2]; exact this
      · rw [if_neg g2, if_pos rfl] at this; rw [g1]; exact this
    · by_cases g2 : e = r
      · have := hY u hu
        rw [rf_sw_at, if_pos rfl] at this
        rw [g2]; exact this
      · have := hY e he
        rw [rf_sw_at, if_neg g1, if_neg g2] at this
        exact this
  · rw [rf_sw_at]
    by_cases g1 : e = u
    · rw [if_pos g1]; exact a5 r h2
    · rw [if_neg g1]
      by_cases g2 : e = r
      · rw [if_pos g2]; exact a5 u hu
      · rw [if_neg g2]; exact a5 e he
/-- adding the pivot's row to the others that have its column: one column more is done -/
theorem rf_GI_el {N n u : Nat} {X : Nat → Int32} {b : Nat → Nat} {s : Nat → Int32} (h : rf_GI N n X u b s) (hu : u < N) (hp : (b u).testBit u = true) : rf_GI N n X (u + 1) (rf_eb b u N) (rf_es b s u N) := by
  obtain ⟨a1, a2, a3, a4, a5⟩ := h
  have ku : ∀ v, v < u → (b u).testBit v = false := fun v hv => a3 u v (Nat.le_refl _) hu hv
  refine ⟨fun e he => ?_, fun q v hq hv => ?_, fun q v hq hq2 hv => ?_, fun Y hY v hv => ?_, fun e he => ?_⟩
  · rw [rf_eb_at, rf_es_at]
    by_cases g : e < N ∧ e ≠ u ∧ (b e).testBit u = true
    · rw [if_pos g, if_pos g, rf_dot_xor, a1 e he, a1 u hu]
    · rw [if_neg g, if_neg g]; exact a1 e he
  · rw [rf_eb_at]
    by_cases g : q < N ∧ q ≠ u ∧ (b q).testBit u = true
    · rw [if_pos g, Nat.testBit_xor]
      by_cases gv : v = u
      · subst gv; rw [g.2.2, hp]; simp [g.2.1]
      · rw [ku v (by omega), a2 q v (by omega) (by omega)]; simp
    · rw [if_neg g]
      by_cases gq : q = u
      · subst gq
        by_cases gv : v = q
        · subst gv; rw [hp]; simp
        · rw [ku v (by omega)]; exact (decide_eq_false (fun z => gv z.symm)).symm
      · by_cases gv : v = u
        · subst gv
          have : (b q).testBit v = false := by
            cases hb : (b q).testBit v with
            | false => rfl
            | true => exact absurd ⟨by omega, gq, hb⟩ g
          rw [this]; simp [gq]
        · exact a2 q v (by omega) (by omega)
  · rw [rf_eb_at]
    by_cases g : q < N ∧ q ≠ u ∧ (b q).testBit u = true
    · rw [if_pos g, Nat.testBit_xor]
      by_cases gv : v = u
      · subst gv; rw [g.2.2, hp]; rfl
      · rw [ku v (by omega), a3 q v (by omega) hq2 (by omega)]; rfl
    · rw [if_neg g]
      by_cases gv : v = u
      · subst gv
        cases hb : (b q).testBit v with
        | false => rfl
        | true => exact absurd ⟨hq2, by omega, hb⟩ g
      · exact a3 q v (by omega) hq2 (by omega)
  · have hYu : rf_dot (b u) Y n = 0 := by
      have := hY u hu
      rw [rf_eb_at, if_neg (fun z => z.2.1 rfl)] at this
      exact this
    refine a4 Y (fun e he => ?_) v hv
    have := hY e he
    rw [rf_eb_at] at this
    by_cases g : e < N ∧ e ≠ u ∧ (b e).testBit u = true
    · rw [if_pos g, rf_dot_xor, hYu, Int32.xor_zero] at this
      exact this
    · rw [if_neg g] at this; exact this
  · rw [rf_eb_at]
    by_cases g : e < N ∧ e ≠ u ∧ (b e).testBit u = true
    · rw [if_pos g]; exact Nat.xor_lt_two_pow (a5 e he) (a5 u hu)
    · rw [if_neg g]; exact a5 e he
/-- at the end each row has its own unknown alone -/
theorem rf_GI_end {N n : Nat} {X : Nat → Int32} {b : Nat → Nat} {s : Nat → Int32} (h : rf_GI N n X n b s) (hn : n ≤ N) {e : Nat} (he : e < n) : b e = 2 ^ e ∧ s e = X e := by
  obtain ⟨a1, a2, a3, a4, a5⟩ := h
  have hb : b e = 2 ^ e := by
    refine Nat.eq_of_testBit_eq (fun v => ?_)
    rw [Nat.testBit_two_pow]
    by_cases hv : v < n
    · exact a2 e v he hv
    · have h1 : (b e).testBit v = false := Nat.testBit_lt_two_pow (Nat.lt_of_lt_of_le (a5 e (by omega)) (Nat.pow_le_pow_right (by decide) (by omega)))
      rw [h1]
      exact (decide_eq_false (by omega)).symm
  refine ⟨hb, ?_⟩
  rw [a1 e (by omega), hb]
  unfold rf_dot
  have := dr_xs_one (f := fun v => if (2 ^ e).testBit v = true then X v else 0) (g := fun _ => 0) (n := n) (j := e) he (fun k _ hk => by
    rw [Nat.testBit_two_pow]
    rw [if_neg (by simp; exact fun z => hk z.symm)])
  rw [dr_xs_zero (f := fun _ => 0) (fun _ _ => rfl)] at this
  simpa [Nat.testBit_two_pow] using this
