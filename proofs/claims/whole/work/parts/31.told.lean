/-! what is told: parities, their members, the closing, the teller -/
theorem dr_P.le {P : Nat} (h : dr_P P) : 5 ≤ P ∧ P ≤ 13 := by unfold dr_P at h; omega
theorem dr_dd_lt {P o k row : Nat} (h : dr_P P) : dr_dd P o k row < P := by
  have := h.le
  unfold dr_dd
  split <;> exact Nat.mod_lt _ (by omega)
theorem dr_pd_lt {P d k row : Nat} (h : dr_P P) : dr_pd P d k row < P := by
  have := h.le
  unfold dr_pd
  split <;> exact Nat.mod_lt _ (by omega)
theorem dr_pl {P d k : Nat} (hd : d < P) (hk : k < P) : d * P + k < P * P := by
  have h1 : (d + 1) * P ≤ P * P := Nat.mul_le_mul_right _ hd
  rw [Nat.add_mul] at h1
  omega
theorem dr_PP {P : Nat} (h : dr_P P) : P * P ≤ 169 ∧ 25 ≤ P * P := by
  rcases h with rfl | rfl | rfl | rfl <;> decide
theorem dr_pl_div {P d k : Nat} (hk : k < P) : (d * P + k) / P = d := by
  rw [Nat.mul_comm, Nat.mul_add_div (by omega), Nat.div_eq_of_lt hk, Nat.add_zero]
theorem dr_pl_mod {P d k : Nat} (hk : k < P) : (d * P + k) % P = k := by
  rw [Nat.mul_comm, Nat.mul_add_mod, Nat.mod_eq_of_lt hk]
theorem dr_split {P c : Nat} (hc : c < P * P) : c = (c / P) * P + c % P ∧ c / P < P ∧ c % P < P := by
  have hp : 0 < P := by
    rcases Nat.eq_zero_or_pos P with h | h
    · subst h; omega
    · exact h
  exact ⟨by rw [Nat.mul_comm]; exact (Nat.div_add_mod c P).symm, Nat.div_lt_of_lt_mul hc, Nat.mod_lt _ hp⟩
theorem dr_pl_inj {P d k d' k' : Nat} (hk : k < P) (hk' : k' < P) (h : d * P + k = d' * P + k') : d = d' ∧ k = k' := by
  have h1 := dr_pl_div (d := d) hk
  have h2 := dr_pl_div (d := d') hk'
  have h3 := dr_pl_mod (d := d) hk
  have h4 := dr_pl_mod (d := d') hk'
  rw [h] at h1 h3
  exact ⟨h1.symm.trans h2, h3.symm.trans h4⟩
theorem dr_xs_congr {f g : Nat → Int32} : ∀ {n : Nat}, (∀ k, k < n → f k = g k) → dr_xs f n = dr_xs g n
  | 0, _ => rfl
  | n + 1, h => by rw [dr_xs, dr_xs, dr_xs_congr (fun k hk => h k (Nat.lt_succ_of_lt hk)), h n (Nat.lt_succ_self n)]
theorem dr_xor4 (a b c d : Int32) : (a ^^^ b) ^^^ (c ^^^ d) = (a ^^^ c) ^^^ (b ^^^ d) := by ac_rfl
theorem dr_xs_one {f g : Nat → Int32} : ∀ {n j : Nat}, j < n → (∀ k, k < n → k ≠ j → f k = g k) → dr_xs f n ^^^ dr_xs g n = f j ^^^ g j
  | 0, j, h, _ => absurd h (Nat.not_lt_zero _)
  | n + 1, j, hj, h => by
    rw [dr_xs, dr_xs, dr_xor4]
    by_cases e : j = n
    · subst e
      rw [dr_xs_congr (f := f) (g := g) (fun k hk => h k (Nat.lt_succ_of_lt hk) (by omega)), Int32.xor_self, Int32.zero_xor]
    · rw [dr_xs_one (n := n) (j := j) (by omega) (fun k hk hkj => h k (by omega) hkj), h n (Nat.lt_succ_self n) (fun z => e z.symm), Int32.xor_self, Int32.xor_zero]
theorem dr_xs_zero {f : Nat → Int32} : ∀ {n : Nat}, (∀ k, k < n → f k = 0) → dr_xs f n = 0
  | 0, _ => rfl
  | n + 1, h => by rw [dr_xs, dr_xs_zero (fun k hk => h k (Nat.lt_succ_of_lt hk)), h n (Nat.lt_succ_self n), Int32.xor_self]
theorem dr_xs_xor {f g : Nat → Int32} : ∀ {n : Nat}, dr_xs (fun k => f k ^^^ g k) n = dr_xs f n ^^^ dr_xs g n
  | 0 => by simp [dr_xs]
  | n + 1 => by rw [dr_xs, dr_xs, dr_xs, dr_xs_xor, dr_xor4]
/-- the members of a parity: P - 2 data words, and itself -/
def dr_mm (P o row k : Nat) : Nat := if k = P - 2 then o * P + row else dr_dd P o k row * P + k
def dr_row (P row : Nat) : Prop := row = P - 2 ∨ row = P - 1
theorem dr_mm_lt {P o row k : Nat} (h : dr_P P) (ho : o < P) (hr : dr_row P row) (hk : k < P - 1) : dr_mm P o row k < P * P := by
  have := h.le
  unfold dr_mm
  split
  · exact dr_pl ho (by rcases hr with rfl | rfl <;> omega)
  · exact dr_pl (dr_dd_lt h) (by omega)
theorem dr_mm_inj {P o row j k : Nat} (h : dr_P P) (hr : dr_row P row) (hj : j < P - 1) (hk : k < P - 1) (e : dr_mm P o row j = dr_mm P o row k) : j = k := by
  have := h.le
  unfold dr_mm at e
  split at e <;> split at e
  · omega
  · have := (dr_pl_inj (by rcases hr with rfl | rfl <;> omega) (by omega) e).2
    rcases hr with rfl | rfl <;> omega
  · have := (dr_pl_inj (by omega) (by rcases hr with rfl | rfl <;> omega) e).2
    rcases hr with rfl | rfl <;> omega
  · exact (dr_pl_inj (by omega) (by omega) e).2
theorem dr_mm_sum {P : Nat} (h : dr_P P) (t : Nat → Int32) (o row : Nat) : dr_xs (fun k => t (dr_mm P o row k)) (P - 1) = dr_sum P t o row (P - 2) ^^^ t (o * P + row) := by
  have := h.le
  rw [show P - 1 = (P - 2) + 1 by omega, dr_xs]
  congr 1
  · exact dr_xs_congr (fun k hk => by simp only [dr_mm]; rw [if_neg (by omega)])
  · simp [dr_mm]
/-- a stripe's full content: all parities agree -/
def dr_Full (P : Nat) (T : Nat → Int32) : Prop := ∀ o row, o < P → dr_row P row → T (o * P + row) = dr_sum P T o row (P - 2)
theorem dr_Full.xs {P : Nat} {T : Nat → Int32} (h : dr_P P) (hT : dr_Full P T) {o row : Nat} (ho : o < P) (hr : dr_row P row) : dr_xs (fun k => T (dr_mm P o row k)) (P - 1) = 0 := by
  rw [dr_mm_sum h, ← hT o row ho hr, Int32.xor_self]
/-! the closing: from all words of all drives but two, parity by parity, one comes to all words -/
def dr_pstep (P d1 d2 : Nat) (kn : List Nat) (e : Nat × Nat) : List Nat :=
  match ((List.range (P - 1)).map (dr_mm P e.1 e.2)).filter (fun c => (c / P == d1 || c / P == d2) && !kn.contains c) with
  | [x] => x :: kn
  | _ => kn
def dr_eqs (P : Nat) : List (Nat × Nat) := (List.range P).flatMap (fun o => [(o, P - 2), (o, P - 1)])
def dr_peel (P d1 d2 : Nat) : Nat → List Nat
  | 0 => []
  | n + 1 => (dr_eqs P).foldl (dr_pstep P d1 d2) (dr_peel P d1 d2 n)
def dr_peels (P d1 d2 : Nat) : Bool := (fun l : List Nat => (List.range P).all (fun k => l.contains (d1 * P + k) && l.contains (d2 * P + k))) (dr_peel P d1 d2 P)
def dr_peelAll (P : Nat) : Bool := (List.range P).all (fun d1 => (List.range P).all (fun d2 => decide (d2 ≤ d1) || dr_peels P d1 d2))
theorem dr_peel5 : dr_peelAll 5 = true := by decide +kernel
theorem dr_peel7 : dr_peelAll 7 = true := by decide +kernel
theorem dr_peel11 : dr_peelAll 11 = true := by decide +kernel
theorem dr_peel13 : dr_peelAll 13 = true := by decide +kernel
theorem dr_peel_ok {P d1 d2 : Nat} (h : dr_P P) (h1 : d1 < d2) (h2 : d2 < P) : dr_peels P d1 d2 = true := by
  have key : dr_peelAll P = true := by
    rcases h with rfl | rfl | rfl | rfl
    · exact dr_peel5
    · exact dr_peel7
    · exact dr_peel11
    · exact dr_peel13
  unfold dr_peelAll at key
  rw [List.all_eq_true] at key
  have k1 := key d1 (List.mem_range.mpr (by omega))
  rw [List.all_eq_true] at k1
  have k2 := k1 d2 (List.mem_range.mpr h2)
  simp only [Bool.or_eq_true, decide_eq_true_eq] at k2
  rcases k2 with k2 | k2
  · omega
  · exact k2
theorem dr_closed {P d1 d2 : Nat} (h : dr_P P) (h1 : d1 < d2) (h2 : d2 < P) (K : Nat → Prop) (h0 : ∀ c, c < P * P → c / P ≠ d1 → c / P ≠ d2 → K c)
    (hc : ∀ o row, o < P → dr_row P row → ∀ j, j < P - 1 → (∀ k, k < P - 1 → k ≠ j → K (dr_mm P o row k)) → K (dr_mm P o row j)) : ∀ c, c < P * P → K c := by
  have hstep : ∀ (kn : List Nat) (e : Nat × Nat), e.1 < P → dr_row P e.2 → (∀ c ∈ kn, K c) → ∀ c ∈ dr_pstep P d1 d2 kn e, K c := by
    intro kn e he hr hk c hcm
    unfold dr_pstep at hcm
    split at hcm
    · rename_i x hx
      rcases List.mem_cons.mp hcm with rfl | hcm
      · have hm : c ∈ ((List.range (P - 1)).map (dr_mm P e.1 e.2)).filter (fun c => (c / P == d1 || c / P == d2) && !kn.contains c) := by rw [hx]; exact List.mem_cons_self
        obtain ⟨hm1, hm2⟩ := List.mem_filter.mp hm
        obtain ⟨j, hj, rfl⟩ := List.mem_map.mp hm1
        have hj' := List.mem_range.mp hj
        refine hc e.1 e.2 he hr j hj' (fun k hk' hkj => ?_)
        by_cases hq : (dr_mm P e.1 e.2 k / P = d1 ∨ dr_mm P e.1 e.2 k / P = d2) ∧ ¬ dr_mm P e.1 e.2 k ∈ kn
        · have : dr_mm P e.1 e.2 k ∈ ((List.range (P - 1)).map (dr_mm P e.1 e.2)).filter (fun c => (c / P == d1 || c / P == d2) && !kn.contains c) := by
            refine List.mem_filter.mpr ⟨List.mem_map.mpr ⟨k, List.mem_range.mpr hk', rfl⟩, ?_⟩
            simp only [Bool.and_eq_true, Bool.or_eq_true, beq_iff_eq, Bool.not_eq_true', List.contains_eq_mem, decide_eq_false_iff_not]
            exact hq
          rw [hx, List.mem_singleton] at this
          exact absurd (dr_mm_inj h hr hk' hj' this) hkj
        · by_cases hq2 : dr_mm P e.1 e.2 k ∈ kn
          · exact hk _ hq2
          · have h3 : ¬ (dr_mm P e.1 e.2 k / P = d1 ∨ dr_mm P e.1 e.2 k / P = d2) := fun z => hq ⟨z, hq2⟩
            exact h0 _ (dr_mm_lt h he hr hk') (fun z => h3 (Or.inl z)) (fun z => h3 (Or.inr z))
      · exact hk c hcm
    · exact hk c hcm
  have heq : ∀ e ∈ dr_eqs P, e.1 < P ∧ dr_row P e.2 := by
    intro e he
    obtain ⟨o, ho, hm⟩ := List.mem_flatMap.mp he
    have ho' := List.mem_range.mp ho
    simp only [List.mem_cons, List.not_mem_nil, or_false] at hm
    rcases hm with rfl | rfl
    · exact ⟨ho', Or.inl rfl⟩
    · exact ⟨ho', Or.inr rfl⟩
  have hfold : ∀ (es : List (Nat × Nat)) (kn : List Nat), (∀ e ∈ es, e.1 < P ∧ dr_row P e.2) → (∀ c ∈ kn, K c) → ∀ c ∈ es.foldl (dr_pstep P d1 d2) kn, K c := by
    intro es
    induction es with
    | nil => intro kn _ hk c hcm; exact hk c hcm
    | cons e es ih =>
      intro kn hes hk c hcm
      rw [List.foldl_cons] at hcm
      exact ih _ (fun e' he' => hes e' (List.mem_cons_of_mem _ he')) (hstep kn e (hes e List.mem_cons_self).1 (hes e List.mem_cons_self).2 hk) c hcm
  have hpeel : ∀ n, ∀ c ∈ dr_peel P d1 d2 n, K c := by
    intro n
    induction n with
    | zero => intro c hcm; cases hcm
    | succ n ih => exact hfold _ _ heq ih
  have hok := dr_peel_ok h h1 h2
  unfold dr_peels at hok
  rw [List.all_eq_true] at hok
  intro c hcl
  obtain ⟨e1, e2, e3⟩ := dr_split hcl
  have hk := hok (c % P) (List.mem_range.mpr e3)
  rw [Bool.and_eq_true, List.contains_iff_mem, List.contains_iff_mem] at hk
  by_cases g1 : c / P = d1
  · rw [e1, g1]; exact hpeel P _ hk.1
  · by_cases g2 : c / P = d2
    · rw [e1, g2]; exact hpeel P _ hk.2
    · exact h0 c hcl g1 g2
/-- at most two of them -/
theorem dr_cnt_le {g : Nat → Bool} : ∀ n, dr_cnt g n ≤ n
  | 0 => Nat.le_refl 0
  | n + 1 => by have := dr_cnt_le (g := g) n; rw [dr_cnt]; split <;> omega
theorem dr_cnt_0 {g : Nat → Bool} : ∀ {n : Nat}, dr_cnt g n = 0 ↔ ∀ k, k < n → g k = false
  | 0 => by simp [dr_cnt]
  | n + 1 => by
    rw [dr_cnt]
    have ih := dr_cnt_0 (g := g) (n := n)
    constructor
    · intro h k hk
      by_cases e : k = n
      · subst e; by_cases g1 : g k = true
        · simp [g1] at h
        · simpa using g1
      · exact (ih.mp (by omega)) k (by omega)
    · intro h
      rw [ih.mpr (fun k hk => h k (by omega)), h n (by omega)]
      simp
theorem dr_cnt_congr {f g : Nat → Bool} : ∀ {n : Nat}, (∀ k, k < n → f k = g k) → dr_cnt f n = dr_cnt g n
  | 0, _ => rfl
  | n + 1, h => by rw [dr_cnt, dr_cnt, dr_cnt_congr (fun k hk => h k (Nat.lt_succ_of_lt hk)), h n (Nat.lt_succ_self n)]
theorem dr_cnt_mono {f g : Nat → Bool} : ∀ {n : Nat}, (∀ k, k < n → f k = true → g k = true) → dr_cnt f n ≤ dr_cnt g n
  | 0, _ => Nat.le_refl _
  | n + 1, h => by
    have ih := dr_cnt_mono (f := f) (g := g) (n := n) (fun k hk => h k (Nat.lt_succ_of_lt hk))
    rw [dr_cnt, dr_cnt]
    by_cases e : f n = true
    · rw [if_pos e, if_pos (h n (Nat.lt_succ_self n) e)]; omega
    · rw [if_neg e]; omega
theorem dr_cnt_1 {g : Nat → Bool} : ∀ {n : Nat}, dr_cnt g n ≤ 1 → ∃ d, (∀ k, k < n → g k = true → k = d) ∧ (d < n ∨ ∀ k, k < n → g k = false)
  | 0, _ => ⟨0, fun k hk => absurd hk (Nat.not_lt_zero _), Or.inr (fun k hk => absurd hk (Nat.not_lt_zero _))⟩
  | n + 1, h => by
    rw [dr_cnt] at h
    by_cases e : g n = true
    · rw [if_pos e] at h
      have h0 := (dr_cnt_0 (g := g) (n := n)).mp (by omega)
      refine ⟨n, fun k hk hg => ?_, Or.inl (Nat.lt_succ_self n)⟩
      by_cases z : k = n
      · exact z
      · rw [h0 k (by omega)] at hg; cases hg
    · rw [if_neg e] at h
      obtain ⟨d, h1, h2⟩ := dr_cnt_1 (g := g) (n := n) (by omega)
      refine ⟨d, fun k hk hg => ?_, ?_⟩
      · by_cases z : k = n
        · subst z; exact absurd hg e
        · exact h1 k (by omega) hg
      · rcases h2 with h2 | h2
        · exact Or.inl (by omega)
        · refine Or.inr (fun k hk => ?_)
          by_cases z : k = n
          · subst z; simpa using e
          · exact h2 k (by omega)
theorem dr_two {g : Nat → Bool} : ∀ {n : Nat}, 2 ≤ n → dr_cnt g n ≤ 2 → ∃ d1 d2, d1 < d2 ∧ d2 < n ∧ ∀ k, k < n → g k = true → k = d1 ∨ k = d2
  | 0, h, _ => by omega
  | 1, h, _ => by omega
  | n + 2, _, h => by
    by_cases e : g (n + 1) = true
    · have hh := h
      rw [dr_cnt, if_pos e] at hh
      obtain ⟨d, h1, h2⟩ := dr_cnt_1 (g := g) (n := n + 1) (by omega)
      by_cases z : d < n + 1
      · refine ⟨d, n + 1, z, by omega, fun k hk hg => ?_⟩
        by_cases y : k = n + 1
        · exact Or.inr y
        · exact Or.inl (h1 k (by omega) hg)
      · refine ⟨0, n + 1, by omega, by omega, fun k hk hg => ?_⟩
        by_cases y : k = n + 1
        · exact Or.inr y
        · rcases h2 with h2 | h2
          · omega
          · rw [h2 k (by omega)] at hg; cases hg
    · have hh := h
      rw [dr_cnt, if_neg e] at hh
      by_cases y : n = 0
      · subst y
        refine ⟨0, 1, by omega, by omega, fun k hk _ => by omega⟩
      · obtain ⟨d1, d2, h1, h2, h3⟩ := dr_two (g := g) (n := n + 1) (by omega) (by omega)
        refine ⟨d1, d2, h1, by omega, fun k hk hg => ?_⟩
        by_cases z : k = n + 1
        · subst z; exact absurd hg e
        · exact h3 k (by omega) hg
/-- two full contents that agree on all drives but two agree -/
theorem dr_unique {P : Nat} (h : dr_P P) {ms : Nat → Bool} (hm : dr_cnt ms P ≤ 2) {T T' : Nat → Int32} (hT : dr_Full P T) (hT' : dr_Full P T') (he : ∀ c, c < P * P → ms (c / P) = false → T c = T' c) : ∀ c, c < P * P → T c = T' c := by
  have hp := h.le
  obtain ⟨d1, d2, h1, h2, h3⟩ := dr_two (g := ms) (n := P) (by omega) hm
  refine dr_closed h h1 h2 (fun c => T c = T' c) (fun c hc g1 g2 => he c hc ?_) ?_
  · cases hmm : ms (c / P) with
    | false => rfl
    | true =>
      rcases h3 (c / P) (dr_split hc).2.1 hmm with z | z
      · exact absurd z g1
      · exact absurd z g2
  · intro o row ho hr j hj hk
    have := dr_xs_one (f := fun k => T (dr_mm P o row k)) (g := fun k => T' (dr_mm P o row k)) hj hk
    rw [hT.xs h ho hr, hT'.xs h ho hr, Int32.xor_self] at this
    exact Int32.xor_eq_zero_iff.mp this.symm
/-! Math.floorMod at the places where it's called -/
theorem dr_fm_all : ([5, 7, 11, 13].all fun P => (List.range P).all fun o => (List.range (P - 1)).all fun k => [P - 2, P - 1].all fun row => decide (dr_fm (nI o + dr_step P k row) (nI P) = nI (dr_dd P o k row)) && decide (dr_fm (nI o - dr_step P k row) (nI P) = nI (dr_pd P o k row))) = true := by decide +kernel
theorem dr_fm_at {P o k row : Nat} (h : dr_P P) (ho : o < P) (hk : k < P - 1) (hr : dr_row P row) : dr_fm (nI o + dr_step P k row) (nI P) = nI (dr_dd P o k row) ∧ dr_fm (nI o - dr_step P k row) (nI P) = nI (dr_pd P o k row) := by
  have key := dr_fm_all
  rw [List.all_eq_true] at key
  have k1 := key P (by rcases h with rfl | rfl | rfl | rfl <;> decide)
  rw [List.all_eq_true] at k1
  have k2 := k1 o (List.mem_range.mpr ho)
  rw [List.all_eq_true] at k2
  have k3 := k2 k (List.mem_range.mpr hk)
  rw [List.all_eq_true] at k3
  have k4 := k3 row (by rcases hr with rfl | rfl <;> simp)
  rw [Bool.and_eq_true, decide_eq_true_eq, decide_eq_true_eq] at k4
  exact k4
theorem rf_pt_all : ([5, 7, 11, 13].all fun P => (List.range P).all fun o => (List.range (P - 1)).all fun k => decide (nI o - nI k - nI 2 + nI (2 * P) = nI (o + 2 * P - (k + 2)))) = true := by decide +kernel
theorem rf_pt_at {P o k : Nat} (h : dr_P P) (ho : o < P) (hk : k < P - 1) : nI o - nI k - nI 2 + nI (2 * P) = nI (o + 2 * P - (k + 2)) := by
  have key := rf_pt_all
  rw [List.all_eq_true] at key
  have k1 := key P (by rcases h with rfl | rfl | rfl | rfl <;> decide)
  rw [List.all_eq_true] at k1
  have k2 := k1 o (List.mem_range.mpr ho)
  rw [List.all_eq_true] at k2
  have k3 := k2 k (List.mem_range.mpr hk)
  exact decide_eq_true_eq.mp k3
