/-! the teller tells a stripe's full content -/
theorem dr_ss_eq {P : Nat} (tw : Nat → Int32) (o row : Nat) : ∀ n, dr_ss P tw o row n = dr_sum P tw o row n ^^^ tw (o * P + row)
  | 0 => by simp [dr_ss, dr_sum, dr_xs]
  | n + 1 => by
    rw [dr_ss, dr_ss_eq tw o row n]
    show _ = dr_sum P tw o row n ^^^ tw (dr_dd P o n row * P + n) ^^^ tw (o * P + row)
    ac_rfl
theorem dr_sh_spec {P : Nat} (h : dr_P P) (kn : Nat → Bool) (o row : Nat) : ∀ n, n ≤ P - 2 →
    (dr_sh P kn o row n = 0 → dr_so P kn o row n = o * P + row ∧ kn (dr_mm P o row (P - 2)) = true ∧ ∀ k, k < n → kn (dr_mm P o row k) = true) ∧
    (dr_sh P kn o row n = 1 → ∃ j, (j < n ∨ j = P - 2) ∧ dr_so P kn o row n = dr_mm P o row j ∧ kn (dr_mm P o row j) = false ∧ ∀ k, (k < n ∨ k = P - 2) → k ≠ j → kn (dr_mm P o row k) = true)
  | 0, _ => by
    have e : dr_mm P o row (P - 2) = o * P + row := by simp [dr_mm]
    rw [dr_sh, dr_so, e]
    constructor
    · intro hz
      by_cases g : kn (o * P + row) = true
      · exact ⟨rfl, g, fun k hk => absurd hk (Nat.not_lt_zero _)⟩
      · rw [if_neg g] at hz; cases hz
    · intro hz
      by_cases g : kn (o * P + row) = true
      · rw [if_pos g] at hz; cases hz
      · refine ⟨P - 2, Or.inr rfl, e.symm, by rw [e]; simpa using g, fun k hk hkj => ?_⟩
        rcases hk with hk | hk
        · exact absurd hk (Nat.not_lt_zero _)
        · exact absurd hk hkj
  | n + 1, hn => by
    have hp := h.le
    obtain ⟨i0, i1⟩ := dr_sh_spec h kn o row n (by omega)
    have e : dr_mm P o row n = dr_dd P o n row * P + n := by unfold dr_mm; rw [if_neg (by omega)]
    rw [dr_sh, dr_so, ← e]
    by_cases g : kn (dr_mm P o row n) = true
    · rw [if_pos g, if_pos g, Nat.add_zero]
      constructor
      · intro hz
        obtain ⟨a, b, c⟩ := i0 hz
        refine ⟨a, b, fun k hk => ?_⟩
        by_cases y : k = n
        · rw [y]; exact g
        · exact c k (by omega)
      · intro hz
        obtain ⟨j, a, b, c, d⟩ := i1 hz
        refine ⟨j, by omega, b, c, fun k hk hkj => ?_⟩
        by_cases y : k = n
        · rw [y]; exact g
        · exact d k (by omega) hkj
    · rw [if_neg g, if_neg g]
      constructor
      · intro hz; omega
      · intro hz
        obtain ⟨a, b, c⟩ := i0 (by omega)
        refine ⟨n, by omega, rfl, by simpa using g, fun k hk hkj => ?_⟩
        rcases hk with hk | hk
        · exact c k (by omega)
        · rw [hk]; exact b
theorem dr_sh_1 {P : Nat} (h : dr_P P) (kn : Nat → Bool) (o row j : Nat) (hj : j < P - 1) (hf : kn (dr_mm P o row j) = false) (ha : ∀ k, k < P - 1 → k ≠ j → kn (dr_mm P o row k) = true) : dr_sh P kn o row (P - 2) = 1 := by
  have hp := h.le
  have e : dr_mm P o row (P - 2) = o * P + row := by simp [dr_mm]
  have key : ∀ n, n ≤ P - 2 → dr_sh P kn o row n = if j < n ∨ j = P - 2 then 1 else 0 := by
    intro n
    induction n with
    | zero =>
      intro _
      rw [dr_sh, ← e]
      by_cases z : j = P - 2
      · rw [z] at hf; rw [hf]; simp [z]
      · rw [ha (P - 2) (by omega) (fun y => z y.symm)]; simp [z]
    | succ n ih =>
      intro hn
      have en : dr_mm P o row n = dr_dd P o n row * P + n := by unfold dr_mm; rw [if_neg (by omega)]
      rw [dr_sh, ih (by omega), ← en]
      by_cases z : j = n
      · subst z; rw [hf]
        rw [if_neg (show ¬ (j < j ∨ j = P - 2) by omega), if_pos (show j < j + 1 ∨ j = P - 2 by omega)]
        simp
      · rw [ha n (by omega) (fun y => z y.symm)]
        by_cases z2 : j < n ∨ j = P - 2
        · rw [if_pos z2, if_pos (show j < n + 1 ∨ j = P - 2 by omega)]; simp
        · rw [if_neg z2, if_neg (show ¬ (j < n + 1 ∨ j = P - 2) by omega)]; simp
  rw [key (P - 2) (Nat.le_refl _), if_pos (by omega)]
abbrev dr_U (P : Nat) (kn : Nat → Bool) : Nat := dr_cnt (fun c => !kn c) (P * P)
def dr_TI (P : Nat) (T : Nat → Int32) (x : dr_T) : Prop := (∀ c, c < P * P → x.1 c = true → x.2.1 c = T c) ∧ (∀ c, c < P * P → x.1 c = false → x.2.1 c = 0) ∧ x.2.2 = nI (dr_U P x.1)
theorem dr_cnt_up {g : Nat → Bool} : ∀ {n j : Nat}, j < n → g j = false → dr_cnt (fun c => !(va_up g j true c)) n + 1 = dr_cnt (fun c => !g c) n
  | 0, j, h, _ => absurd h (Nat.not_lt_zero _)
  | n + 1, j, hj, hg => by
    rw [dr_cnt, dr_cnt]
    by_cases e : j = n
    · subst e
      rw [dr_cnt_congr (f := fun c => !(va_up g j true c)) (g := fun c => !g c) (n := j) (fun k hk => by rw [va_up_n (by omega)])]
      rw [va_up_s, hg]
      simp
    · have := dr_cnt_up (g := g) (n := n) (j := j) (by omega) hg
      rw [va_up_n (fun z => e z.symm)]
      omega
/-- one settling: the hole, if it's the only one, gets what belongs there; or nothing happens -/
theorem dr_st_ok {P : Nat} (h : dr_P P) {T : Nat → Int32} (hT : dr_Full P T) {o row : Nat} (ho : o < P) (hr : dr_row P row) {x : dr_T} (hx : dr_TI P T x) :
    dr_TI P T (dr_st P o row x) ∧ (dr_sh P x.1 o row (P - 2) = 1 → dr_U P (dr_st P o row x).1 + 1 = dr_U P x.1) ∧ (dr_sh P x.1 o row (P - 2) ≠ 1 → dr_st P o row x = x) := by
  have hp := h.le
  unfold dr_st
  by_cases g : dr_sh P x.1 o row (P - 2) = 1
  · rw [if_pos g]
    obtain ⟨j, hj, e1, e2, e3⟩ := (dr_sh_spec h x.1 o row (P - 2) (Nat.le_refl _)).2 g
    have hj' : j < P - 1 := by omega
    have hl := dr_mm_lt h ho hr hj'
    rw [e1]
    have hval : dr_ss P x.2.1 o row (P - 2) = T (dr_mm P o row j) := by
      rw [dr_ss_eq, ← dr_mm_sum h]
      have h1 := dr_xs_one (f := fun k => x.2.1 (dr_mm P o row k)) (g := fun k => T (dr_mm P o row k)) (n := P - 1) (j := j) hj' (fun k hk hkj => hx.1 _ (dr_mm_lt h ho hr hk) (e3 k (by omega) hkj))
      rw [hT.xs h ho hr, Int32.xor_zero, hx.2.1 _ hl e2, Int32.zero_xor] at h1
      exact h1
    have hcu := dr_cnt_up (g := x.1) (n := P * P) (j := dr_mm P o row j) hl e2
    refine ⟨⟨fun c hc hk => ?_, fun c hc hk => ?_, ?_⟩, fun _ => hcu, fun z => absurd g z⟩
    · show va_up x.2.1 (dr_mm P o row j) _ c = T c
      by_cases z : c = dr_mm P o row j
      · subst z; rw [va_up_s]; exact hval
      · rw [va_up_n z]
        exact hx.1 c hc (by rw [← hk]; exact (va_up_n z).symm)
    · show va_up x.2.1 (dr_mm P o row j) _ c = 0
      by_cases z : c = dr_mm P o row j
      · subst z
        have : va_up x.1 (dr_mm P o row j) true (dr_mm P o row j) = true := va_up_s
        rw [show (va_up x.1 (dr_mm P o row j) true, va_up x.2.1 (dr_mm P o row j) (dr_ss P x.2.1 o row (P - 2)), x.2.2 - 1).1 (dr_mm P o row j) = true from this] at hk
        cases hk
      · rw [va_up_n z]
        exact hx.2.1 c hc (by rw [← hk]; exact (va_up_n z).symm)
    · show x.2.2 - 1 = nI (dr_U P (va_up x.1 (dr_mm P o row j) true))
      rw [hx.2.2, show dr_U P x.1 = dr_U P (va_up x.1 (dr_mm P o row j) true) + 1 from hcu.symm]
      exact nI_pred _
  · rw [if_neg g]
    exact ⟨hx, fun z => absurd z g, fun _ => rfl⟩
theorem dr_rd_ok {P : Nat} (h : dr_P P) {T : Nat → Int32} (hT : dr_Full P T) {x : dr_T} (hx : dr_TI P T x) : ∀ n, n ≤ P →
    dr_TI P T (dr_rd P x n) ∧ dr_U P (dr_rd P x n).1 ≤ dr_U P x.1 ∧ (dr_U P (dr_rd P x n).1 = dr_U P x.1 → dr_rd P x n = x ∧ ∀ o row, o < n → dr_row P row → dr_sh P x.1 o row (P - 2) ≠ 1)
  | 0, _ => ⟨hx, Nat.le_refl _, fun _ => ⟨rfl, fun o _ ho => absurd ho (Nat.not_lt_zero _)⟩⟩
  | n + 1, hn => by
    obtain ⟨a1, a2, a3⟩ := dr_rd_ok h hT hx n (by omega)
    rw [dr_rd]
    obtain ⟨b1, b2, b3⟩ := dr_st_ok h hT (o := n) (row := P - 2) (by omega) (Or.inl rfl) a1
    obtain ⟨c1, c2, c3⟩ := dr_st_ok h hT (o := n) (row := P - 1) (by omega) (Or.inr rfl) b1
    refine ⟨c1, ?_, ?_⟩
    · by_cases g1 : dr_sh P (dr_rd P x n).1 n (P - 2) (P - 2) = 1 <;> by_cases g2 : dr_sh P (dr_st P n (P - 2) (dr_rd P x n)).1 n (P - 1) (P - 2) = 1
      · have := b2 g1; have := c2 g2; omega
      · have := b2 g1; rw [c3 g2]; omega
      · rw [b3 g1] at c2 g2 ⊢; have := c2 g2; omega
      · rw [c3 g2, b3 g1]; exact a2
    · intro he
      by_cases g1 : dr_sh P (dr_rd P x n).1 n (P - 2) (P - 2) = 1
      · exfalso
        have u1 := b2 g1
        by_cases g2 : dr_sh P (dr_st P n (P - 2) (dr_rd P x n)).1 n (P - 1) (P - 2) = 1
        · have := c2 g2; omega
        · rw [c3 g2] at he; omega
      · rw [b3 g1] at he c2 c3 ⊢
        by_cases g2 : dr_sh P (dr_rd P x n).1 n (P - 1) (P - 2) = 1
        · exfalso
          have := c2 g2; omega
        · rw [c3 g2] at he ⊢
          obtain ⟨d1, d2⟩ := a3 he
          rw [d1] at g1 g2 ⊢
          refine ⟨rfl, fun o row ho hr => ?_⟩
          by_cases z : o = n
          · subst z
            rcases hr with rfl | rfl
            · exact g1
            · exact g2
          · exact d2 o row (by omega) hr
theorem dr_U_lt {P : Nat} (h : dr_P P) (kn : Nat → Bool) : dr_U P kn < 2 ^ 31 := by
  have h1 := dr_cnt_le (g := fun c => !kn c) (P * P)
  have h2 := dr_PP h
  show dr_cnt (fun c => !kn c) (P * P) < 2 ^ 31
  omega
theorem dr_tl_ok {P : Nat} (h : dr_P P) {T : Nat → Int32} (hT : dr_Full P T) {d1 d2 : Nat} (h1 : d1 < d2) (h2 : d2 < P) : ∀ (n : Nat) (x : dr_T), dr_TI P T x → dr_U P x.1 ≤ n → (∀ c, c < P * P → c / P ≠ d1 → c / P ≠ d2 → x.1 c = true) →
    ∀ c, c < P * P → (dr_tl P n x).2.1 c = T c
  | 0, x, hx, hu, _, c, hc => by
    have h0 := dr_cnt_0.mp (Nat.le_zero.mp hu) c hc
    exact hx.1 c hc (by simpa using h0)
  | n + 1, x, hx, hu, hk, c, hc => by
    rw [dr_tl]
    by_cases g : 0 < x.2.2
    · rw [if_pos g]
      have hpos : 0 < dr_U P x.1 := by
        rw [hx.2.2] at g
        exact (nI_ltI (a := 0) (by decide) (dr_U_lt h _)).mp g
      obtain ⟨a1, a2, a3⟩ := dr_rd_ok h hT hx P (Nat.le_refl _)
      have hlt : dr_U P (dr_rd P x P).1 < dr_U P x.1 := by
        rcases Nat.lt_or_ge (dr_U P (dr_rd P x P).1) (dr_U P x.1) with z | z
        · exact z
        · exfalso
          obtain ⟨-, e2⟩ := a3 (by omega)
          have hall := dr_closed h h1 h2 (fun c => x.1 c = true) hk (fun o row ho hr j hj ha => by
            cases hb : x.1 (dr_mm P o row j) with
            | true => rfl
            | false => exact absurd (dr_sh_1 h x.1 o row j hj hb ha) (e2 o row ho hr))
          have : dr_U P x.1 = 0 := dr_cnt_0.mpr (fun k hk' => by rw [hall k hk']; rfl)
          omega
      refine dr_tl_ok h hT h1 h2 n _ a1 (by omega) ?_ c hc
      have mono : ∀ m, ∀ c, x.1 c = true → (dr_rd P x m).1 c = true := by
        have st : ∀ (o row : Nat) (y : dr_T) (c : Nat), y.1 c = true → (dr_st P o row y).1 c = true := by
          intro o row y c hy
          unfold dr_st
          split
          · show va_up y.1 _ true c = true
            unfold va_up
            split
            · rfl
            · exact hy
          · exact hy
        intro m
        induction m with
        | zero => intro c hc; exact hc
        | succ m ih => intro c hc; rw [dr_rd]; exact st _ _ _ _ (st _ _ _ _ (ih c hc))
      exact fun c hc g1 g2 => mono P c (hk c hc g1 g2)
    · rw [if_neg g]
      have hz : dr_U P x.1 = 0 := by
        rcases Nat.eq_zero_or_pos (dr_U P x.1) with z | z
        · exact z
        · exfalso
          apply g
          rw [hx.2.2]
          exact (nI_ltI (a := 0) (by decide) (dr_U_lt h _)).mpr z
      have h0 := dr_cnt_0.mp hz c hc
      exact hx.1 c hc (by simpa using h0)
/-! loading -/
theorem dr_lk_at {P : Nat} (ms : Nat → Bool) (d : Nat) (kn : Nat → Bool) : ∀ n, n ≤ P → ∀ c, dr_lk P ms d kn n c = if c / P = d ∧ c % P < n then !ms d else kn c
  | 0, _, c => by simp [dr_lk]
  | n + 1, hn, c => by
    rw [dr_lk]
    by_cases e : c = d * P + n
    · subst e
      rw [va_up_s, dr_pl_div (by omega), dr_pl_mod (by omega)]
      simp
    · rw [va_up_n e, dr_lk_at ms d kn n (by omega) c]
      have hne : ¬ (c / P = d ∧ c % P = n) := by
        rintro ⟨h1, h2⟩
        apply e
        rw [← h1, ← h2, Nat.mul_comm]
        exact (Nat.div_add_mod c P).symm
      by_cases z : c / P = d ∧ c % P < n
      · rw [if_pos z, if_pos (show c / P = d ∧ c % P < n + 1 from ⟨z.1, by omega⟩)]
      · rw [if_neg z, if_neg (show ¬ (c / P = d ∧ c % P < n + 1) by omega)]
theorem dr_lw_at {P : Nat} (ms : Nat → Bool) (w : Nat → Int32) (d : Nat) (tw : Nat → Int32) : ∀ n, n ≤ P → ∀ c, dr_lw P ms w d tw n c = if c / P = d ∧ c % P < n then (if ms d = true then 0 else w c) else tw c
  | 0, _, c => by simp [dr_lw]
  | n + 1, hn, c => by
    rw [dr_lw]
    by_cases e : c = d * P + n
    · subst e
      rw [va_up_s, dr_pl_div (by omega), dr_pl_mod (by omega)]
      simp
    · rw [va_up_n e, dr_lw_at ms w d tw n (by omega) c]
      have hne : ¬ (c / P = d ∧ c % P = n) := by
        rintro ⟨h1, h2⟩
        apply e
        rw [← h1, ← h2, Nat.mul_comm]
        exact (Nat.div_add_mod c P).symm
      by_cases z : c / P = d ∧ c % P < n
      · rw [if_pos z, if_pos (show c / P = d ∧ c % P < n + 1 from ⟨z.1, by omega⟩)]
      · rw [if_neg z, if_neg (show ¬ (c / P = d ∧ c % P < n + 1) by omega)]
theorem dr_LK_at {P : Nat} (hp : 0 < P) (ms : Nat → Bool) (kn : Nat → Bool) : ∀ n, ∀ c, dr_LK P ms kn n c = if c / P < n then !ms (c / P) else kn c
  | 0, c => by simp [dr_LK]
  | n + 1, c => by
    rw [dr_LK, dr_lk_at ms n _ P (Nat.le_refl _) c, dr_LK_at hp ms kn n c]
    have := Nat.mod_lt c hp
    by_cases z : c / P = n
    · rw [if_pos (show c / P = n ∧ c % P < P from ⟨z, this⟩), if_pos (show c / P < n + 1 by omega), z]
    · rw [if_neg (show ¬ (c / P = n ∧ c % P < P) from fun y => z y.1)]
      by_cases z2 : c / P < n
      · rw [if_pos z2, if_pos (show c / P < n + 1 by omega)]
      · rw [if_neg z2, if_neg (show ¬ c / P < n + 1 by omega)]
theorem dr_LW_at {P : Nat} (hp : 0 < P) (ms : Nat → Bool) (w tw : Nat → Int32) : ∀ n, ∀ c, dr_LW P ms w tw n c = if c / P < n then (if ms (c / P) = true then 0 else w c) else tw c
  | 0, c => by simp [dr_LW]
  | n + 1, c => by
    rw [dr_LW, dr_lw_at ms w n _ P (Nat.le_refl _) c, dr_LW_at hp ms w tw n c]
    have := Nat.mod_lt c hp
    by_cases z : c / P = n
    · rw [if_pos (show c / P = n ∧ c % P < P from ⟨z, this⟩), if_pos (show c / P < n + 1 by omega), z]
    · rw [if_neg (show ¬ (c / P = n ∧ c % P < P) from fun y => z y.1)]
      by_cases z2 : c / P < n
      · rw [if_pos z2, if_pos (show c / P < n + 1 by omega)]
      · rw [if_neg z2, if_neg (show ¬ c / P < n + 1 by omega)]
theorem dr_cnt_add (g : Nat → Bool) (a : Nat) : ∀ b, dr_cnt g (a + b) = dr_cnt g a + dr_cnt (fun k => g (a + k)) b
  | 0 => by simp [dr_cnt]
  | b + 1 => by rw [← Nat.add_assoc, dr_cnt, dr_cnt, dr_cnt_add g a b]; omega
theorem dr_cnt_all {g : Nat → Bool} {x : Bool} : ∀ {n : Nat}, (∀ k, k < n → g k = x) → dr_cnt g n = if x = true then n else 0
  | 0, _ => by simp [dr_cnt]
  | n + 1, h => by
    rw [dr_cnt, dr_cnt_all (fun k hk => h k (Nat.lt_succ_of_lt hk)), h n (Nat.lt_succ_self n)]
    cases x <;> simp
theorem dr_un_eq {P : Nat} (hp : 0 < P) (ms : Nat → Bool) : ∀ n, dr_cnt (fun c => ms (c / P)) (n * P) = dr_un P ms n
  | 0 => by simp [dr_cnt, dr_un]
  | n + 1 => by
    rw [Nat.add_mul, Nat.one_mul, dr_cnt_add, dr_un_eq hp ms n, dr_un, dr_cnt_all (x := ms n) (fun k hk => by rw [dr_pl_div hk])]
theorem dr_ld_ok {P : Nat} (h : dr_P P) {T : Nat → Int32} {ms : Nat → Bool} {w : Nat → Int32} (hw : ∀ c, c < P * P → ms (c / P) = false → w c = T c) (kn : Nat → Bool) (tw : Nat → Int32) : dr_TI P T (dr_ld P ms w kn tw) ∧ dr_U P (dr_ld P ms w kn tw).1 = dr_un P ms P := by
  have hp := h.le
  have hp0 : 0 < P := by omega
  have hu : dr_U P (dr_LK P ms kn P) = dr_un P ms P := by
    rw [← dr_un_eq hp0 ms P]
    refine dr_cnt_congr (fun c hc => ?_)
    rw [dr_LK_at hp0, if_pos (dr_split hc).2.1]
    simp
  refine ⟨⟨fun c hc hk => ?_, fun c hc hk => ?_, ?_⟩, hu⟩
  · show dr_LW P ms w tw P c = T c
    have hk : dr_LK P ms kn P c = true := hk
    rw [dr_LK_at hp0, if_pos (dr_split hc).2.1] at hk
    have hm : ms (c / P) = false := by simpa using hk
    rw [dr_LW_at hp0, if_pos (dr_split hc).2.1, hm]
    simpa using hw c hc hm
  · show dr_LW P ms w tw P c = 0
    have hk : dr_LK P ms kn P c = false := hk
    rw [dr_LK_at hp0, if_pos (dr_split hc).2.1] at hk
    have hm : ms (c / P) = true := by simpa using hk
    rw [dr_LW_at hp0, if_pos (dr_split hc).2.1, hm]
    simp
  · show nI (dr_un P ms P) = nI (dr_U P (dr_LK P ms kn P))
    rw [hu]
/-- THE CLASS TELLS -/
theorem dr_told {P : Nat} (h : dr_P P) {T : Nat → Int32} (hT : dr_Full P T) {ms : Nat → Bool} {w : Nat → Int32} (hw : ∀ c, c < P * P → ms (c / P) = false → w c = T c) (hm : dr_cnt ms P ≤ 2) (kn : Nat → Bool) (tw : Nat → Int32) :
    ∀ c, c < P * P → (dr_tell P ms w kn tw).2.1 c = T c := by
  have hp := h.le
  have hp0 : 0 < P := by omega
  obtain ⟨d1, d2, h1, h2, h3⟩ := dr_two (g := ms) (n := P) (by omega) hm
  obtain ⟨i1, i2⟩ := dr_ld_ok h hw kn tw
  refine dr_tl_ok h hT h1 h2 (dr_un P ms P) _ i1 (by rw [i2]; exact Nat.le_refl _) (fun c hc g1 g2 => ?_)
  show dr_LK P ms kn P c = true
  rw [dr_LK_at hp0, if_pos (dr_split hc).2.1]
  cases hmm : ms (c / P) with
  | false => rfl
  | true =>
    rcases h3 (c / P) (dr_split hc).2.1 hmm with z | z
    · exact absurd z g1
    · exact absurd z g2
