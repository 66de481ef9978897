theorem dr_any_true {g : Nat → Bool} : ∀ {n i : Nat}, i < n → g i = true → dr_any g n = true
  | 0, i, h, _ => absurd h (Nat.not_lt_zero _)
  | n + 1, i, h, hg => by
    rw [dr_any]
    by_cases e : i = n
    · subst e; rw [hg]; simp
    · rw [dr_any_true (n := n) (i := i) (by omega) hg]; simp
theorem dr_any_false {g : Nat → Bool} : ∀ {n : Nat}, dr_any g n = false ↔ ∀ k, k < n → g k = false
  | 0 => by simp [dr_any]
  | n + 1 => by
    rw [dr_any, Bool.or_eq_false_iff, dr_any_false (n := n)]
    constructor
    · rintro ⟨h1, h2⟩ k hk
      by_cases e : k = n
      · subst e; exact h2
      · exact h1 k (by omega)
    · intro h
      exact ⟨fun k hk => h k (by omega), h n (by omega)⟩
theorem dr_sh_le (P : Nat) (kn : Nat → Bool) (o row : Nat) : ∀ n, dr_sh P kn o row n ≤ n + 1
  | 0 => by rw [dr_sh]; split <;> omega
  | n + 1 => by have := dr_sh_le P kn o row n; rw [dr_sh]; split <;> omega
theorem dr_so_lt {P : Nat} (h : dr_P P) {kn : Nat → Bool} {o row : Nat} (ho : o < P) (hr : dr_row P row) : ∀ n, n ≤ P - 2 → dr_so P kn o row n < P * P
  | 0, _ => by have := h.le; rw [dr_so]; exact dr_pl ho (by rcases hr with rfl | rfl <;> omega)
  | n + 1, hn => by
    have := h.le
    rw [dr_so]
    split
    · exact dr_so_lt h ho hr n (by omega)
    · exact dr_pl (dr_dd_lt h) (by omega)
theorem dr_tl_stop {P : Nat} {x : dr_T} (h : ¬ 0 < x.2.2) : ∀ n, dr_tl P n x = x
  | 0 => rfl
  | n + 1 => by rw [dr_tl, if_neg h]
theorem dr_PP2 {P : Nat} (h : dr_P P) : 15 ≤ P * (P - 2) ∧ P * (P - 2) ≤ 143 := by
  rcases h with rfl | rfl | rfl | rfl <;> decide
theorem dr_un_le (P : Nat) (ms : Nat → Bool) : ∀ n, dr_un P ms n ≤ n * P
  | 0 => by rw [dr_un]; omega
  | n + 1 => by have := dr_un_le P ms n; rw [dr_un, Nat.add_mul]; split <;> omega
