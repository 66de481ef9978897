/-! for the reference's solve -/
def rf_w (P : Nat) (W : Nat → Int32) (s c : Nat) : Int32 := W (169 * s + 13 * (c / P) + c % P)
theorem rf_w_at {P : Nat} {W : Nat → Int32} {s d k : Nat} (hk : k < P) : rf_w P W s (d * P + k) = W (169 * s + 13 * d + k) := by
  unfold rf_w
  rw [dr_pl_div hk, dr_pl_mod hk]
theorem rf_row_lt {P : Nat} (h : dr_P P) (e : Nat) : rf_row P e < P := by
  have := h.le
  rcases rf_row_ok P e with z | z <;> rw [z] <;> omega
theorem rf_r_row (P e : Nat) : rf_r P (decide (P ≤ e)) = rf_row P e := by
  unfold rf_r rf_row
  by_cases h : e < P
  · rw [if_pos h, if_neg (by simp; omega)]
  · rw [if_neg h, if_pos (by simp; omega)]
def rf_B (P : Nat) (mi : Nat → Nat) (nm : Nat) (bt : Nat → Nat) : Nat → (Nat → Nat)
  | 0 => bt
  | e + 1 => va_up (rf_B P mi nm bt e) e (rf_be P mi nm (e % P) (rf_row P e) (P - 2))
def rf_S (P : Nat) (mi : Nat → Nat) (nm : Nat) (w : Nat → Int32) (su : Nat → Int32) : Nat → (Nat → Int32)
  | 0 => su
  | e + 1 => va_up (rf_S P mi nm w su e) e (rf_se P mi nm w (e % P) (rf_row P e) (P - 2))
theorem rf_B_at {P : Nat} {mi : Nat → Nat} {nm : Nat} {bt : Nat → Nat} : ∀ n e, e < n → rf_B P mi nm bt n e = rf_be P mi nm (e % P) (rf_row P e) (P - 2)
  | 0, e, h => absurd h (Nat.not_lt_zero _)
  | n + 1, e, h => by
    rw [rf_B]
    by_cases z : e = n
    · subst z; rw [va_up_s]
    · rw [va_up_n z]; exact rf_B_at n e (by omega)
theorem rf_S_at {P : Nat} {mi : Nat → Nat} {nm : Nat} {w su : Nat → Int32} : ∀ n e, e < n → rf_S P mi nm w su n e = rf_se P mi nm w (e % P) (rf_row P e) (P - 2)
  | 0, e, h => absurd h (Nat.not_lt_zero _)
  | n + 1, e, h => by
    rw [rf_S]
    by_cases z : e = n
    · subst z; rw [va_up_s]
    · rw [va_up_n z]; exact rf_S_at n e (by omega)
def rf_K (s kv : Nat → Int32) : Nat → (Nat → Int32)
  | 0 => kv
  | j + 1 => va_up (rf_K s kv j) j (s j)
theorem rf_K_at {s kv : Nat → Int32} : ∀ n j, j < n → rf_K s kv n j = s j
  | 0, j, h => absurd h (Nat.not_lt_zero _)
  | n + 1, j, h => by
    rw [rf_K]
    by_cases z : j = n
    · subst z; rw [va_up_s]
    · rw [va_up_n z]; exact rf_K_at n j (by omega)
theorem rf_if1 {c : Bool} (h : (if c = true then 1 else 0) ≠ 0) : c = true := by cases c <;> simp at h ⊢
theorem rf_if0 {c : Bool} (h : (if c = true then 1 else 0) = 0) : c = false := by cases c <;> simp at h ⊢
theorem rf_y1 {c : Bool} (h : (if c = true then 1 else 0) = 1) : c = true := by cases c <;> simp at h ⊢
theorem rf_n1 {c : Bool} (h : (if c = true then 1 else 0) ≠ 1) : c = false := by cases c <;> simp at h ⊢
theorem rf_if_lt (c : Bool) : (if c = true then 1 else 0) < 2 ^ 31 := by cases c <;> decide
theorem rf_ext {p : Nat → Prop} {i r : Nat} (h : ∀ t, i ≤ t → t < r → p t) (hr : p r) : ∀ t, i ≤ t → t < r + 1 → p t := fun t h1 h2 => by
  by_cases z : t = r
  · rw [z]; exact hr
  · exact h t h1 (by omega)
theorem rf_sw_self {α : Type} (f : Nat → α) (i j : Nat) : rf_sw f i j i = f j := by rw [rf_sw_at, if_pos rfl]
theorem rf_eb_f1 {b : Nat → Nat} {u j : Nat} (h : j = u) : rf_eb b u (j + 1) = rf_eb b u j := by rw [rf_eb, if_neg (fun z => z.1 h)]
theorem rf_eb_f2 {b : Nat → Nat} {u j : Nat} (h : (rf_eb b u j j).testBit u = false) : rf_eb b u (j + 1) = rf_eb b u j := by rw [rf_eb, if_neg (fun z => by rw [h] at z; cases z.2)]
theorem rf_eb_t {b : Nat → Nat} {u j : Nat} (h1 : j ≠ u) (h : (rf_eb b u j j).testBit u = true) : rf_eb b u (j + 1) = va_up (rf_eb b u j) j (rf_eb b u j j ^^^ b u) := by rw [rf_eb, if_pos ⟨h1, h⟩]
theorem rf_es_f1 {b : Nat → Nat} {s : Nat → Int32} {u j : Nat} (h : j = u) : rf_es b s u (j + 1) = rf_es b s u j := by rw [rf_es, if_neg (fun z => z.1 h)]
theorem rf_es_f2 {b : Nat → Nat} {s : Nat → Int32} {u j : Nat} (h : (rf_eb b u j j).testBit u = false) : rf_es b s u (j + 1) = rf_es b s u j := by rw [rf_es, if_neg (fun z => by rw [h] at z; cases z.2)]
theorem rf_es_t {b : Nat → Nat} {s : Nat → Int32} {u j : Nat} (h1 : j ≠ u) (h : (rf_eb b u j j).testBit u = true) : rf_es b s u (j + 1) = va_up (rf_es b s u j) j (rf_es b s u j j ^^^ s u) := by rw [rf_es, if_pos ⟨h1, h⟩]
theorem rf_eb_lt {N n u i r j : Nat} {X : Nat → Int32} {b : Nat → Nat} {s : Nat → Int32} (h : rf_GI N n X u (rf_sw b i r) s) (hj : j < N) (hp : 2 ^ n < 2 ^ 31) : rf_eb (rf_sw b i r) u j j < 2 ^ 31 := by
  rw [rf_eb_at, if_neg (fun z => Nat.lt_irrefl _ z.1)]
  exact Nat.lt_trans (h.2.2.2.2 j hj) hp
theorem rf_pow2 {j u : Nat} (h : (2 ^ j).testBit u = true) : u = j := by
  rw [Nat.testBit_two_pow] at h
  exact (of_decide_eq_true h).symm
theorem rf_pow0 {j u : Nat} (h : (2 ^ j).testBit u = false) : u ≠ j := fun z => by
  rw [Nat.testBit_two_pow, z] at h
  simp at h
