/-! the reference's functions -/
theorem rf_sl : ∀ n, n < 32 → ((nI n &&& 31).toBitVec.smod 32).toNat = n := by decide +kernel
theorem rf_shl : ∀ x, x < 26 → nI 1 <<< (nI x &&& 31) = nI (2 ^ x) := by decide +kernel
theorem rf_xor (a b : Nat) : nI a ^^^ nI b = nI (a ^^^ b) := by
  apply Int32.toBitVec_inj.mp
  show BitVec.ofNat 32 a ^^^ BitVec.ofNat 32 b = BitVec.ofNat 32 (a ^^^ b)
  exact BitVec.ofNat_xor.symm
theorem rf_bit {b u : Nat} (hb : b < 2 ^ 31) (hu : u < 32) : (nI b >>> (nI u &&& 31)) &&& nI 1 = nI (if b.testBit u = true then 1 else 0) := by
  rw [pk_shrN hb _ u (rf_sl u hu), pk_andN (Nat.lt_of_le_of_lt (Nat.div_le_self _ _) (by omega)) 1 (by decide)]
  congr 1
  rw [Nat.testBit_eq_decide_div_mod_eq]
  have := Nat.mod_lt (b / 2 ^ u) (show 0 < 2 by decide)
  by_cases h : b / 2 ^ u % 2 = 1
  · simp [h]
  · have h0 : b / 2 ^ u % 2 = 0 := by omega
    simp [h0]
def rf_g (lo fr : Nat → Bool) (s d : Nat) : Bool := lo d || fr (4 * d + s)
def rf_r (P : Nat) (sec : Bool) : Nat := if sec = true then P - 1 else P - 2
theorem rf_r_ok (P : Nat) (sec : Bool) : dr_row P (rf_r P sec) := by
  unfold rf_r
  cases sec
  · exact Or.inl rfl
  · exact Or.inr rfl
theorem rf_r_lt {P : Nat} (h : dr_P P) (sec : Bool) : rf_r P sec < P := by
  have := h.le
  rcases rf_r_ok P sec with z | z <;> rw [z] <;> omega
theorem rf_dd2 {P o k : Nat} (h : dr_P P) (hk : k < P - 2) : (o + 2 * P - (k + 2)) % P = dr_dd P o k (P - 1) := by
  have hp := h.le
  unfold dr_dd
  rw [if_neg (by omega), show o + 2 * P - (k + 2) = (o + P - (k + 2)) + P by omega, Nat.add_mod_right]
theorem rf_ix_none {mi : Nat → Nat} {d n : Nat} (h : ∀ t, t < n → mi t ≠ d) : ¬ rf_ix mi d n < n := fun z => h _ z ((rf_ix_spec mi d n).2.2 z)
theorem rf_mi_lt {g : Nat → Bool} {mi : Nat → Nat} {b : Nat} (h : ∀ t, mi t < b) : ∀ n, n ≤ b → ∀ t, rf_mi g mi n t < b
  | 0, _, t => h t
  | n + 1, hn, t => by
    have ih := rf_mi_lt (g := g) h n (by omega) t
    rw [rf_mi]
    split
    · unfold va_up
      split
      · omega
      · exact ih
    · exact ih
def rf_pa (P : Nat) (W : Nat → Int32) (s o row n : Nat) : Int32 := dr_xs (fun k => W (169 * s + 13 * dr_dd P o k row + k)) n
abbrev rf_X3 : Type := (Nat → Int32) × Bool × Int32
def rf_put (W : Nat → Int32) (lf : Int32) (i : Nat) (v : Int32) : Bool × rf_X3 := if lf = 0 then (false, W, false, -1) else (true, va_up W i v, true, if 0 < lf then lf - 1 else lf)
theorem rf_at {s d k : Nat} (hs : s < 4) (hd : d < 13) (hk : k < 13) : 169 * s + 13 * d + k < 676 := by omega
/-- start: the parities of a stripe, drive by drive -/
def rf_rn1 (P : Nat) (W : Nat → Int32) (s d : Nat) : Nat → Int32 := va_up (va_up W (169 * s + 13 * d + (P - 2)) (rf_pa P W s d (P - 2) (P - 2))) (169 * s + 13 * d + (P - 1)) (rf_pa P (va_up W (169 * s + 13 * d + (P - 2)) (rf_pa P W s d (P - 2) (P - 2))) s d (P - 1) (P - 2))
def rf_rn (P : Nat) (W : Nat → Int32) (s : Nat) : Nat → (Nat → Int32)
  | 0 => W
  | d + 1 => rf_rn1 P (rf_rn P W s d) s d
abbrev rf_Y : Type := Nat × (Nat → Int32) × (Nat → Bool) × Nat × (Nat → Nat)
def rf_sta (P : Nat) (lo fr : Nat → Bool) (y0 : rf_Y) : Nat → rf_Y
  | 0 => y0
  | s + 1 => if (rf_sta P lo fr y0 s).2.2.1 s = true then
      (if dr_cnt (rf_g lo fr s) P = 0 then ((rf_sta P lo fr y0 s).1 + 1, rf_rn P (rf_sta P lo fr y0 s).2.1 s P, va_up (rf_sta P lo fr y0 s).2.2.1 s false, dr_cnt (rf_g lo fr s) P, rf_mi (rf_g lo fr s) (rf_sta P lo fr y0 s).2.2.2.2 P)
       else ((rf_sta P lo fr y0 s).1, (rf_sta P lo fr y0 s).2.1, (rf_sta P lo fr y0 s).2.2.1, dr_cnt (rf_g lo fr s) P, rf_mi (rf_g lo fr s) (rf_sta P lo fr y0 s).2.2.2.2 P))
    else rf_sta P lo fr y0 s
/-- lose: the words of a drive in a stripe, in all stripes -/
def rf_lz (W : Nat → Int32) (s d : Nat) : Nat → (Nat → Int32)
  | 0 => W
  | k + 1 => va_up (rf_lz W s d k) (169 * s + 13 * d + k) 0
def rf_lW (P : Nat) (W : Nat → Int32) (d : Nat) : Nat → (Nat → Int32)
  | 0 => W
  | s + 1 => rf_lz (rf_lW P W d s) s d P
def rf_lF (fr : Nat → Bool) (d : Nat) (x : Bool) : Nat → (Nat → Bool)
  | 0 => fr
  | s + 1 => va_up (rf_lF fr d x s) (4 * d + s) x
def rf_dv (lo fr : Nat → Bool) (n d : Nat) : Nat := if lo d = true then 1 else if dr_any (fun s => fr (4 * d + s)) n = true then 2 else 0
/-- agree: one parity, those below e -/
def rf_wh (P : Nat) (g : Nat → Bool) (o row : Nat) : Nat → Bool
  | 0 => !g o
  | k + 1 => rf_wh P g o row k && !g (dr_dd P o k row)
def rf_ag1 (P : Nat) (g : Nat → Bool) (W : Nat → Int32) (s e : Nat) : Nat := if (rf_wh P g (e % P) (rf_row P e) (P - 2) && decide (W (169 * s + 13 * (e % P) + rf_row P e) = rf_pa P W s (e % P) (rf_row P e) (P - 2))) = true then 1 else 0
def rf_agn (P : Nat) (g : Nat → Bool) (W : Nat → Int32) (s : Nat) : Nat → Nat
  | 0 => 0
  | e + 1 => rf_agn P g W s e + rf_ag1 P g W s e
theorem rf_dv_le (lo fr : Nat → Bool) (n d : Nat) : rf_dv lo fr n d ≤ 2 := by
  unfold rf_dv
  split
  · omega
  · split <;> omega
section STA2
variable {P : Nat} {lo fr : Nat → Bool} {y0 : rf_Y} {s : Nat}
theorem rf_sta_a (h : (rf_sta P lo fr y0 s).2.2.1 s = false) : rf_sta P lo fr y0 (s + 1) = rf_sta P lo fr y0 s := by rw [rf_sta, if_neg (by rw [h]; decide)]
theorem rf_sta_b (h : (rf_sta P lo fr y0 s).2.2.1 s = true) (h2 : dr_cnt (rf_g lo fr s) P ≠ 0) : rf_sta P lo fr y0 (s + 1) = ((rf_sta P lo fr y0 s).1, (rf_sta P lo fr y0 s).2.1, (rf_sta P lo fr y0 s).2.2.1, dr_cnt (rf_g lo fr s) P, rf_mi (rf_g lo fr s) (rf_sta P lo fr y0 s).2.2.2.2 P) := by rw [rf_sta, if_pos h, if_neg h2]
theorem rf_sta_c (h : (rf_sta P lo fr y0 s).2.2.1 s = true) (h2 : dr_cnt (rf_g lo fr s) P = 0) : rf_sta P lo fr y0 (s + 1) = ((rf_sta P lo fr y0 s).1 + 1, rf_rn P (rf_sta P lo fr y0 s).2.1 s P, va_up (rf_sta P lo fr y0 s).2.2.1 s false, dr_cnt (rf_g lo fr s) P, rf_mi (rf_g lo fr s) (rf_sta P lo fr y0 s).2.2.2.2 P) := by rw [rf_sta, if_pos h, if_pos h2]
end STA2
