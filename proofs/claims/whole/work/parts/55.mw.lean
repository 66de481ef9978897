/-! the reference's write, read and rebuild -/
theorem rf_pd2 {P d k : Nat} (h : dr_P P) (hk : k < P - 2) : (d + 2 * P - (k + 2)) % P = dr_pd P d k (P - 2) := by
  have hp := h.le
  unfold dr_pd
  rw [if_pos rfl, show d + 2 * P - (k + 2) = (d + P - (k + 2)) + P by omega, Nat.add_mod_right]
theorem rf_pd1 {P d k : Nat} (h : dr_P P) : (d + k + 2) % P = dr_pd P d k (P - 1) := by
  have hp := h.le
  unfold dr_pd
  rw [if_neg (by omega)]
theorem rf_put_pw {W : Nat → Int32} {lf : Int32} {i : Nat} {v : Int32} (h : (rf_put W lf i v).1 = true) : (rf_put W lf i v).2.2.1 = true := by
  unfold rf_put at h ⊢
  split
  · rename_i z; rw [if_pos z] at h; cases h
  · rfl
theorem rf_put_eta {W : Nat → Int32} {lf : Int32} {i : Nat} {v : Int32} (h : (rf_put W lf i v).1 = true) : rf_put W lf i v = (true, (rf_put W lf i v).2.1, true, (rf_put W lf i v).2.2.2) := by
  refine Prod.ext h (Prod.ext rfl (Prod.ext ?_ rfl))
  exact rf_put_pw h
def rf_chg (P : Nat) (g : Nat → Bool) (q : Nat) (x : rf_X3) (d k row : Nat) (ch : Int32) : Bool × rf_X3 :=
  if g (dr_pd P d k row) = true then (true, x) else rf_put x.1 x.2.2 (169 * q + 13 * dr_pd P d k row + row) (x.1 (169 * q + 13 * dr_pd P d k row + row) ^^^ ch)
def rf_wr (P : Nat) (g : Nat → Bool) (q : Nat) (x1 : Bool × rf_X3) (d k : Nat) (ch : Int32) : Bool × rf_X3 :=
  if x1.1 = true then (if (rf_chg P g q x1.2 d k (P - 2) ch).1 = true then rf_chg P g q (rf_chg P g q x1.2 d k (P - 2) ch).2 d k (P - 1) ch else rf_chg P g q x1.2 d k (P - 2) ch) else x1
section RWR
variable {P : Nat} {g : Nat → Bool} {q : Nat} {x1 : Bool × rf_X3} {y z : rf_X3} {d k : Nat} {ch : Int32}
theorem rf_chg_t {row : Nat} (h : g (dr_pd P d k row) = true) : rf_chg P g q y d k row ch = (true, y) := by rw [rf_chg, if_pos h]
theorem rf_chg_f {row : Nat} (h : g (dr_pd P d k row) = false) : rf_chg P g q y d k row ch = rf_put y.1 y.2.2 (169 * q + 13 * dr_pd P d k row + row) (y.1 (169 * q + 13 * dr_pd P d k row + row) ^^^ ch) := by rw [rf_chg, if_neg (by rw [h]; decide)]
theorem rf_wr_a (h : x1.1 = false) : rf_wr P g q x1 d k ch = x1 := by rw [rf_wr, if_neg (by rw [h]; decide)]
theorem rf_wr_b (hx : x1 = (true, y)) (h : (rf_chg P g q y d k (P - 2) ch).1 = false) : rf_wr P g q x1 d k ch = rf_chg P g q y d k (P - 2) ch := by rw [rf_wr, hx, if_pos rfl, if_neg (show ¬ (rf_chg P g q (true, y).2 d k (P - 2) ch).1 = true by rw [show (true, y).2 = y from rfl, h]; decide)]
theorem rf_wr_c (hx : x1 = (true, y)) (hy : rf_chg P g q y d k (P - 2) ch = (true, z)) : rf_wr P g q x1 d k ch = rf_chg P g q z d k (P - 1) ch := by rw [rf_wr, hx, if_pos rfl, show (true, y).2 = y from rfl, hy, if_pos rfl]
end RWR
/-- rebuild: a drive's words, as they are told; all new drives; the drives are new no more -/
def rf_pdr (W0 : rf_X3) (T : Nat → Int32) (P s d : Nat) : Nat → Bool × rf_X3
  | 0 => (true, W0)
  | k + 1 => if (rf_pdr W0 T P s d k).1 = true then rf_put (rf_pdr W0 T P s d k).2.1 (rf_pdr W0 T P s d k).2.2.2 (169 * s + 13 * d + k) (T (d * P + k)) else rf_pdr W0 T P s d k
def rf_rbl (W0 : rf_X3) (T : Nat → Int32) (P s : Nat) (fr : Nat → Bool) : Nat → Bool × rf_X3
  | 0 => (true, W0)
  | d + 1 => if (rf_rbl W0 T P s fr d).1 = true then (if fr (4 * d + s) = true then rf_pdr (rf_rbl W0 T P s fr d).2 T P s d P else rf_rbl W0 T P s fr d) else rf_rbl W0 T P s fr d
def rf_fc (fr : Nat → Bool) (s : Nat) : Nat → (Nat → Bool)
  | 0 => fr
  | d + 1 => va_up (rf_fc fr s d) (4 * d + s) false
theorem rf_pdr_stop {W0 : rf_X3} {T : Nat → Int32} {P s d : Nat} : ∀ {n i : Nat}, i ≤ n → (rf_pdr W0 T P s d i).1 = false → rf_pdr W0 T P s d n = rf_pdr W0 T P s d i
  | 0, i, h, _ => by rw [Nat.le_zero.mp h]
  | n + 1, i, h, hf => by
    by_cases e : i = n + 1
    · rw [e]
    · have ih := rf_pdr_stop (W0 := W0) (T := T) (P := P) (s := s) (d := d) (n := n) (i := i) (by omega) hf
      rw [rf_pdr, ih, hf]
      simp
theorem rf_rbl_stop {W0 : rf_X3} {T : Nat → Int32} {P s : Nat} {fr : Nat → Bool} : ∀ {n i : Nat}, i ≤ n → (rf_rbl W0 T P s fr i).1 = false → rf_rbl W0 T P s fr n = rf_rbl W0 T P s fr i
  | 0, i, h, _ => by rw [Nat.le_zero.mp h]
  | n + 1, i, h, hf => by
    by_cases e : i = n + 1
    · rw [e]
    · have ih := rf_rbl_stop (W0 := W0) (T := T) (P := P) (s := s) (fr := fr) (n := n) (i := i) (by omega) hf
      rw [rf_rbl, ih, hf]
      simp
/-- power goes in the middle of a drive: that is the end of all -/
theorem rf_rbl_cut {W0 : rf_X3} {x x2 : rf_X3} {T : Nat → Int32} {P s d k n : Nat} {fr : Nat → Bool} (hd : d < n) (hk : k < P) (h1 : rf_rbl W0 T P s fr d = (true, x)) (hf : fr (4 * d + s) = true) (h2 : rf_pdr x T P s d k = (true, x2)) (h3 : (rf_put x2.1 x2.2.2 (169 * s + 13 * d + k) (T (d * P + k))).1 = false) : rf_rbl W0 T P s fr n = rf_put x2.1 x2.2.2 (169 * s + 13 * d + k) (T (d * P + k)) := by
  have e1 : rf_pdr x T P s d (k + 1) = rf_put x2.1 x2.2.2 (169 * s + 13 * d + k) (T (d * P + k)) := by rw [rf_pdr, h2, if_pos rfl]
  have e2 : rf_pdr x T P s d P = rf_put x2.1 x2.2.2 (169 * s + 13 * d + k) (T (d * P + k)) := by
    rw [rf_pdr_stop (show k + 1 ≤ P from hk) (by rw [e1]; exact h3), e1]
  have e3 : rf_rbl W0 T P s fr (d + 1) = rf_put x2.1 x2.2.2 (169 * s + 13 * d + k) (T (d * P + k)) := by rw [rf_rbl, h1, if_pos rfl, if_pos hf, e2]
  rw [rf_rbl_stop (show d + 1 ≤ n from hd) (by rw [e3]; exact h3), e3]
theorem rf_pdr_next {x x2 : rf_X3} {T : Nat → Int32} {P s d k : Nat} (h2 : rf_pdr x T P s d k = (true, x2)) (h3 : (rf_put x2.1 x2.2.2 (169 * s + 13 * d + k) (T (d * P + k))).1 = true) : rf_pdr x T P s d (k + 1) = (true, (rf_put x2.1 x2.2.2 (169 * s + 13 * d + k) (T (d * P + k))).2.1, true, (rf_put x2.1 x2.2.2 (169 * s + 13 * d + k) (T (d * P + k))).2.2.2) := by
  rw [rf_pdr, h2, if_pos rfl]
  exact rf_put_eta h3
theorem rf_ans0 {c : Bool} (h : c = false) : nI 0 = nI (if c = true then 1 else 0) := by rw [h]; rfl
theorem rf_mk0 {c : Bool} {mk : Nat → Bool} {q : Nat} (h : c = false) : va_up mk q (!c) = va_up mk q true := by rw [h]; rfl
