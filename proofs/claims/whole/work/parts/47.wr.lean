section WR
variable {P : Nat} {ms : Nat → Bool} {x : dr_X} {d k : Nat} {v ch : Int32}
theorem dr_wr_a (h : (dr_pif P ms x d k v).1 = false) : dr_wr P ms x d k v ch = dr_pif P ms x d k v := by rw [dr_wr, if_neg (by rw [h]; decide)]
theorem dr_wr_b (h : (dr_pif P ms x d k v).1 = true) (h2 : (dr_chg P ms (dr_pif P ms x d k v).2 d k (P - 2) ch).1 = false) : dr_wr P ms x d k v ch = dr_chg P ms (dr_pif P ms x d k v).2 d k (P - 2) ch := by rw [dr_wr, if_pos h, if_neg (by rw [h2]; decide)]
theorem dr_wr_c (h : (dr_pif P ms x d k v).1 = true) (h2 : (dr_chg P ms (dr_pif P ms x d k v).2 d k (P - 2) ch).1 = true) : dr_wr P ms x d k v ch = dr_chg P ms (dr_chg P ms (dr_pif P ms x d k v).2 d k (P - 2) ch).2 d k (P - 1) ch := by rw [dr_wr, if_pos h, if_pos h2]
end WR
section RB
variable {P : Nat} {lo mk : Nat → Bool} {i : Nat} {y : dr_Z}
theorem dr_rb1_a (h : dr_any (fun d => y.2.2.1 i d && !lo d) P = false) : dr_rb1 P lo mk i y = (true, y) := by rw [dr_rb1, if_neg (by rw [h]; simp)]
theorem dr_rb1_b (h : (!mk i && decide (dr_cnt (y.2.2.1 i) P ≤ 2)) = false) : dr_rb1 P lo mk i y = (true, y) := by rw [dr_rb1, if_neg (by rw [h]; simp)]
theorem dr_rb1_d (h : dr_any (fun d => y.2.2.1 i d && !lo d) P = true) (h2 : (!mk i && decide (dr_cnt (y.2.2.1 i) P ≤ 2)) = true) (h3 : (dr_rbr P lo i y).1 = true) : dr_rb1 P lo mk i y = (true, y.1 + 1, va_up y.2.1 i (dr_rbr P lo i y).2.1, va_up y.2.2.1 i (if (dr_rbr P lo i y).1 = true then dr_mf lo (y.2.2.1 i) P else y.2.2.1 i), (dr_rbr P lo i y).2.2.1, (dr_rbr P lo i y).2.2.2, dr_tell P (y.2.2.1 i) (y.2.1 i) y.2.2.2.2.2.1 y.2.2.2.2.2.2.1) := by
  rw [dr_rb1, if_pos (by rw [h, h2]; rfl), if_pos h3]
  exact Prod.ext h3 rfl
theorem dr_rb1_e (h : dr_any (fun d => y.2.2.1 i d && !lo d) P = true) (h2 : (!mk i && decide (dr_cnt (y.2.2.1 i) P ≤ 2)) = true) (h3 : (dr_rbr P lo i y).1 = false) : dr_rb1 P lo mk i y = (false, y.1, va_up y.2.1 i (dr_rbr P lo i y).2.1, va_up y.2.2.1 i (if (dr_rbr P lo i y).1 = true then dr_mf lo (y.2.2.1 i) P else y.2.2.1 i), (dr_rbr P lo i y).2.2.1, (dr_rbr P lo i y).2.2.2, dr_tell P (y.2.2.1 i) (y.2.1 i) y.2.2.2.2.2.1 y.2.2.2.2.2.2.1) := by
  rw [dr_rb1, if_pos (by rw [h, h2]; rfl), if_neg (show ¬ (dr_rbr P lo i y).1 = true by rw [h3]; decide)]
  exact Prod.ext h3 rfl
theorem dr_rb_e {x : Int32} {y0 : dr_Z} {n : Nat} (hi : i < n) (hy : dr_rb P lo mk x y0 i = (true, y)) (hx : ¬ x ≤ nI y.1) (h : dr_any (fun d => y.2.2.1 i d && !lo d) P = true) (h2 : (!mk i && decide (dr_cnt (y.2.2.1 i) P ≤ 2)) = true) (h3 : (dr_rbr P lo i y).1 = false) : dr_rb P lo mk x y0 n = (false, y.1, va_up y.2.1 i (dr_rbr P lo i y).2.1, va_up y.2.2.1 i (if (dr_rbr P lo i y).1 = true then dr_mf lo (y.2.2.1 i) P else y.2.2.1 i), (dr_rbr P lo i y).2.2.1, (dr_rbr P lo i y).2.2.2, dr_tell P (y.2.2.1 i) (y.2.1 i) y.2.2.2.2.2.1 y.2.2.2.2.2.2.1) := by
  rw [dr_rb_false hi hy hx (by rw [dr_rb1_e h h2 h3]), dr_rb1_e h h2 h3]
end RB
