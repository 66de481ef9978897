/-! the reference's rebuild, stripe by stripe -/
def rf_OK (P : Nat) (lo fr mk : Nat → Bool) (W : Nat → Int32) (T : Nat → Nat → Int32) (i n : Nat) : Prop :=
  ∀ s, i ≤ s → s < n → mk s = false → dr_cnt (rf_g lo fr s) P ≤ 2 → dr_Full P (T s) ∧ ∀ c, c < P * P → rf_g lo fr s (c / P) = false → rf_w P W s c = T s c
abbrev rf_Z : Type := Nat × (Nat → Int32) × (Nat → Bool) × Bool × Int32
def rf_rbr (T : Nat → Nat → Int32) (P i : Nat) (y : rf_Z) : Bool × rf_X3 := rf_rbl (y.2.1, true, y.2.2.2.2) (T i) P i y.2.2.1 P
def rf_rb1 (T : Nat → Nat → Int32) (P : Nat) (lo mk : Nat → Bool) (i : Nat) (y : rf_Z) : Bool × rf_Z :=
  if (dr_any (fun d => y.2.2.1 (4 * d + i)) P && (!mk i && decide (dr_cnt (rf_g lo y.2.2.1 i) P ≤ 2))) = true then
    ((rf_rbr T P i y).1, (if (rf_rbr T P i y).1 = true then y.1 + 1 else y.1), (rf_rbr T P i y).2.1, (if (rf_rbr T P i y).1 = true then rf_fc y.2.2.1 i P else y.2.2.1), (rf_rbr T P i y).2.2.1, (rf_rbr T P i y).2.2.2)
  else (true, y)
def rf_rb (T : Nat → Nat → Int32) (P : Nat) (lo mk : Nat → Bool) (x : Int32) (y0 : rf_Z) : Nat → Bool × rf_Z
  | 0 => (true, y0)
  | i + 1 => if (rf_rb T P lo mk x y0 i).1 = true ∧ ¬ x ≤ nI (rf_rb T P lo mk x y0 i).2.1 then rf_rb1 T P lo mk i (rf_rb T P lo mk x y0 i).2 else (false, (rf_rb T P lo mk x y0 i).2)
section RRB
variable {T : Nat → Nat → Int32} {P : Nat} {lo mk : Nat → Bool} {x : Int32} {y0 y : rf_Z} {n i : Nat}
theorem rf_rb_stop : ∀ {n i : Nat}, i ≤ n → (rf_rb T P lo mk x y0 i).1 = false → rf_rb T P lo mk x y0 n = rf_rb T P lo mk x y0 i
  | 0, i, h, _ => by rw [Nat.le_zero.mp h]
  | n + 1, i, h, hf => by
    by_cases e : i = n + 1
    · rw [e]
    · have ih := rf_rb_stop (n := n) (i := i) (by omega) hf
      rw [rf_rb, ih, if_neg (fun z => by rw [hf] at z; cases z.1)]
      exact Prod.ext hf.symm rfl
theorem rf_rb_full (hi : i < n) (hy : rf_rb T P lo mk x y0 i = (true, y)) (hx : x ≤ nI y.1) : rf_rb T P lo mk x y0 n = (false, y) := by
  have e : rf_rb T P lo mk x y0 (i + 1) = (false, y) := by rw [rf_rb, hy, if_neg (fun z => z.2 hx)]
  rw [rf_rb_stop (show i + 1 ≤ n from hi) (by rw [e]), e]
theorem rf_rb_next (hy : rf_rb T P lo mk x y0 i = (true, y)) (hx : ¬ x ≤ nI y.1) : rf_rb T P lo mk x y0 (i + 1) = rf_rb1 T P lo mk i y := by
  rw [rf_rb, hy, if_pos ⟨rfl, hx⟩]
theorem rf_rb1_a (h : dr_any (fun d => y.2.2.1 (4 * d + i)) P = false) : rf_rb1 T P lo mk i y = (true, y) := by rw [rf_rb1, if_neg (by rw [h]; simp)]
theorem rf_rb1_b (h : mk i = true) : rf_rb1 T P lo mk i y = (true, y) := by rw [rf_rb1, if_neg (by rw [h]; simp)]
theorem rf_rb1_c (h : 2 < dr_cnt (rf_g lo y.2.2.1 i) P) : rf_rb1 T P lo mk i y = (true, y) := by rw [rf_rb1, if_neg (by simp; intros; omega)]
theorem rf_rb1_d (h : dr_any (fun d => y.2.2.1 (4 * d + i)) P = true) (h2 : mk i = false) (h3 : dr_cnt (rf_g lo y.2.2.1 i) P ≤ 2) (w7 : Nat → Int32) (l7 : Int32) (h4 : rf_rbl (y.2.1, true, y.2.2.2.2) (T i) P i y.2.2.1 P = (true, w7, true, l7)) : rf_rb1 T P lo mk i y = (true, y.1 + 1, w7, rf_fc y.2.2.1 i P, true, l7) := by
  have e : rf_rbr T P i y = (true, w7, true, l7) := h4
  rw [rf_rb1, if_pos (by rw [h, h2, decide_eq_true h3]; rfl), e]
  rfl
theorem rf_rb1_e (h : dr_any (fun d => y.2.2.1 (4 * d + i)) P = true) (h2 : mk i = false) (h3 : dr_cnt (rf_g lo y.2.2.1 i) P ≤ 2) {r : Bool × rf_X3} (h4 : rf_rbl (y.2.1, true, y.2.2.2.2) (T i) P i y.2.2.1 P = r) (h5 : r.1 = false) : rf_rb1 T P lo mk i y = (false, y.1, r.2.1, y.2.2.1, r.2.2.1, r.2.2.2) := by
  have e : rf_rbr T P i y = r := h4
  rw [rf_rb1, if_pos (by rw [h, h2, decide_eq_true h3]; rfl), e, h5]
  rfl
theorem rf_rb_e (hi : i < n) (hy : rf_rb T P lo mk x y0 i = (true, y)) (hx : ¬ x ≤ nI y.1) (h : dr_any (fun d => y.2.2.1 (4 * d + i)) P = true) (h2 : mk i = false) (h3 : dr_cnt (rf_g lo y.2.2.1 i) P ≤ 2) {r : Bool × rf_X3} (h4 : rf_rbl (y.2.1, true, y.2.2.2.2) (T i) P i y.2.2.1 P = r) (h5 : r.1 = false) : rf_rb T P lo mk x y0 n = (false, y.1, r.2.1, y.2.2.1, r.2.2.1, r.2.2.2) := by
  have e := (rf_rb_next hy hx).trans (rf_rb1_e h h2 h3 h4 h5)
  rw [rf_rb_stop (show i + 1 ≤ n from hi) (by rw [e]), e]
end RRB
theorem rf_OK.up {P : Nat} {lo fr mk : Nat → Bool} {W : Nat → Int32} {T : Nat → Nat → Int32} {i n : Nat} (h : rf_OK P lo fr mk W T i n) : rf_OK P lo fr mk W T (i + 1) n := fun s h1 h2 => h s (by omega) h2
/-- what is done in a stripe doesn't touch another -/
theorem rf_put_far {W : Nat → Int32} {lf : Int32} {P i d k s c : Nat} {v : Int32} (hp : dr_P P) (hs : s ≠ i) (hd : d < P) (hk : k < P) (hc : c < P * P) : rf_w P (rf_put W lf (169 * i + 13 * d + k) v).2.1 s c = rf_w P W s c := by
  have := hp.le
  obtain ⟨-, h2, h3⟩ := dr_split hc
  unfold rf_put
  split
  · rfl
  · show va_up W _ v _ = W _
    exact va_up_n (by omega)
theorem rf_pdr_far {x : rf_X3} {T : Nat → Int32} {P i d s c : Nat} (hp : dr_P P) (hs : s ≠ i) (hd : d < P) (hc : c < P * P) : ∀ k, k ≤ P → rf_w P (rf_pdr x T P i d k).2.1 s c = rf_w P x.1 s c
  | 0, _ => rfl
  | k + 1, hk => by
    rw [rf_pdr]
    split
    · rw [rf_put_far hp hs hd (by omega) hc]; exact rf_pdr_far hp hs hd hc k (by omega)
    · exact rf_pdr_far hp hs hd hc k (by omega)
theorem rf_rbl_far {x : rf_X3} {T : Nat → Int32} {P i s c : Nat} {fr : Nat → Bool} (hp : dr_P P) (hs : s ≠ i) (hc : c < P * P) : ∀ d, d ≤ P → rf_w P (rf_rbl x T P i fr d).2.1 s c = rf_w P x.1 s c
  | 0, _ => rfl
  | d + 1, hd => by
    rw [rf_rbl]
    split
    · split
      · rw [rf_pdr_far hp hs (by omega) hc P (Nat.le_refl _)]; exact rf_rbl_far hp hs hc d (by omega)
      · exact rf_rbl_far hp hs hc d (by omega)
    · exact rf_rbl_far hp hs hc d (by omega)
theorem rf_fc_at (fr : Nat → Bool) {i : Nat} (hi : i < 4) : ∀ n d s, s < 4 → rf_fc fr i n (4 * d + s) = if d < n ∧ s = i then false else fr (4 * d + s)
  | 0, d, s, _ => by simp [rf_fc]
  | n + 1, d, s, hs => by
    rw [rf_fc]
    by_cases e : 4 * d + s = 4 * n + i
    · rw [e, va_up_s, if_pos (by omega)]
    · rw [va_up_n e, rf_fc_at fr hi n d s hs]
      by_cases z : d < n ∧ s = i
      · rw [if_pos z, if_pos (by omega)]
      · rw [if_neg z, if_neg (by omega)]
theorem rf_OK.done {P : Nat} {lo fr mk : Nat → Bool} {W w7 : Nat → Int32} {l0 l7 : Int32} {T : Nat → Nat → Int32} {i n : Nat} (hp : dr_P P) (hn : n < 5) (hi : i < n) (h : rf_OK P lo fr mk W T i n) (h4 : rf_rbl (W, true, l0) (T i) P i fr P = (true, w7, true, l7)) : rf_OK P lo (rf_fc fr i P) mk w7 T (i + 1) n := by
  intro s h1 h2 hm hc
  have hg : ∀ d, rf_g lo (rf_fc fr i P) s d = rf_g lo fr s d := fun d => by
    unfold rf_g
    rw [rf_fc_at fr (by omega) P d s (by omega), if_neg (by omega)]
  have hg' : rf_g lo (rf_fc fr i P) s = rf_g lo fr s := funext hg
  rw [hg'] at hc
  obtain ⟨a, b⟩ := h s (by omega) h2 hm hc
  refine ⟨a, fun c hcl hgc => ?_⟩
  rw [hg'] at hgc
  have e := rf_rbl_far (x := (W, true, l0)) (T := T i) (fr := fr) hp (show s ≠ i by omega) hcl P (Nat.le_refl _)
  rw [h4] at e
  exact e.trans (b c hcl hgc)
