/-! write, side by side -/
def Ro (P q : Nat) (a : Bool × dr_X) (b : Bool × rf_X3) : Prop := a.1 = b.1 ∧ Wq P a.2.1 b.2.1 q ∧ a.2.2.1 = a.1 ∧ b.2.2.1 = b.1 ∧ (a.1 = true → a.2.2.2 = b.2.2.2)
/-- the other stripes' words stay -/
def Fr (P q : Nat) (W W' : Nat → Int32) : Prop := ∀ s, s ≠ q → ∀ v, Wq P v W s → Wq P v W' s
theorem Fr.rf {P q : Nat} {W : Nat → Int32} : Fr P q W W := fun _ _ _ h => h
theorem Fr.tr {P q : Nat} {W W' W'' : Nat → Int32} (h : Fr P q W W') (h' : Fr P q W' W'') : Fr P q W W'' := fun s hs v z => h' s hs v (h s hs v z)
section RELW
variable {P q : Nat} {x : dr_X} {z : rf_X3} {d k row : Nat} {v ch : Int32} {ms g : Nat → Bool}
theorem rl_put (hP : P ≤ 13) (hx : Wq P x.1 z.1 q) (h1 : x.2.1 = true) (h3 : x.2.2 = z.2.2) (hd : d < P) (hk : k < P) : Ro P q (dr_put P x d k v) (rf_put z.1 z.2.2 (169 * q + 13 * d + k) v) ∧ Fr P q z.1 (rf_put z.1 z.2.2 (169 * q + 13 * d + k) v).2.1 := by
  unfold dr_put rf_put
  rw [h3]
  by_cases h0 : z.2.2 = 0
  · rw [if_pos h0, if_pos h0]
    exact ⟨⟨rfl, hx, rfl, rfl, fun z9 => by cases z9⟩, Fr.rf⟩
  · rw [if_neg h0, if_neg h0]
    exact ⟨⟨rfl, hx.up hP hd hk v, h1, rfl, fun _ => rfl⟩, fun s hs v9 h9 => h9.other hP hd hk hs v⟩
theorem rl_chg (hp : dr_P P) (hx : Wq P x.1 z.1 q) (h1 : x.2.1 = true) (h2 : z.2.1 = true) (h3 : x.2.2 = z.2.2) (hg : ∀ d, d < P → ms d = g d) (hr : row < P) : Ro P q (dr_chg P ms x d k row ch) (rf_chg P g q z d k row ch) ∧ Fr P q z.1 (rf_chg P g q z d k row ch).2.1 := by
  have hl := dr_pd_lt (d := d) (k := k) (row := row) hp
  unfold dr_chg rf_chg dr_pif
  rw [hg _ hl]
  by_cases h0 : g (dr_pd P d k row) = true
  · rw [if_pos h0, if_pos h0]
    exact ⟨⟨rfl, hx, h1, h2, fun _ => h3⟩, Fr.rf⟩
  · rw [if_neg h0, if_neg h0, hx _ hl _ hr]
    exact rl_put (by have := hp.le; omega) hx h1 h3 hl hr
theorem rl_wr (hp : dr_P P) {a : Bool × dr_X} {b : Bool × rf_X3} (hab : Ro P q a b) (hfr : Fr P q z.1 b.2.1) (hg : ∀ d, d < P → ms d = g d) (ha : a = dr_pif P ms x d k v) : Ro P q (dr_wr P ms x d k v ch) (rf_wr P g q b d k ch) ∧ Fr P q z.1 (rf_wr P g q b d k ch).2.1 := by
  have hl := hp.le
  unfold dr_wr rf_wr
  rw [← ha]
  obtain ⟨e1, e2, e3, e4, e5⟩ := hab
  by_cases h0 : a.1 = true
  · have h0b : b.1 = true := by rw [← e1]; exact h0
    rw [if_pos h0, if_pos h0b]
    obtain ⟨hc, hf⟩ := rl_chg (x := a.2) (z := b.2) (d := d) (k := k) (row := P - 2) (ch := ch) hp e2 (by rw [e3]; exact h0) (by rw [e4]; exact h0b) (e5 h0) hg (by omega)
    obtain ⟨c1, c2, c3, c4, c5⟩ := id hc
    by_cases h9 : (dr_chg P ms a.2 d k (P - 2) ch).1 = true
    · have h9b : (rf_chg P g q b.2 d k (P - 2) ch).1 = true := by rw [← c1]; exact h9
      rw [if_pos h9, if_pos h9b]
      obtain ⟨hc', hf'⟩ := rl_chg (x := (dr_chg P ms a.2 d k (P - 2) ch).2) (z := (rf_chg P g q b.2 d k (P - 2) ch).2) (d := d) (k := k) (row := P - 1) (ch := ch) hp c2 (by rw [c3]; exact h9) (by rw [c4]; exact h9b) (c5 h9) hg (by omega)
      exact ⟨hc', hfr.tr (hf.tr hf')⟩
    · have h9b : ¬ (rf_chg P g q b.2 d k (P - 2) ch).1 = true := by rw [← c1]; exact h9
      rw [if_neg h9, if_neg h9b]
      exact ⟨hc, hfr.tr hf⟩
  · have h0b : ¬ b.1 = true := by rw [← e1]; exact h0
    rw [if_neg h0, if_neg h0b]
    exact ⟨⟨e1, e2, e3, e4, e5⟩, hfr⟩
end RELW
/-! the full content behind a write -/
def Ag (P : Nat) (ms : Nat → Bool) (W T : Nat → Int32) : Prop := ∀ c, c < P * P → ms (c / P) = false → W c = T c
theorem Ag.pif {P : Nat} {ms : Nat → Bool} {x : dr_X} {T : Nat → Int32} {d k : Nat} {v v' : Int32} (h : Ag P ms x.1 T) (hk : k < P) (hv : ms d = false → v = v') (ht : (dr_pif P ms x d k v).1 = true) : Ag P ms (dr_pif P ms x d k v).2.1 (va_up T (d * P + k) v') := by
  intro c hc hm
  unfold dr_pif at ht ⊢
  by_cases hd : ms d = true
  · rw [if_pos hd]
    rw [va_up_n (fun z => by rw [z, dr_pl_div hk, hd] at hm; cases hm)]
    exact h c hc hm
  · rw [if_neg hd] at ht ⊢
    have hd' : ms d = false := by cases hq : ms d with | false => rfl | true => exact absurd hq hd
    unfold dr_put at ht ⊢
    by_cases h0 : x.2.2 = 0
    · rw [if_pos h0] at ht
      cases ht
    · rw [if_neg h0]
      show va_up x.1 (d * P + k) v c = va_up T (d * P + k) v' c
      by_cases e : c = d * P + k
      · rw [e, va_up_s, va_up_s, hv hd']
      · rw [va_up_n e, va_up_n e]
        exact h c hc hm
theorem dr_dd_pd {P o d k row : Nat} (hp : dr_P P) (ho : o < P) (hd : d < P) (hk : k < P - 2) (hr : dr_row P row) : dr_dd P o k row = d ↔ o = dr_pd P d k row := by
  unfold dr_dd dr_pd
  rcases hp with rfl | rfl | rfl | rfl <;> rcases hr with rfl | rfl <;> simp <;> omega
/-- a data word and its two parities change by the same -/
theorem dr_Full.change {P : Nat} (hp : dr_P P) {T : Nat → Int32} (hT : dr_Full P T) {d k : Nat} (hd : d < P) (hk : k < P - 2) {v ch : Int32} (hch : ch = T (d * P + k) ^^^ v) {T' : Nat → Int32}
    (h0 : T' (d * P + k) = v) (h1 : T' (dr_pd P d k (P - 2) * P + (P - 2)) = T (dr_pd P d k (P - 2) * P + (P - 2)) ^^^ ch) (h2 : T' (dr_pd P d k (P - 1) * P + (P - 1)) = T (dr_pd P d k (P - 1) * P + (P - 1)) ^^^ ch)
    (h3 : ∀ c, c ≠ d * P + k → c ≠ dr_pd P d k (P - 2) * P + (P - 2) → c ≠ dr_pd P d k (P - 1) * P + (P - 1) → T' c = T c) : dr_Full P T' := by
  have hl := hp.le
  intro o row ho hr
  have hrl : row < P := by rcases hr with rfl | rfl <;> omega
  have hrk : row ≠ k := by rcases hr with rfl | rfl <;> omega
  have hdata : ∀ d' k', k' < P - 2 → (d' ≠ d ∨ k' ≠ k) → T' (d' * P + k') = T (d' * P + k') := by
    intro d' k' hk' hne
    refine h3 _ (fun z => ?_) (fun z => ?_) (fun z => ?_)
    · have := dr_pl_inj (by omega) (by omega) z
      omega
    · have := (dr_pl_inj (by omega) (by omega) z).2
      omega
    · have := (dr_pl_inj (by omega) (by omega) z).2
      omega
  by_cases e : o = dr_pd P d k row
  · have hdd := (dr_dd_pd hp ho hd hk hr).mpr e
    have hsum : dr_sum P T' o row (P - 2) ^^^ dr_sum P T o row (P - 2) = T' (d * P + k) ^^^ T (d * P + k) := by
      have := dr_xs_one (f := fun k' => T' (dr_dd P o k' row * P + k')) (g := fun k' => T (dr_dd P o k' row * P + k')) (n := P - 2) (j := k) hk (fun k' hk' hne => hdata _ k' hk' (Or.inr hne))
      rw [hdd] at this
      exact this
    have hpar : T' (o * P + row) = T (o * P + row) ^^^ ch := by
      rcases hr with rfl | rfl
      · rw [e]; exact h1
      · rw [e]; exact h2
    rw [hpar, hT o row ho hr, hch]
    rw [h0] at hsum
    have h9 : dr_sum P T' o row (P - 2) = dr_sum P T o row (P - 2) ^^^ (v ^^^ T (d * P + k)) := by
      rw [← hsum, Int32.xor_comm (dr_sum P T' o row (P - 2)), ← Int32.xor_assoc, Int32.xor_self, Int32.zero_xor]
    rw [h9, Int32.xor_comm v]
  · have hdd : dr_dd P o k row ≠ d := fun z => e ((dr_dd_pd hp ho hd hk hr).mp z)
    have hsum : dr_sum P T' o row (P - 2) = dr_sum P T o row (P - 2) := by
      refine dr_xs_congr (fun k' hk' => ?_)
      by_cases hkk : k' = k
      · subst hkk
        exact hdata _ k' hk' (Or.inl hdd)
      · exact hdata _ k' hk' (Or.inr hkk)
    rw [hsum, ← hT o row ho hr]
    refine h3 _ (fun z => ?_) (fun z => ?_) (fun z => ?_)
    · exact hrk (dr_pl_inj hrl (by omega) z).2
    · have h9 := dr_pl_inj hrl (by omega) z
      exact e (by rw [h9.2]; exact h9.1)
    · have h9 := dr_pl_inj hrl (by omega) z
      exact e (by rw [h9.2]; exact h9.1)
theorem rl_wrT {P : Nat} (hp : dr_P P) {ms : Nat → Bool} {x : dr_X} {T : Nat → Int32} {d k : Nat} {v : Int32} (hT : dr_Full P T) (h : Ag P ms x.1 T) (hd : d < P) (hk : k < P - 2) (ht : (dr_wr P ms x d k v (T (d * P + k) ^^^ v)).1 = true) :
    ∃ T', dr_Full P T' ∧ Ag P ms (dr_wr P ms x d k v (T (d * P + k) ^^^ v)).2.1 T' := by
  have hl := hp.le
  have hch : T (d * P + k) ^^^ v = T (d * P + k) ^^^ v := rfl
  revert ht
  revert hch
  generalize hce : (T (d * P + k) ^^^ v : Int32) = ch
  intro _ ht
  by_cases h0 : (dr_pif P ms x d k v).1 = true
  · by_cases h1 : (dr_chg P ms (dr_pif P ms x d k v).2 d k (P - 2) ch).1 = true
    · rw [dr_wr_c h0 h1] at ht ⊢
      have l1 := dr_pd_lt (d := d) (k := k) (row := P - 2) hp
      have l2 := dr_pd_lt (d := d) (k := k) (row := P - 1) hp
      have a0 := h.pif (v' := v) (show k < P by omega) (fun _ => rfl) h0
      have a1 := a0.pif (d := dr_pd P d k (P - 2)) (k := P - 2) (v' := va_up T (d * P + k) v (dr_pd P d k (P - 2) * P + (P - 2)) ^^^ ch) (by omega) (fun hm => by rw [a0 _ (dr_pl l1 (by omega)) (by rw [dr_pl_div (by omega)]; exact hm)]) h1
      have a1 : Ag P ms (dr_chg P ms (dr_pif P ms x d k v).2 d k (P - 2) ch).2.1 (va_up (va_up T (d * P + k) v) (dr_pd P d k (P - 2) * P + (P - 2)) (va_up T (d * P + k) v (dr_pd P d k (P - 2) * P + (P - 2)) ^^^ ch)) := a1
      have a2 := Ag.pif (d := dr_pd P d k (P - 1)) (k := P - 1) (v' := va_up (va_up T (d * P + k) v) (dr_pd P d k (P - 2) * P + (P - 2)) (va_up T (d * P + k) v (dr_pd P d k (P - 2) * P + (P - 2)) ^^^ ch) (dr_pd P d k (P - 1) * P + (P - 1)) ^^^ ch) a1 (by omega) (fun hm => by rw [a1 _ (dr_pl l2 (by omega)) (by rw [dr_pl_div (by omega)]; exact hm)]) ht
      refine ⟨_, ?_, a2⟩
      have n01 : d * P + k ≠ dr_pd P d k (P - 2) * P + (P - 2) := fun z => by have := (dr_pl_inj (by omega) (by omega) z).2; omega
      have n02 : d * P + k ≠ dr_pd P d k (P - 1) * P + (P - 1) := fun z => by have := (dr_pl_inj (by omega) (by omega) z).2; omega
      have n12 : dr_pd P d k (P - 2) * P + (P - 2) ≠ dr_pd P d k (P - 1) * P + (P - 1) := fun z => by have := (dr_pl_inj (by omega) (by omega) z).2; omega
      refine hT.change hp hd hk hce.symm ?_ ?_ ?_ ?_
      · rw [va_up_n n02, va_up_n n01, va_up_s]
      · rw [va_up_n n12, va_up_s, va_up_n (Ne.symm n01)]
      · rw [va_up_s, va_up_n (Ne.symm n12), va_up_n (Ne.symm n02)]
      · intro c c0 c1 c2
        rw [va_up_n c2, va_up_n c1, va_up_n c0]
    · have h1' : (dr_chg P ms (dr_pif P ms x d k v).2 d k (P - 2) ch).1 = false := by simpa using h1
      rw [dr_wr_b h0 h1', h1'] at ht
      cases ht
  · have h0' : (dr_pif P ms x d k v).1 = false := by simpa using h0
    rw [dr_wr_a h0', h0'] at ht
    cases ht
