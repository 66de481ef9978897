/-! the ring's own words: a range, a value, a turn; all stripes' cells -/
def dr_in (x : Int32) (n : Nat) : Bool := decide (¬ x < 0 ∧ ¬ nI n ≤ x)
theorem dr_in_t {x : Int32} {n : Nat} (hn : n < 2 ^ 31) (h : dr_in x n = true) : ∃ j : Nat, j < n ∧ x = nI j := by
  obtain ⟨h1, h2⟩ := of_decide_eq_true h
  obtain ⟨j, -, rfl⟩ := nI_of h1
  rcases pk_ix (nI j) hn with z | z | z
  · exact absurd z h1
  · exact absurd z h2
  · exact z
theorem dr_in_of {n j : Nat} (hn : n < 2 ^ 31) (h : j < n) : dr_in (nI j) n = true := decide_eq_true ⟨nI_pos (by omega), nI_ge h hn⟩
def dr_vt (P : Nat) (ms : Nat → Bool) (w : Nat → Int32) (x : dr_T) (d : Nat) : dr_T := if ms d = true then dr_tell P ms w x.1 x.2.1 else x
def dr_va (P : Nat) (ms : Nat → Bool) (w : Nat → Int32) (x : dr_T) (d k : Nat) : Int32 := if ms d = true then (dr_tell P ms w x.1 x.2.1).2.1 (d * P + k) else w (d * P + k)
def dr_tp (pw : Bool) (tn : Int32) : Bool := if tn = 0 then false else pw
def dr_tn (tn : Int32) : Int32 := if 0 < tn then tn - 1 else tn
theorem dr_pdr_stop {P : Nat} {tw : Nat → Int32} {d : Nat} {x : dr_X} : ∀ {n i : Nat}, i ≤ n → (dr_pdr P tw d x i).1 = false → dr_pdr P tw d x n = dr_pdr P tw d x i
  | 0, i, h, _ => by rw [Nat.le_zero.mp h]
  | n + 1, i, h, hf => by
    by_cases e : i = n + 1
    · rw [e]
    · have ih := dr_pdr_stop (P := P) (tw := tw) (d := d) (x := x) (n := n) (i := i) (by omega) hf
      rw [dr_pdr, ih, hf]
      simp
theorem dr_pdr_false {P : Nat} {tw : Nat → Int32} {d : Nat} {x0 x : dr_X} {n i : Nat} (hi : i < n) (hx : dr_pdr P tw d x0 i = (true, x)) (hf : (dr_put P x d i (tw (d * P + i))).1 = false) : dr_pdr P tw d x0 n = dr_put P x d i (tw (d * P + i)) := by
  have e : dr_pdr P tw d x0 (i + 1) = dr_put P x d i (tw (d * P + i)) := by rw [dr_pdr, hx, if_pos rfl]
  rw [dr_pdr_stop (show i + 1 ≤ n from hi) (by rw [e]; exact hf), e]
theorem dr_rbl_stop {P : Nat} {lo ms : Nat → Bool} {tw : Nat → Int32} {x : dr_X} : ∀ {n i : Nat}, i ≤ n → (dr_rbl P lo ms tw x i).1 = false → dr_rbl P lo ms tw x n = dr_rbl P lo ms tw x i
  | 0, i, h, _ => by rw [Nat.le_zero.mp h]
  | n + 1, i, h, hf => by
    by_cases e : i = n + 1
    · rw [e]
    · have ih := dr_rbl_stop (P := P) (lo := lo) (ms := ms) (tw := tw) (x := x) (n := n) (i := i) (by omega) hf
      rw [dr_rbl, ih, hf]
      simp
theorem dr_rbl_false {P : Nat} {lo ms : Nat → Bool} {tw : Nat → Int32} {x0 x : dr_X} {n i : Nat} (hi : i < n) (hx : dr_rbl P lo ms tw x0 i = (true, x)) (hn : (ms i && !lo i) = true) (hf : (dr_pdr P tw i x P).1 = false) : dr_rbl P lo ms tw x0 n = dr_pdr P tw i x P := by
  have e : dr_rbl P lo ms tw x0 (i + 1) = dr_pdr P tw i x P := by rw [dr_rbl, hx, if_pos rfl, if_pos hn]
  rw [dr_rbl_stop (show i + 1 ≤ n from hi) (by rw [e]; exact hf), e]
/-- a stripe's three cells, all stripes' cells, all but one's -/
def stC (cI cB : ClassId) (aS P : Nat) (aT aW aM : Nat → Nat) (w : Nat → Nat → Int32) (ms : Nat → Nat → Bool) (mk : Nat → Bool) (s : Nat) : va_W :=
  [(aT s, .inr (1, [.ref aS, .ref (aW s), .ref (aM s), .int (bI (mk s))])), (aW s, .inl (cI, P * P, .inl (w s))), (aM s, .inl (cB, P, .inl (fun z9 => bI (ms s z9))))]
def stW (cI cB : ClassId) (aS P : Nat) (aT aW aM : Nat → Nat) (w : Nat → Nat → Int32) (ms : Nat → Nat → Bool) (mk : Nat → Bool) (n : Nat) : va_W := (List.range n).flatMap (stC cI cB aS P aT aW aM w ms mk)
def stO (cI cB : ClassId) (aS P : Nat) (aT aW aM : Nat → Nat) (w : Nat → Nat → Int32) (ms : Nat → Nat → Bool) (mk : Nat → Bool) (n s : Nat) : va_W := ((List.range n).erase s).flatMap (stC cI cB aS P aT aW aM w ms mk)
section FOC
variable {D : va_G} {cl : List vw_C} {A : Nat → Prop} {H : Heap} {pre : va_W} {cI cB : ClassId} {aS P n s : Nat} {aT aW aM : Nat → Nat} {w : Nat → Nat → Int32} {ms : Nat → Nat → Bool} {mk : Nat → Bool}
theorem foc_perm (hs : s < n) : (stW cI cB aS P aT aW aM w ms mk n).Perm (stC cI cB aS P aT aW aM w ms mk s ++ stO cI cB aS P aT aW aM w ms mk n s) := by
  have h1 : (List.range n).Perm (s :: (List.range n).erase s) := List.perm_cons_erase (List.mem_range.mpr hs)
  have h2 := h1.flatMap_right (stC cI cB aS P aT aW aM w ms mk)
  rw [List.flatMap_cons] at h2
  exact h2
theorem foc_P (h : va_P D cl (pre ++ stW cI cB aS P aT aW aM w ms mk n) H) (hs : s < n) : va_P D cl (pre ++ (stC cI cB aS P aT aW aM w ms mk s ++ stO cI cB aS P aT aW aM w ms mk n s)) H :=
  h.perm ((foc_perm hs).symm.append_left pre)
theorem foc_D (h : va_D A (pre ++ stW cI cB aS P aT aW aM w ms mk n)) (hs : s < n) : va_D A (pre ++ (stC cI cB aS P aT aW aM w ms mk s ++ stO cI cB aS P aT aW aM w ms mk n s)) :=
  h.perm ((foc_perm hs).symm.append_left pre)
theorem unf0_P (h : va_P D cl (pre ++ (stC cI cB aS P aT aW aM w ms mk s ++ stO cI cB aS P aT aW aM w ms mk n s)) H) (hs : s < n) : va_P D cl (pre ++ stW cI cB aS P aT aW aM w ms mk n) H :=
  h.perm ((foc_perm hs).append_left pre)
theorem unf0_D (h : va_D A (pre ++ (stC cI cB aS P aT aW aM w ms mk s ++ stO cI cB aS P aT aW aM w ms mk n s))) (hs : s < n) : va_D A (pre ++ stW cI cB aS P aT aW aM w ms mk n) :=
  h.perm ((foc_perm hs).append_left pre)
theorem stO_up (wn : Nat → Int32) (mn : Nat → Bool) (kn : Bool) : stO cI cB aS P aT aW aM (va_up w s wn) (va_up ms s mn) (va_up mk s kn) n s = stO cI cB aS P aT aW aM w ms mk n s := by
  unfold stO
  have hn : ∀ t ∈ (List.range n).erase s, t ≠ s := fun t ht => ((List.Nodup.mem_erase_iff List.nodup_range).mp ht).1
  generalize (List.range n).erase s = l at hn
  induction l with
  | nil => rfl
  | cons t l ih =>
    rw [List.flatMap_cons, List.flatMap_cons, ih (fun u hu => hn u (List.mem_cons_of_mem _ hu))]
    congr 1
    have := hn t List.mem_cons_self
    simp only [stC, va_up, if_neg this]
theorem stC_up (wn : Nat → Int32) (mn : Nat → Bool) (kn : Bool) : stC cI cB aS P aT aW aM (va_up w s wn) (va_up ms s mn) (va_up mk s kn) s = [(aT s, .inr (1, [.ref aS, .ref (aW s), .ref (aM s), .int (bI kn)])), (aW s, .inl (cI, P * P, .inl wn)), (aM s, .inl (cB, P, .inl (fun z9 => bI (mn z9))))] := by
  simp only [stC, va_up_s]
theorem unf_P {wn : Nat → Int32} {mn : Nat → Bool} {kn : Bool} (h : va_P D cl (pre ++ ([(aT s, .inr (1, [.ref aS, .ref (aW s), .ref (aM s), .int (bI kn)])), (aW s, .inl (cI, P * P, .inl wn)), (aM s, .inl (cB, P, .inl (fun z9 => bI (mn z9))))] ++ stO cI cB aS P aT aW aM w ms mk n s)) H) (hs : s < n) : va_P D cl (pre ++ stW cI cB aS P aT aW aM (va_up w s wn) (va_up ms s mn) (va_up mk s kn) n) H := by
  rw [← stC_up (w := w) (ms := ms) (mk := mk), ← stO_up wn mn kn] at h
  exact unf0_P h hs
theorem unf_D {wn : Nat → Int32} {mn : Nat → Bool} {kn : Bool} (h : va_D A (pre ++ ([(aT s, .inr (1, [.ref aS, .ref (aW s), .ref (aM s), .int (bI kn)])), (aW s, .inl (cI, P * P, .inl wn)), (aM s, .inl (cB, P, .inl (fun z9 => bI (mn z9))))] ++ stO cI cB aS P aT aW aM w ms mk n s))) (hs : s < n) : va_D A (pre ++ stW cI cB aS P aT aW aM (va_up w s wn) (va_up ms s mn) (va_up mk s kn) n) := by
  rw [← stC_up (w := w) (ms := ms) (mk := mk), ← stO_up wn mn kn] at h
  exact unf0_D h hs
end FOC
