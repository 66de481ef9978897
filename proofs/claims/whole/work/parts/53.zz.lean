theorem rf_told_ok {P nm : Nat} {mi : Nat → Nat} {T : Nat → Int32} {b : Nat → Nat} {s kv : Nat → Int32} (h : rf_GI (2 * P) (P * nm) (rf_X P mi T) (P * nm) b s) (hn : P * nm ≤ 2 * P) : ∀ j k, j < nm → k < P → rf_K s kv (P * nm) (P * j + k) = T (mi j * P + k) := by
  intro j k hj hk
  have hlt : P * j + k < P * nm := by
    have h8 := Nat.mul_le_mul_left P (show j + 1 ≤ nm from hj)
    rw [Nat.mul_add] at h8
    omega
  rw [rf_K_at _ _ hlt, (rf_GI_end h hn hlt).2, rf_X_at hk]
