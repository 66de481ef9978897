/-! the two states, where they lie, what they have to do with each other -/
abbrev CS : Type := Bool × Int32 × Int32 × (Nat → Bool) × (Nat → Bool) × (Nat → Int32) × (Nat → Nat → Int32) × (Nat → Nat → Bool) × (Nat → Bool)
abbrev CS.pw (S : CS) : Bool := S.1
abbrev CS.tn (S : CS) : Int32 := S.2.1
abbrev CS.un (S : CS) : Int32 := S.2.2.1
abbrev CS.lo (S : CS) : Nat → Bool := S.2.2.2.1
abbrev CS.kn (S : CS) : Nat → Bool := S.2.2.2.2.1
abbrev CS.tw (S : CS) : Nat → Int32 := S.2.2.2.2.2.1
abbrev CS.w (S : CS) : Nat → Nat → Int32 := S.2.2.2.2.2.2.1
abbrev CS.ms (S : CS) : Nat → Nat → Bool := S.2.2.2.2.2.2.2.1
abbrev CS.mk (S : CS) : Nat → Bool := S.2.2.2.2.2.2.2.2
abbrev MS : Type := Nat × Bool × Int32 × Nat × (Nat → Int32) × (Nat → Bool) × (Nat → Bool) × (Nat → Bool) × (Nat → Nat) × (Nat → Int32) × (Nat → Int32) × (Nat → Nat)
abbrev MS.th (S : MS) : Nat := S.1
abbrev MS.pw (S : MS) : Bool := S.2.1
abbrev MS.lf (S : MS) : Int32 := S.2.2.1
abbrev MS.mz (S : MS) : Nat := S.2.2.2.1
abbrev MS.wd (S : MS) : Nat → Int32 := S.2.2.2.2.1
abbrev MS.lo (S : MS) : Nat → Bool := S.2.2.2.2.2.1
abbrev MS.fr (S : MS) : Nat → Bool := S.2.2.2.2.2.2.1
abbrev MS.mk (S : MS) : Nat → Bool := S.2.2.2.2.2.2.2.1
abbrev MS.bt (S : MS) : Nat → Nat := S.2.2.2.2.2.2.2.2.1
abbrev MS.su (S : MS) : Nat → Int32 := S.2.2.2.2.2.2.2.2.2.1
abbrev MS.kv (S : MS) : Nat → Int32 := S.2.2.2.2.2.2.2.2.2.2.1
abbrev MS.mi (S : MS) : Nat → Nat := S.2.2.2.2.2.2.2.2.2.2.2
abbrev AC : Type := Nat × Nat × Nat × Nat × Nat × Nat × Nat × (Nat → Nat) × (Nat → Nat) × (Nat → Nat)
abbrev AC.aR (S : AC) : Nat := S.1
abbrev AC.aS (S : AC) : Nat := S.2.1
abbrev AC.aA (S : AC) : Nat := S.2.2.1
abbrev AC.aL (S : AC) : Nat := S.2.2.2.1
abbrev AC.aE (S : AC) : Nat := S.2.2.2.2.1
abbrev AC.aEW (S : AC) : Nat := S.2.2.2.2.2.1
abbrev AC.aEK (S : AC) : Nat := S.2.2.2.2.2.2.1
abbrev AC.aTs (S : AC) : Nat → Nat := S.2.2.2.2.2.2.2.1
abbrev AC.aWs (S : AC) : Nat → Nat := S.2.2.2.2.2.2.2.2.1
abbrev AC.aMs (S : AC) : Nat → Nat := S.2.2.2.2.2.2.2.2.2
abbrev AM : Type := Nat × Nat × Nat × Nat × Nat × Nat × Nat × Nat × Nat
abbrev AM.aO (S : AM) : Nat := S.1
abbrev AM.bW (S : AM) : Nat := S.2.1
abbrev AM.bL (S : AM) : Nat := S.2.2.1
abbrev AM.bF (S : AM) : Nat := S.2.2.2.1
abbrev AM.bK (S : AM) : Nat := S.2.2.2.2.1
abbrev AM.bB (S : AM) : Nat := S.2.2.2.2.2.1
abbrev AM.bS (S : AM) : Nat := S.2.2.2.2.2.2.1
abbrev AM.bN (S : AM) : Nat := S.2.2.2.2.2.2.2.1
abbrev AM.bM (S : AM) : Nat := S.2.2.2.2.2.2.2.2
abbrev RWs (cI cB cQ : ClassId) (a : AC) (P n : Nat) (S : CS) : va_W := RW cI cB cQ a.aR a.aS a.aA a.aL a.aE a.aEW a.aEK P n a.aTs a.aWs a.aMs S.pw S.tn S.un S.lo S.kn S.tw S.w S.ms S.mk
abbrev WMs (cI cB : ClassId) (b : AM) (P n : Nat) (M : MS) : va_W := [(b.aO, .inr (4, [.int (nI M.th), .int (nI P), .int (nI n), .ref b.bW, .ref b.bL, .ref b.bF, .ref b.bK, .int (bI M.pw), .int M.lf, .ref b.bB, .ref b.bS, .ref b.bN, .ref b.bM, .int (nI M.mz)])), (b.bW, .inl (cI, 676, .inl M.wd)), (b.bL, .inl (cB, 13, .inl (fun z9 => bI (M.lo z9)))), (b.bF, .inl (cB, 52, .inl (fun z9 => bI (M.fr z9)))), (b.bK, .inl (cB, 4, .inl (fun z9 => bI (M.mk z9)))), (b.bB, .inl (cI, 26, .inl (fun z9 => nI (M.bt z9)))), (b.bS, .inl (cI, 26, .inl M.su)), (b.bN, .inl (cI, 26, .inl M.kv)), (b.bM, .inl (cI, 13, .inl (fun z9 => nI (M.mi z9))))]
/-- side by side -/
def Inv (P n : Nat) (S : CS) (M : MS) : Prop :=
  (dr_P P) ∧ (1 ≤ n) ∧ (n < 5) ∧ (M.pw = S.pw) ∧ (S.pw = true → M.lf = S.tn) ∧ (M.lo = S.lo) ∧ (∀ s, s < n → ∀ d, d < P → S.ms s d = rf_g S.lo M.fr s d) ∧ (∀ d, d < P → S.lo d = true → ∀ s, s < n → M.fr (4 * d + s) = false) ∧ (∀ s, s < n → M.mk s = S.mk s) ∧ (∀ s, s < n → Wq P (S.w s) M.wd s) ∧ (∀ t, M.mi t < 13) ∧ (∀ s, s < n → S.mk s = false → dr_cnt (S.ms s) P ≤ 2 → ∃ T, dr_Full P T ∧ Ag P (S.ms s) (S.w s) T) ∧ (S.pw = true → ∀ s, s < n → S.mk s = true → 0 < dr_cnt (S.ms s) P)
theorem MG.map {σ τ : Type} {l : Launch} {y : MethodName} {wc : List Cond} {rm : Room} {D : va_G} {cl : List vw_C} {tys : List (ClassId × FieldType)} {av : List Value} {ws : va_W} {post : Int32 → σ → Prop} {F : σ → va_W} {post' : Int32 → τ → Prop} {F' : τ → va_W} (h : MG l y wc rm D cl tys av ws post F) (hm : ∀ r u, post r u → ∃ v, post' r v ∧ F u = F' v) : MG l y wc rm D cl tys av ws post' F' := by
  intro sz p e ha hc hk s m args below hf happ hP hK
  obtain ⟨n, o, h1, h2, h3, ⟨⟨r, u, ho, hp, hB⟩, hF⟩, hL⟩ := h sz p e ha hc hk s m args below hf happ hP hK
  obtain ⟨v, hv, hFv⟩ := hm r u hp
  exact ⟨n, o, h1, h2, h3, ⟨⟨r, v, ho, hv, by show va_P D cl (F' v) _ ∧ va_D (va_A ws sz) (F' v); rw [← hFv]; exact hB⟩, hF⟩, hL⟩
section OPS
variable (l : Launch) (dC : Nat → ClassId) (dI : Nat → Nat → Nat) (cI cB cQ cJ : ClassId)
/-- a call on the class: from S to S', the answer r -/
def OpC (a : AC) (P n : Nat) (y : MethodName) (c : ByteArray) (mL : Nat) (rt : FieldType) (av : List Value) (S S' : CS) (r : Int32) : Prop :=
  ∃ rm : Room, rm.cells = 0 ∧ rm.slots = 0 ∧ rm.frames + 1 ≤ 10 ∧ 8 + (mL + 11) + rm.locals ≤ 342 ∧ MG l y (Cond.code y c mL (some rt) :: TB) rm (dC, dI) vwCl (TY cI cB cQ cJ) (.ref a.aR :: av) (RWs cI cB cQ a P n S) (fun (r' : Int32) (_ : Unit) => r' = r) (fun (_ : Unit) => RWs cI cB cQ a P n S')
/-- a call on the reference: from M to some M' of which G holds, the answer r -/
def OpM (b : AM) (P n : Nat) (y : MethodName) (c : ByteArray) (mL : Nat) (rt : FieldType) (av : List Value) (M : MS) (G : MS → Prop) (r : Int32) : Prop :=
  ∃ rm : Room, rm.cells = 0 ∧ rm.slots = 0 ∧ rm.frames + 1 ≤ 10 ∧ 8 + (mL + 11) + rm.locals ≤ 342 ∧ MG l y (Cond.code y c mL (some rt) :: TB) rm (dC, dI) vwCl (TY cI cB cQ cJ) (.ref b.aO :: av) (WMs cI cB b P n M) (fun (r' : Int32) (M' : MS) => r' = r ∧ G M') (fun (M' : MS) => WMs cI cB b P n M')
end OPS
theorem Inv.scr {P n : Nat} {S : CS} {M : MS} (h : Inv P n S M) (th mz : Nat) (bt : Nat → Nat) (su kv : Nat → Int32) {mi : Nat → Nat} (hmi : ∀ t, mi t < 13) : Inv P n S ⟨th, M.pw, M.lf, mz, M.wd, M.lo, M.fr, M.mk, bt, su, kv, mi⟩ :=
  by
  obtain ⟨a1, a2, a3, a4, a5, a6, a7, a8, a9, b1, b2, b3, b4⟩ := h
  exact ⟨a1, a2, a3, a4, a5, a6, a7, a8, a9, b1, hmi, b3, b4⟩
/-- the teller's cells do not matter -/
theorem Inv.tel {P n : Nat} {S : CS} {M : MS} (h : Inv P n S M) (un : Int32) (kn : Nat → Bool) (tw : Nat → Int32) : Inv P n ⟨S.pw, S.tn, un, S.lo, kn, tw, S.w, S.ms, S.mk⟩ M :=
  h
