/-! the ring's public methods: what they do, as functions -/
theorem va_up_id {α : Type} (f : Nat → α) (k : Nat) : va_up f k (f k) = f := by
  funext j
  by_cases h : j = k <;> simp [va_up, h]
def dr_loW (P : Nat) (w : Nat → Nat → Int32) (d : Nat) : Nat → (Nat → Nat → Int32)
  | 0 => w
  | i + 1 => va_up (dr_loW P w d i) i (dr_zr P (dr_loW P w d i i) d P)
def dr_loM (ms : Nat → Nat → Bool) (d : Nat) : Nat → (Nat → Nat → Bool)
  | 0 => ms
  | i + 1 => va_up (dr_loM ms d i) i (va_up (dr_loM ms d i i) d true)
/-- start: the stripes below i -/
abbrev dr_Y : Type := Nat × (Nat → Nat → Int32) × (Nat → Bool)
def dr_sta (P : Nat) (ms : Nat → Nat → Bool) (w : Nat → Nat → Int32) (mk : Nat → Bool) : Nat → dr_Y
  | 0 => (0, w, mk)
  | i + 1 => if ((dr_sta P ms w mk i).2.2 i && !((dr_sta P ms w mk i).2.2 i && decide (0 < dr_cnt (ms i) P))) = true then ((dr_sta P ms w mk i).1 + 1, va_up (dr_sta P ms w mk i).2.1 i (dr_rn P ((dr_sta P ms w mk i).2.1 i) P), va_up (dr_sta P ms w mk i).2.2 i false) else dr_sta P ms w mk i
section STA
variable {P : Nat} {ms : Nat → Nat → Bool} {w : Nat → Nat → Int32} {mk : Nat → Bool} {i : Nat}
theorem dr_sta_a (h : (dr_sta P ms w mk i).2.2 i = false) : dr_sta P ms w mk (i + 1) = dr_sta P ms w mk i := by rw [dr_sta, if_neg (by rw [h]; simp)]
theorem dr_sta_b (h : ((dr_sta P ms w mk i).2.2 i && decide (0 < dr_cnt (ms i) P)) = true) : dr_sta P ms w mk (i + 1) = dr_sta P ms w mk i := by rw [dr_sta, if_neg (by rw [h]; simp)]
theorem dr_sta_c (h : (dr_sta P ms w mk i).2.2 i = true) (h2 : ((dr_sta P ms w mk i).2.2 i && decide (0 < dr_cnt (ms i) P)) = false) : dr_sta P ms w mk (i + 1) = ((dr_sta P ms w mk i).1 + 1, va_up (dr_sta P ms w mk i).2.1 i (dr_rn P ((dr_sta P ms w mk i).2.1 i) P), va_up (dr_sta P ms w mk i).2.2 i false) := by rw [dr_sta, if_pos (by rw [h2, h]; rfl)]
end STA
/-- rebuild: how many, the words, who misses, power and turns, the teller -/
abbrev dr_Z : Type := Nat × (Nat → Nat → Int32) × (Nat → Nat → Bool) × Bool × Int32 × dr_T
def dr_rbr (P : Nat) (lo : Nat → Bool) (i : Nat) (y : dr_Z) : Bool × dr_X := dr_rbl P lo (y.2.2.1 i) (dr_tell P (y.2.2.1 i) (y.2.1 i) y.2.2.2.2.2.1 y.2.2.2.2.2.2.1).2.1 (y.2.1 i, y.2.2.2.1, y.2.2.2.2.1) P
def dr_rb1 (P : Nat) (lo mk : Nat → Bool) (i : Nat) (y : dr_Z) : Bool × dr_Z :=
  if (dr_any (fun d => y.2.2.1 i d && !lo d) P && (!mk i && decide (dr_cnt (y.2.2.1 i) P ≤ 2))) = true then
    ((dr_rbr P lo i y).1, (if (dr_rbr P lo i y).1 = true then y.1 + 1 else y.1), va_up y.2.1 i (dr_rbr P lo i y).2.1, va_up y.2.2.1 i (if (dr_rbr P lo i y).1 = true then dr_mf lo (y.2.2.1 i) P else y.2.2.1 i), (dr_rbr P lo i y).2.2.1, (dr_rbr P lo i y).2.2.2, dr_tell P (y.2.2.1 i) (y.2.1 i) y.2.2.2.2.2.1 y.2.2.2.2.2.2.1)
  else (true, y)
def dr_rb (P : Nat) (lo mk : Nat → Bool) (x : Int32) (y0 : dr_Z) : Nat → Bool × dr_Z
  | 0 => (true, y0)
  | i + 1 => if (dr_rb P lo mk x y0 i).1 = true ∧ ¬ x ≤ nI (dr_rb P lo mk x y0 i).2.1 then dr_rb1 P lo mk i (dr_rb P lo mk x y0 i).2 else (false, (dr_rb P lo mk x y0 i).2)
theorem dr_rb_stop {P : Nat} {lo mk : Nat → Bool} {x : Int32} {y0 : dr_Z} : ∀ {n i : Nat}, i ≤ n → (dr_rb P lo mk x y0 i).1 = false → dr_rb P lo mk x y0 n = dr_rb P lo mk x y0 i
  | 0, i, h, _ => by rw [Nat.le_zero.mp h]
  | n + 1, i, h, hf => by
    by_cases e : i = n + 1
    · rw [e]
    · have ih := dr_rb_stop (P := P) (lo := lo) (mk := mk) (x := x) (y0 := y0) (n := n) (i := i) (by omega) hf
      rw [dr_rb, ih, if_neg (fun z => by rw [hf] at z; cases z.1)]
      exact Prod.ext hf.symm rfl
theorem dr_rb_full {P : Nat} {lo mk : Nat → Bool} {x : Int32} {y0 y : dr_Z} {n i : Nat} (hi : i < n) (hy : dr_rb P lo mk x y0 i = (true, y)) (hx : x ≤ nI y.1) : dr_rb P lo mk x y0 n = (false, y) := by
  have e : dr_rb P lo mk x y0 (i + 1) = (false, y) := by rw [dr_rb, hy, if_neg (fun z => z.2 hx)]
  rw [dr_rb_stop (show i + 1 ≤ n from hi) (by rw [e]), e]
theorem dr_rb_next {P : Nat} {lo mk : Nat → Bool} {x : Int32} {y0 y : dr_Z} {i : Nat} (hy : dr_rb P lo mk x y0 i = (true, y)) (hx : ¬ x ≤ nI y.1) : dr_rb P lo mk x y0 (i + 1) = dr_rb1 P lo mk i y := by
  rw [dr_rb, hy, if_pos ⟨rfl, hx⟩]
theorem dr_rb_false {P : Nat} {lo mk : Nat → Bool} {x : Int32} {y0 y : dr_Z} {n i : Nat} (hi : i < n) (hy : dr_rb P lo mk x y0 i = (true, y)) (hx : ¬ x ≤ nI y.1) (hf : (dr_rb1 P lo mk i y).1 = false) : dr_rb P lo mk x y0 n = dr_rb1 P lo mk i y := by
  have e := dr_rb_next hy hx
  rw [dr_rb_stop (show i + 1 ≤ n from hi) (by rw [e]; exact hf), e]
def dr_cv (x a b c d e : Int32) : Int32 := if x = nI 0 then a else if x = nI 1 then b else if x = nI 2 then c else if x = nI 3 then d else if x = nI 4 then e else -1
theorem dr_sw {x : Int32} (m : Nat) (hm : m < 2 ^ 31) (h : ¬ (x.toInt < 0 ∨ (m : Int) < x.toInt)) : ∃ j : Nat, j ≤ m ∧ x = nI j := by
  have h0 : ¬ x < 0 := fun z => h (Or.inl (Int32.lt_iff_toInt_lt.mp z))
  obtain ⟨j, hj, rfl⟩ := nI_of h0
  refine ⟨j, ?_, rfl⟩
  rw [nI_toInt hj] at h
  omega
section CT
variable {p : Program} {l : Launch} {e : Env} {R : Room} {s : State} {m : MethodId} {args : Array Value} {below : List Frame} {meth : Method} {c : Code} {H : Heap} {locs : List Loc} {cells slots : Nat} {Q : State → Prop}
variable {pc : Nat} {ls : Array Slot} {D : va_G} {cl : List vw_C} {A : Nat → Prop} {tys : List (ClassId × FieldType)} {H0 : Heap} {st0 rst : List Value} {av : Array Value} {σ : Type} {F G : σ → va_W} {wc wr pre tl : va_W}
variable {y : MethodName} {bytes cc : ByteArray} {maxL nL n index ci : Nat} {ret : Option FieldType} {wsc Ts : List Cond} {rm : Room} {own C : String} {b : Nat} {As : List Value} {fs : List Value} {qc : vw_C}
/-- an instance call whose callee sees the tail too, and leaves it -/
theorem gVt {post : Int32 → σ → Prop} (S : CallFix p m c cc nL s args Ts own) (hM : MG l y wsc rm D cl tys (.ref b :: As) (wc ++ tl) post (fun u => F u ++ tl)) (cw : CallW R s args own C index y bytes maxL ret wsc rm 0 0 n) (hK : va_K D cl tys s) (hP : va_P D cl (pre ++ tl) H) (hD : va_D A (pre ++ tl)) (hS : va_S A H0 H locs) (hA : ∀ q : Nat, H0.size ≤ q → A q)
    (isC isR isB : List Nat) (hC : (isC ++ isR).map (fun i => pre[i]?) = (wc ++ wr).map some) (hn : va_nd (isC ++ isR) = true) (hB : ∀ u, isB.map (fun i => (F u ++ wr)[i]?) = (G u).map some) (hnB : va_nd isB = true) (hre : wc[0]? = some (b, .inr (ci, fs))) (hcl : cl[ci]? = some qc) (hq : qc.1 = C) (hlen : As.length = n) (hsize : ls.size = nL) (hst : st0 = As.reverse ++ .ref b :: rst) (hW : (rst.map fun v => v.category).sum ≤ 8) (hdg : decode cc pc = .ok (.invokevirtual index, 3)) (hf : cells + 0 ≤ R.cells ∧ slots + 0 ≤ R.slots)
    (kk : ∀ (r : Int32) (u : σ) (H1 : Heap) (locs1 : List Loc), post r u → va_P D cl (G u ++ tl) H1 → va_D A (G u ++ tl) → va_S A H0 H1 locs1 → W p l e R s m args below meth c H1 locs1 cells slots Q (F0 m (pc + 3) ls (.int r :: rst))) : W p l e R s m args below meth c H locs cells slots Q (F0 m pc ls st0) := by
  have pm : ∀ X : va_W, ((X ++ tl) ++ wr).Perm ((X ++ wr) ++ tl) := fun X => by
    rw [List.append_assoc, List.append_assoc]
    exact List.Perm.append_left X List.perm_append_comm
  have hP1 : va_P D cl ((wc ++ tl) ++ wr) H := (hP.pre (isC ++ isR) hC).perm (pm wc)
  have hD1 : va_D A ((wc ++ tl) ++ wr) := (hD.pre (isC ++ isR) hn hC).perm (pm wc)
  have hPc : va_P D cl (wc ++ tl) H := hP1.mem (fun q h => List.mem_append_left _ h)
  have hDc : va_D (fun _ => True) (wc ++ tl) := (hD1.preL).weaken (fun _ _ _ _ => trivial)
  have hre' : (wc ++ tl)[0]? = some (b, .inr (ci, fs)) := by
    rw [List.getElem?_append_left (List.getElem?_eq_some_iff.mp hre).1]; exact hre
  subst hst
  subst hq
  refine x_goI (wc := wc ++ tl) (wr := wr) (va_runV (As := As) (rest := rst) S (hM H.size) cw ⟨x_blind, va_recv hK hPc hcl hre', fun U hU hW => ⟨rfl, by rw [hU], by rw [hU]; exact hPc, va_K.moved hW.alike hK, hDc⟩⟩ rfl hlen hsize rfl (lv_room hW) hdg hf) hP1 hD1 hS hA (fun r u H1 locs1 hp h1 h2 h3 => ?_)
  have h1 := h1.perm (pm (F u)).symm
  have h2 := h2.perm (pm (F u)).symm
  exact kk r u H1 locs1 hp (h1.pre isB (hB u)) (h2.pre isB hnB (hB u)) h3
end CT
