/-! the class's functions, as its loops do them: words of a stripe by places d * P + k -/
def dr_P (P : Nat) : Prop := P = 5 ∨ P = 7 ∨ P = 11 ∨ P = 13
def dr_cnt (g : Nat → Bool) : Nat → Nat
  | 0 => 0
  | n + 1 => dr_cnt g n + (if g n = true then 1 else 0)
def dr_any (g : Nat → Bool) : Nat → Bool
  | 0 => false
  | n + 1 => dr_any g n || g n
def dr_xs (f : Nat → Int32) : Nat → Int32
  | 0 => 0
  | n + 1 => dr_xs f n ^^^ f n
def dr_dd (P o k row : Nat) : Nat := if row = P - 2 then (o + k + 2) % P else (o + P - (k + 2)) % P
def dr_pd (P d k row : Nat) : Nat := if row = P - 2 then (d + P - (k + 2)) % P else (d + k + 2) % P
def dr_step (P k row : Nat) : Int32 := if row = P - 2 then nI (k + 2) else -(nI k) - 2
def dr_fm (x y : Int32) : Int32 := if x ^^^ y < 0 ∧ ¬ (x - x / y * y) = 0 then x - x / y * y + y else x - x / y * y
def dr_sum (P : Nat) (w : Nat → Int32) (o row n : Nat) : Int32 := dr_xs (fun k => w (dr_dd P o k row * P + k)) n
def dr_whole (P : Nat) (ms : Nat → Bool) (o row : Nat) : Bool := !(dr_any (fun k => ms (dr_dd P o k row)) (P - 2)) && !(ms o)
def dr_ag (P : Nat) (ms : Nat → Bool) (w : Nat → Int32) (o row : Nat) : Bool := dr_whole P ms o row && decide (w (o * P + row) = dr_sum P w o row (P - 2))
def dr_agn (P : Nat) (ms : Nat → Bool) (w : Nat → Int32) : Nat → Nat
  | 0 => 0
  | d + 1 => dr_agn P ms w d + (if dr_ag P ms w d (P - 2) = true then 1 else 0) + (if dr_ag P ms w d (P - 1) = true then 1 else 0)
def dr_zr (P : Nat) (w : Nat → Int32) (d : Nat) : Nat → (Nat → Int32)
  | 0 => w
  | k + 1 => va_up (dr_zr P w d k) (d * P + k) 0
def dr_rn1 (P : Nat) (w : Nat → Int32) (d row : Nat) : Nat → Int32 := va_up w (d * P + row) (dr_sum P w d row (P - 2))
def dr_rn (P : Nat) (w : Nat → Int32) : Nat → (Nat → Int32)
  | 0 => w
  | d + 1 => dr_rn1 P (dr_rn1 P (dr_rn P w d) d (P - 2)) d (P - 1)
/-! the teller -/
def dr_lk (P : Nat) (ms : Nat → Bool) (d : Nat) (kn : Nat → Bool) : Nat → (Nat → Bool)
  | 0 => kn
  | k + 1 => va_up (dr_lk P ms d kn k) (d * P + k) (!ms d)
def dr_lw (P : Nat) (ms : Nat → Bool) (w : Nat → Int32) (d : Nat) (tw : Nat → Int32) : Nat → (Nat → Int32)
  | 0 => tw
  | k + 1 => va_up (dr_lw P ms w d tw k) (d * P + k) (if ms d = true then 0 else w (d * P + k))
def dr_LK (P : Nat) (ms : Nat → Bool) (kn : Nat → Bool) : Nat → (Nat → Bool)
  | 0 => kn
  | d + 1 => dr_lk P ms d (dr_LK P ms kn d) P
def dr_LW (P : Nat) (ms : Nat → Bool) (w : Nat → Int32) (tw : Nat → Int32) : Nat → (Nat → Int32)
  | 0 => tw
  | d + 1 => dr_lw P ms w d (dr_LW P ms w tw d) P
def dr_un (P : Nat) (ms : Nat → Bool) : Nat → Nat
  | 0 => 0
  | d + 1 => dr_un P ms d + (if ms d = true then P else 0)
def dr_ss (P : Nat) (tw : Nat → Int32) (o row : Nat) : Nat → Int32
  | 0 => tw (o * P + row)
  | k + 1 => dr_ss P tw o row k ^^^ tw (dr_dd P o k row * P + k)
def dr_sh (P : Nat) (kn : Nat → Bool) (o row : Nat) : Nat → Nat
  | 0 => if kn (o * P + row) = true then 0 else 1
  | k + 1 => dr_sh P kn o row k + (if kn (dr_dd P o k row * P + k) = true then 0 else 1)
def dr_so (P : Nat) (kn : Nat → Bool) (o row : Nat) : Nat → Nat
  | 0 => o * P + row
  | k + 1 => if kn (dr_dd P o k row * P + k) = true then dr_so P kn o row k else dr_dd P o k row * P + k
abbrev dr_T : Type := (Nat → Bool) × (Nat → Int32) × Int32
def dr_st (P o row : Nat) (x : dr_T) : dr_T :=
  if dr_sh P x.1 o row (P - 2) = 1 then (va_up x.1 (dr_so P x.1 o row (P - 2)) true, va_up x.2.1 (dr_so P x.1 o row (P - 2)) (dr_ss P x.2.1 o row (P - 2)), x.2.2 - 1) else x
def dr_rd (P : Nat) (x : dr_T) : Nat → dr_T
  | 0 => x
  | d + 1 => dr_st P d (P - 1) (dr_st P d (P - 2) (dr_rd P x d))
def dr_tl (P : Nat) : Nat → dr_T → dr_T
  | 0, x => x
  | n + 1, x => if 0 < x.2.2 then dr_tl P n (dr_rd P x P) else x
def dr_ld (P : Nat) (ms : Nat → Bool) (w : Nat → Int32) (kn : Nat → Bool) (tw : Nat → Int32) : dr_T := (dr_LK P ms kn P, dr_LW P ms w tw P, nI (dr_un P ms P))
def dr_tell (P : Nat) (ms : Nat → Bool) (w : Nat → Int32) (kn : Nat → Bool) (tw : Nat → Int32) : dr_T := dr_tl P (dr_un P ms P) (dr_ld P ms w kn tw)
/-! words, power, turns -/
abbrev dr_X : Type := (Nat → Int32) × Bool × Int32
def dr_put (P : Nat) (x : dr_X) (d k : Nat) (v : Int32) : Bool × dr_X :=
  if x.2.2 = 0 then (false, x.1, false, x.2.2) else (true, va_up x.1 (d * P + k) v, x.2.1, if 0 < x.2.2 then x.2.2 - 1 else x.2.2)
def dr_pif (P : Nat) (ms : Nat → Bool) (x : dr_X) (d k : Nat) (v : Int32) : Bool × dr_X := if ms d = true then (true, x) else dr_put P x d k v
def dr_chg (P : Nat) (ms : Nat → Bool) (x : dr_X) (d k row : Nat) (ch : Int32) : Bool × dr_X :=
  dr_pif P ms x (dr_pd P d k row) row (x.1 (dr_pd P d k row * P + row) ^^^ ch)
def dr_wr (P : Nat) (ms : Nat → Bool) (x : dr_X) (d k : Nat) (v ch : Int32) : Bool × dr_X :=
  if (dr_pif P ms x d k v).1 = true then
    (if (dr_chg P ms (dr_pif P ms x d k v).2 d k (P - 2) ch).1 = true then dr_chg P ms (dr_chg P ms (dr_pif P ms x d k v).2 d k (P - 2) ch).2 d k (P - 1) ch
     else dr_chg P ms (dr_pif P ms x d k v).2 d k (P - 2) ch)
  else dr_pif P ms x d k v
def dr_pdr (P : Nat) (tw : Nat → Int32) (d : Nat) (x : dr_X) : Nat → Bool × dr_X
  | 0 => (true, x)
  | k + 1 => if (dr_pdr P tw d x k).1 = true then dr_put P (dr_pdr P tw d x k).2 d k (tw (d * P + k)) else dr_pdr P tw d x k
def dr_rbl (P : Nat) (lo ms : Nat → Bool) (tw : Nat → Int32) (x : dr_X) : Nat → Bool × dr_X
  | 0 => (true, x)
  | d + 1 => if (dr_rbl P lo ms tw x d).1 = true then (if (ms d && !lo d) = true then dr_pdr P tw d (dr_rbl P lo ms tw x d).2 P else dr_rbl P lo ms tw x d) else dr_rbl P lo ms tw x d
def dr_mf (lo ms : Nat → Bool) : Nat → (Nat → Bool)
  | 0 => ms
  | d + 1 => if (dr_mf lo ms d d && !lo d) = true then va_up (dr_mf lo ms d) d false else dr_mf lo ms d
