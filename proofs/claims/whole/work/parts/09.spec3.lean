-- WHAT Walk's METHODS COMPUTE: the walk is a function of its eight fields' places (step, piece, place, someLeftOut, wordPlace, bytePlace, someLowered, timesLeaving)
def wk_sgt (w : Nat → Int32) (x : Int32) : Nat → Int32 := upd (upd (upd w 1 x) 2 0) 3 0
def wk_sl (w : Nat → Int32) (x : Int32) : Nat → Int32 := wk_sgt (upd (upd w 7 (w 7 + 1)) 0 0) x
def wk_slow (w : Nat → Int32) : Nat → Int32 := upd (upd (upd (upd w 0 1) 4 0) 5 0) 6 0
def wk_next (w : Nat → Int32) : Nat → Int32 := if w 5 + 1 < 4 then upd (upd w 0 1) 5 (w 5 + 1) else upd (upd (upd (upd w 0 1) 5 (w 5 + 1)) 5 0) 4 (w 4 + 1)
def wk_pass (w : Nat → Int32) : Nat → Int32 := if w 0 = 0 then upd w 2 (w 2 + w 1) else if w 0 = 1 then upd w 0 2 else if w 0 = 2 then upd w 0 3 else wk_next w
def wk_go (w : Nat → Int32) : Nat → Int32 := if w 0 = 0 then upd w 3 1 else if w 0 = 1 then wk_next (upd w 6 1) else upd w 6 1
def wk_end (w : Nat → Int32) : Nat → Int32 := if w 1 ≤ 1 then (if w 3 = 0 then wk_slow w else wk_sgt w 1) else wk_sgt w (w 1 / 2)
def wk_lv (w : Nat → Int32) (v : Int32) : Int32 := if w 0 = 1 then 0 else if w 0 = 2 then v / 2 else v - 1
def wk_can (w : Nat → Int32) (v : Int32) : Int32 := if w 0 = 1 then (if v ≤ 0 then 0 else 1) else if wk_lv w v ≤ 0 then 0 else 1
def wk_low (w : Nat → Int32) : Int32 := if w 0 = 0 then 0 else 1
def ch_V (ws : Nat → Int32) (n : Int32) (w : Nat → Int32) : Int32 := wk_lv w (pg_byte ws n (w 4) (w 5))
def ch_W (ws os : Nat → Int32) (n : Int32) (w : Nat → Int32) : Nat → Int32 := if w 0 = 0 then pg_loW ws os n (w 2) (w 1) else pg_sbW ws n (w 4) (w 5) (ch_V ws n w)
def ch_O (ws os : Nat → Int32) (n : Int32) (w : Nat → Int32) : Nat → Int32 := if w 0 = 0 then pg_loO ws os n (w 2) (w 1) else os
def ch_N (ws os : Nat → Int32) (n : Int32) (w : Nat → Int32) : Int32 := if w 0 = 0 then pg_loN ws os n (w 2) (w 1) else n
/-- findChange, with so many turns left -/
def wk_fc (ws : Nat → Int32) (n : Int32) : Nat → (Nat → Int32) → (Nat → Int32) × Int32
  | 0, w => (w, 0)
  | k + 1, w => if w 0 = 0 then (if pg_hasI n (w 2) = 0 then wk_fc ws n k (wk_end w) else (w, 1)) else if pg_hasI n (w 4) = 0 then (if w 6 = 0 then (w, 0) else wk_fc ws n k (wk_sl w 1)) else if wk_can w (pg_byte ws n (w 4) (w 5)) = 0 then wk_fc ws n k (wk_pass w) else (w, 1)
theorem ml_lt {i : Nat} (hi : i < 2 ^ 31) (h : ¬ 1000000 ≤ nI i) : i < 1000000 := by
  have := cl_lt (x := 1000000) hi h
  have e : (1000000 : Int32).toNatClampNeg = 1000000 := by decide
  omega
theorem ml_le {i : Nat} (hi : i < 2 ^ 31) (h : 1000000 ≤ nI i) : 1000000 ≤ i := by
  have := cl_le (x := 1000000) hi h
  have e : (1000000 : Int32).toNatClampNeg = 1000000 := by decide
  omega
