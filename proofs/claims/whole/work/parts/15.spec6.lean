-- THE CLASS ITSELF: g is the function of its int fields' places (0 budget, 5 state, 6 theDifference, 7 remembered, 8 good, 9 leftOut, 10 lowered)
def sf_g (g : Nat → Int32) : Nat → Int32 := upd (upd (upd (upd (upd (upd g 5 0) 6 (-1)) 7 0) 8 0) 9 0) 10 0
def sf_k (w : Nat → Int32) : Nat → Int32 := upd (upd w 0 0) 7 0
def oa_r (g : Nat → Int32) (as : List AR) (fl : Int32) : Option Nat := if g 5 = 1 then mm_last as fl else none
def tf_g (g : Nat → Int32) (x : Int32) : Nat → Int32 := if x = (-1) then upd g 5 4 else upd g 6 x
def tf_k (w : Nat → Int32) (n x : Int32) : Nat → Int32 := if x = (-1) then w else wk_sl w (if 1 < n / 2 then n / 2 else 1)
/-- take, its good road -/
def tk_go (g w : Nat → Int32) (n n' : Int32) : Nat → Int32 := if wk_low w = 0 then upd (upd g 8 (g 8 + 1)) 9 (g 9 + (n - n')) else upd (upd (upd g 8 (g 8 + 1)) 9 (g 9 + (n - n'))) 10 (g 10 + 1)
def tkG (g w ws os : Nat → Int32) (n x : Int32) : Nat → Int32 := if x = g 6 then tk_go g w n (ch_N ws os n w) else g
def tkK (g w : Nat → Int32) (x : Int32) : Nat → Int32 := if x = g 6 then wk_go w else wk_pass w
def tkW (g w ws os : Nat → Int32) (n x : Int32) : Nat → Int32 := if x = g 6 then ch_W ws os n w else ws
def tkO (g w ws os : Nat → Int32) (n x : Int32) : Nat → Int32 := if x = g 6 then ch_O ws os n w else os
def tkN (g w ws os : Nat → Int32) (n x : Int32) : Int32 := if x = g 6 then ch_N ws os n w else n
def ct_r (g w : Nat → Int32) (n fl x : Int32) : Int32 := if x = 0 then g 5 else if x = 1 then n else if x = 2 then fl else if x = 3 then g 7 else if x = 4 then g 8 else if x = 5 then g 9 else if x = 6 then g 10 else if x = 7 then g 0 else if x = 8 then g 6 else if x = 9 then w 7 else (-1)
def ask_g (g : Nat → Int32) (k : Nat) : Nat → Int32 := if nI k < g 0 then g else upd g 5 3
def ask_k (g : Nat → Int32) (k : Nat) : Nat := if nI k < g 0 then mm_fl k else k
def ask_R (g : Nat → Int32) (as u : List AR) (k : Nat) (n : Int32) (ws os : Nat → Int32) : Prop := (nI k < g 0 → mm_keepR as u k n ws os) ∧ (¬ nI k < g 0 → u = as)
/-- a program's length, words, origins -/
abbrev PR : Type := Int32 × (Nat → Int32) × (Nat → Int32)
/-- int fields, walk, current, candidate -/
abbrev SS : Type := (Nat → Int32) × (Nat → Int32) × PR × PR
def an_cp (c d : PR) : PR := (pg_cpN c.1, pg_cp c.2.1 d.2.1 (pg_cpN c.1).toNatClampNeg, pg_cp c.2.2 d.2.2 (pg_cpN c.1).toNatClampNeg)
def an_ch (c : PR) (w : Nat → Int32) : PR := (ch_N c.2.1 c.2.2 c.1 w, ch_W c.2.1 c.2.2 c.1 w, ch_O c.2.1 c.2.2 c.1 w)
def an_tk (S : SS) (x : Int32) : SS := (tkG S.1 S.2.1 S.2.2.1.2.1 S.2.2.1.2.2 S.2.2.1.1 x, tkK S.1 S.2.1 x, (tkN S.1 S.2.1 S.2.2.1.2.1 S.2.2.1.2.2 S.2.2.1.1 x, tkW S.1 S.2.1 S.2.2.1.2.1 S.2.2.1.2.2 S.2.2.1.1 x, tkO S.1 S.2.1 S.2.2.1.2.1 S.2.2.1.2.2 S.2.2.1.1 x), S.2.2.2)
/-- askNext's turns: the state when it ends, and whether it ends by ask() -/
def an (as : List AR) (fl : Int32) : Nat → SS → SS × Bool
  | 0, S => ((upd S.1 5 2, S.2.1, S.2.2.1, S.2.2.2), false)
  | t + 1, S => if (wk_fc S.2.2.1.2.1 S.2.2.1.1 1000000 S.2.1).2 = 0 then ((upd S.1 5 2, (wk_fc S.2.2.1.2.1 S.2.2.1.1 1000000 S.2.1).1, S.2.2.1, S.2.2.2), false)
    else match mm_find as fl (an_ch (an_cp S.2.2.1 S.2.2.2) (wk_fc S.2.2.1.2.1 S.2.2.1.1 1000000 S.2.1).1).1 (an_ch (an_cp S.2.2.1 S.2.2.2) (wk_fc S.2.2.1.2.1 S.2.2.1.1 1000000 S.2.1).1).2.1 with
      | none => ((S.1, (wk_fc S.2.2.1.2.1 S.2.2.1.1 1000000 S.2.1).1, S.2.2.1, an_ch (an_cp S.2.2.1 S.2.2.2) (wk_fc S.2.2.1.2.1 S.2.2.1.1 1000000 S.2.1).1), true)
      | some r => an as fl t (an_tk (upd S.1 7 (S.1 7 + 1), (wk_fc S.2.2.1.2.1 S.2.2.1.1 1000000 S.2.1).1, S.2.2.1, an_ch (an_cp S.2.2.1 S.2.2.2) (wk_fc S.2.2.1.2.1 S.2.2.1.1 1000000 S.2.1).1) r.2.2.1)
theorem sw_out {x : Int32} (e0 : ¬ x = 0) (e1 : ¬ x = 1) (e2 : ¬ x = 2) (e3 : ¬ x = 3) (e4 : ¬ x = 4) (e5 : ¬ x = 5) (e6 : ¬ x = 6) (e7 : ¬ x = 7) (e8 : ¬ x = 8) (e9 : ¬ x = 9) : x.toInt < 0 ∨ 9 < x.toInt := by
  by_cases h0 : x.toInt < 0
  · exact Or.inl h0
  · refine Or.inr ?_
    by_cases h9 : 9 < x.toInt
    · exact h9
    · exfalso
      have hn : ¬ x < 0 := by rw [Int32.lt_iff_toInt_lt]; exact h0
      obtain ⟨j, hj, rfl⟩ := nI_of hn
      rw [nI_toInt hj] at h9
      have : j < 10 := by omega
      rcases (show j = 0 ∨ j = 1 ∨ j = 2 ∨ j = 3 ∨ j = 4 ∨ j = 5 ∨ j = 6 ∨ j = 7 ∨ j = 8 ∨ j = 9 by omega) with rfl | rfl | rfl | rfl | rfl | rfl | rfl | rfl | rfl | rfl
      · exact e0 rfl
      · exact e1 rfl
      · exact e2 rfl
      · exact e3 rfl
      · exact e4 rfl
      · exact e5 rfl
      · exact e6 rfl
      · exact e7 rfl
      · exact e8 rfl
      · exact e9 rfl
