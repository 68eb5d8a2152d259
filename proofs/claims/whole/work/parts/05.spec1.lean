-- WHAT Program's METHODS COMPUTE (mirrors of the code, over Int32 and functions)
theorem ix_in {k : Int32} (h0 : ¬ k < 0) (h1 : ¬ 48 ≤ k) : vp_in k 48 := by
  rw [vp_in_iff]
  rw [Int32.lt_iff_toInt_lt] at h0
  rw [Int32.le_iff_toInt_le] at h1
  have e0 : (0 : Int32).toInt = 0 := by decide
  have e1 : (48 : Int32).toInt = 48 := by decide
  rw [e0] at h0
  rw [e1] at h1
  omega
def pg_hasI (n k : Int32) : Int32 := if ¬ k < 0 ∧ ¬ n ≤ k ∧ ¬ 48 ≤ k then 1 else 0
theorem pg_has_c {n k : Int32} (h : ¬ pg_hasI n k = 0) : ¬ k < 0 ∧ ¬ n ≤ k ∧ ¬ 48 ≤ k := by
  unfold pg_hasI at h
  by_cases q : ¬ k < 0 ∧ ¬ n ≤ k ∧ ¬ 48 ≤ k
  · exact q
  · rw [if_neg q] at h; exact absurd rfl h
theorem pg_has_in {n k : Int32} (h : ¬ pg_hasI n k = 0) : vp_in k 48 := ix_in (pg_has_c h).1 (pg_has_c h).2.2
def pg_fullI (n : Int32) : Int32 := if n < 48 then 0 else 1
def pg_word (f : Nat → Int32) (n k : Int32) : Int32 := if pg_hasI n k = 0 then 0 else f k.toNatClampNeg
def pg_orig (f : Nat → Int32) (n k : Int32) : Int32 := if pg_hasI n k = 0 then (-1) else f k.toNatClampNeg
def pg_shift (b : Int32) : Int32 := 8 * (3 - b)
def pg_byte (f : Nat → Int32) (n k b : Int32) : Int32 := (Int32.toUInt32 (pg_word f n k) >>> (Int32.toUInt32 (pg_shift b) &&& Int32.toUInt32 31)).toInt32 &&& 255
/-- append: the words, the origins, the length -/
def pg_apW (ws : Nat → Int32) (n w : Int32) : Nat → Int32 := if n < 0 then ws else if 48 ≤ n then ws else upd ws n.toNatClampNeg w
def pg_apO (os : Nat → Int32) (n : Int32) : Nat → Int32 := if n < 0 then os else if 48 ≤ n then os else upd os n.toNatClampNeg n
def pg_apN (n : Int32) : Int32 := if n < 0 then n else if 48 ≤ n then n else n + 1
