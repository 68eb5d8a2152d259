-- Program's loops: pure rows
theorem cl_toInt (x : Int32) : (x.toNatClampNeg : Int) = if 0 ≤ x.toInt then x.toInt else 0 := by
  have h : x.toNatClampNeg = x.toInt.toNat := rfl
  rw [h]
  by_cases q : 0 ≤ x.toInt
  · rw [if_pos q]; omega
  · rw [if_neg q]; omega
theorem cl_lt {x : Int32} {i : Nat} (hi : i < 2 ^ 31) (h : ¬ x ≤ nI i) : i < x.toNatClampNeg := by
  rw [Int32.le_iff_toInt_le, nI_toInt hi] at h
  have := cl_toInt x
  split at this <;> omega
theorem cl_le {x : Int32} {i : Nat} (hi : i < 2 ^ 31) (h : x ≤ nI i) : x.toNatClampNeg ≤ i := by
  rw [Int32.le_iff_toInt_le, nI_toInt hi] at h
  have := cl_toInt x
  split at this <;> omega
theorem cl_48 {i : Nat} (hi : i < 2 ^ 31) (h : ¬ 48 ≤ nI i) : i < 48 := by
  have := cl_lt (x := 48) hi h
  have e : (48 : Int32).toNatClampNeg = 48 := by decide
  omega
theorem cl_48' {i : Nat} (hi : i < 2 ^ 31) (h : 48 ≤ nI i) : 48 ≤ i := by
  have := cl_le (x := 48) hi h
  have e : (48 : Int32).toNatClampNeg = 48 := by decide
  omega
theorem pg_has_nI {n k : Int32} (h : ¬ pg_hasI n k = 0) : ∃ a : Nat, a < 48 ∧ a < n.toNatClampNeg ∧ k = nI a := by
  obtain ⟨a, ha, e⟩ := vp_in_of (pg_has_in h) (by decide)
  subst e
  exact ⟨a, ha, cl_lt (by omega) (pg_has_c h).2.1, rfl⟩
/-- the first i of f, then g -/
def pg_cp (f g : Nat → Int32) (i : Nat) : Nat → Int32 := fun j => if j < i then f j else g j
theorem pg_cp0 (f g : Nat → Int32) : pg_cp f g 0 = g := by funext j; simp [pg_cp]
theorem pg_cps (f g : Nat → Int32) (i : Nat) : upd (pg_cp f g i) i (f i) = pg_cp f g (i + 1) := by
  funext j
  unfold upd pg_cp
  by_cases h : j = i
  · subst h; simp
  · by_cases h2 : j < i
    · simp [h, h2, Nat.lt_succ_of_lt h2]
    · simp [h, h2]
      intro h3; omega
def pg_cpN (n : Int32) : Int32 := if 48 < n then 48 else n
theorem pg_cpN_le (n : Int32) : (pg_cpN n).toNatClampNeg ≤ 48 := by
  unfold pg_cpN
  have e : (48 : Int32).toInt = 48 := by decide
  by_cases h : 48 < n
  · rw [if_pos h]; decide
  · rw [if_neg h]
    rw [Int32.lt_iff_toInt_lt, e] at h
    have := cl_toInt n
    split at this <;> omega
/-- leaving out: what stands after d words from a on were looked at -/
def pg_lo (ws os : Nat → Int32) (a : Nat) (many : Int32) : Nat → Nat × (Nat → Int32) × (Nat → Int32)
  | 0 => (a, ws, os)
  | d + 1 => if nI (a + d) - nI a < many then pg_lo ws os a many d else ((pg_lo ws os a many d).1 + 1, upd (pg_lo ws os a many d).2.1 (pg_lo ws os a many d).1 ((pg_lo ws os a many d).2.1 (a + d)), upd (pg_lo ws os a many d).2.2 (pg_lo ws os a many d).1 ((pg_lo ws os a many d).2.2 (a + d)))
theorem pg_lo_le (ws os : Nat → Int32) (a : Nat) (many : Int32) : ∀ d, (pg_lo ws os a many d).1 ≤ a + d
  | 0 => Nat.le_refl a
  | d + 1 => by
    have h := pg_lo_le ws os a many d
    unfold pg_lo
    by_cases q : nI (a + d) - nI a < many
    · rw [if_pos q]; omega
    · rw [if_neg q]; show _ + 1 ≤ _; omega
def pg_lim (n : Int32) : Nat := min n.toNatClampNeg 48
def pg_loR (ws os : Nat → Int32) (n k many : Int32) : Nat × (Nat → Int32) × (Nat → Int32) := pg_lo ws os k.toNatClampNeg many (pg_lim n - k.toNatClampNeg)
def pg_loW (ws os : Nat → Int32) (n k many : Int32) : Nat → Int32 := if pg_hasI n k = 0 then ws else if ¬ 1 ≤ many then ws else (pg_loR ws os n k many).2.1
def pg_loO (ws os : Nat → Int32) (n k many : Int32) : Nat → Int32 := if pg_hasI n k = 0 then os else if ¬ 1 ≤ many then os else (pg_loR ws os n k many).2.2
def pg_loN (ws os : Nat → Int32) (n k many : Int32) : Int32 := if pg_hasI n k = 0 then n else if ¬ 1 ≤ many then n else nI (pg_loR ws os n k many).1
def pg_sbV (x b v : Int32) : Int32 := (x &&& ((255 <<< (pg_shift b &&& 31)) ^^^ (-1))) ||| ((v &&& 255) <<< (pg_shift b &&& 31))
def pg_sbW (ws : Nat → Int32) (n k b v : Int32) : Nat → Int32 := if pg_hasI n k = 0 then ws else upd ws k.toNatClampNeg (pg_sbV (ws k.toNatClampNeg) b v)
def pg_same (f : Nat → Int32) (n : Int32) (g : Nat → Int32) (n' : Int32) : Int32 := if n = n' ∧ ∀ j, j < pg_lim n → f j = g j then 1 else 0
def pg_mk (ws : Nat → Int32) (n : Int32) : Nat → Int32
  | 0 => n
  | i + 1 => 31 * pg_mk ws n i + ws i
def pg_mark (ws : Nat → Int32) (n : Int32) : Int32 := pg_mk ws n (pg_lim n)
theorem pg_lim_lt {n : Int32} {i : Nat} (hi : i < 2 ^ 31) (h1 : ¬ n ≤ nI i) (h2 : ¬ 48 ≤ nI i) : i < pg_lim n := by
  have := cl_lt hi h1
  have := cl_48 hi h2
  unfold pg_lim; omega
theorem pg_lim_le1 {n : Int32} {i : Nat} (hi : i < 2 ^ 31) (h : n ≤ nI i) : pg_lim n ≤ i := by
  have := cl_le hi h
  unfold pg_lim; omega
theorem pg_lim_le2 {n : Int32} {i : Nat} (hi : i < 2 ^ 31) (h : 48 ≤ nI i) : pg_lim n ≤ i := by
  have := cl_48' hi h
  unfold pg_lim; omega
theorem pg_lim_48 (n : Int32) : pg_lim n ≤ 48 := Nat.min_le_right _ _
theorem pg_lo_s1 (ws os : Nat → Int32) {a d : Nat} {many : Int32} (h : nI (a + d) - nI a < many) : pg_lo ws os a many (d + 1) = pg_lo ws os a many d := by rw [pg_lo, if_pos h]
theorem pg_lo_s2 (ws os : Nat → Int32) {a d : Nat} {many : Int32} (h : ¬ nI (a + d) - nI a < many) : pg_lo ws os a many (d + 1) = ((pg_lo ws os a many d).1 + 1, upd (pg_lo ws os a many d).2.1 (pg_lo ws os a many d).1 ((pg_lo ws os a many d).2.1 (a + d)), upd (pg_lo ws os a many d).2.2 (pg_lo ws os a many d).1 ((pg_lo ws os a many d).2.2 (a + d))) := by rw [pg_lo, if_neg h]
theorem sp_cI {D : va_G} {cl : List vw_C} {cI cQ cA : ClassId} {s : State} (h : va_K D cl (kT cI cQ ++ [(cA, .int)]) s) : cI = cA := by
  have h1 : s.vm.findClass ("[" ++ (FieldType.int).toString) = some cI := (h.2 0 _ rfl).2
  have h2 : s.vm.findClass ("[" ++ (FieldType.int).toString) = some cA := (h.2 2 _ rfl).2
  exact Option.some.inj (h1.symm.trans h2)
