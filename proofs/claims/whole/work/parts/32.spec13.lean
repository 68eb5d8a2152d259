-- THE CLASS'S FACE: what its throwing methods compute
def fe_n (g : Nat → Int32) (n : Int32) : Int32 := if g 5 = 0 then n else 0
def fe_g (g : Nat → Int32) : Nat → Int32 := if g 5 = 0 then g else sf_g g
def fe_k (g w : Nat → Int32) : Nat → Int32 := if g 5 = 0 then w else sf_k w
def fe_f (g : Nat → Int32) (k : Nat) : Nat := if g 5 = 0 then k else 0
def mm_lastR (as : List AR) (fl : Int32) : Option AR := if fl ≤ 0 then none else if 600 < fl then none else as[(fl - 1).toNatClampNeg]?
theorem mm_last_R (as : List AR) (fl : Int32) : mm_last as fl = (mm_lastR as fl).map (fun r => r.1.1) := by
  unfold mm_last mm_lastR
  by_cases h1 : fl ≤ 0
  · rw [if_pos h1, if_pos h1]; rfl
  · rw [if_neg h1, if_neg h1]
    by_cases h2 : 600 < fl
    · rw [if_pos h2, if_pos h2]; rfl
    · rw [if_neg h2, if_neg h2]; rfl
def oa_R (g : Nat → Int32) (as : List AR) (fl : Int32) : Option AR := if g 5 = 1 then mm_lastR as fl else none
theorem oa_r_R (g : Nat → Int32) (as : List AR) (fl : Int32) : oa_r g as fl = (oa_R g as fl).map (fun r => r.1.1) := by
  unfold oa_r oa_R
  by_cases h1 : g 5 = 1
  · rw [if_pos h1, if_pos h1]; exact mm_last_R as fl
  · rw [if_neg h1, if_neg h1]; rfl
theorem oa_mem {g : Nat → Int32} {as : List AR} {fl : Int32} {r : AR} (h : oa_R g as fl = some r) : ∃ i : Nat, as[i]? = some r ∧ i = (fl - 1).toNatClampNeg ∧ g 5 = 1 ∧ ¬ fl ≤ 0 ∧ ¬ 600 < fl := by
  unfold oa_R at h
  by_cases h1 : g 5 = 1
  · rw [if_pos h1] at h
    unfold mm_lastR at h
    by_cases h2 : fl ≤ 0
    · rw [if_pos h2] at h; cases h
    · rw [if_neg h2] at h
      by_cases h3 : 600 < fl
      · rw [if_pos h3] at h; cases h
      · rw [if_neg h3] at h
        exact ⟨_, h, rfl, h1, h2, h3⟩
  · rw [if_neg h1] at h; cases h
def ex_U : String := "java/lang/UnsupportedOperationException"
def ex_I : String := "java/lang/IllegalStateException"
def ex_B : String := "java/lang/IndexOutOfBoundsException"
def ex_A : String := "java/lang/IllegalArgumentException"
/-- known's refusal, in the class -/
def kc_e (n what k b v : Int32) : Int32 := if pg_hasI n k = 0 then 1 else if what = 1 then (if b < 0 then 1 else if ¬ b < 4 then 1 else if v < 0 then 2 else if ¬ v ≤ 255 then 2 else 0) else if what = 0 then 0 else 2
def kc_d (c d : PR) (what k b v : Int32) : PR := if what = 0 then (pg_loN (an_cp c d).2.1 (an_cp c d).2.2 (an_cp c d).1 k 1, pg_loW (an_cp c d).2.1 (an_cp c d).2.2 (an_cp c d).1 k 1, pg_loO (an_cp c d).2.1 (an_cp c d).2.2 (an_cp c d).1 k 1) else ((an_cp c d).1, pg_sbW (an_cp c d).2.1 (an_cp c d).1 k b v, (an_cp c d).2.2)
def kc_r (as : List AR) (fl : Int32) (d : PR) : Int32 := match mm_find as fl d.1 d.2.1 with
  | some r => r.2.2.1
  | none => (-2)
