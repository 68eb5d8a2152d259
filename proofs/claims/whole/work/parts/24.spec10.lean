theorem md_next_3 (f : Nat → Int32) : md_next f 3 = f 3 := by
  unfold md_next
  by_cases h : 4 ≤ f 15 + 1
  · rw [if_pos h]; rfl
  · rw [if_neg h]; rfl
theorem md_ep_3 (f : Nat → Int32) : md_ep f 3 = f 3 := by
  unfold md_ep
  by_cases h : 1 < f 12
  · rw [if_pos h]; rfl
  · rw [if_neg h]
    by_cases h2 : f 10 = 0
    · rw [if_pos h2]; rfl
    · rw [if_neg h2]; rfl
