-- askNext: its end
theorem mm_find_mem {as : List AR} {fl gn : Int32} {gs : Nat → Int32} {r : AR} (h : mm_find as fl gn gs = some r) : ∃ i : Nat, as[i]? = some r := by
  have h1 := List.mem_of_find?_eq_some h
  have h2 : r ∈ as := List.mem_of_mem_take h1
  exact List.getElem?_of_mem h2
def nx_g (R : SS × Bool) (k : Nat) : Nat → Int32 := if R.2 = true then ask_g R.1.1 k else R.1.1
def nx_k (R : SS × Bool) (k : Nat) : Nat := if R.2 = true then ask_k R.1.1 k else k
def nx_R (R : SS × Bool) (as u : List AR) (k : Nat) : Prop := (R.2 = true → ask_R R.1.1 as u k R.1.2.2.2.1 R.1.2.2.2.2.1 R.1.2.2.2.2.2) ∧ (R.2 = false → u = as)
theorem an_0 {as : List AR} {fl : Int32} {S : SS} : an as fl 0 S = ((upd S.1 5 2, S.2.1, S.2.2.1, S.2.2.2), false) := rfl
theorem an_1 {as : List AR} {fl : Int32} {t : Nat} {S : SS} (h : (wk_fc S.2.2.1.2.1 S.2.2.1.1 1000000 S.2.1).2 = 0) : an as fl (t + 1) S = ((upd S.1 5 2, (wk_fc S.2.2.1.2.1 S.2.2.1.1 1000000 S.2.1).1, S.2.2.1, S.2.2.2), false) := by rw [an, if_pos h]
theorem an_2 {as : List AR} {fl : Int32} {t : Nat} {S : SS} (h : ¬ (wk_fc S.2.2.1.2.1 S.2.2.1.1 1000000 S.2.1).2 = 0) (hq : mm_find as fl (an_ch (an_cp S.2.2.1 S.2.2.2) (wk_fc S.2.2.1.2.1 S.2.2.1.1 1000000 S.2.1).1).1 (an_ch (an_cp S.2.2.1 S.2.2.2) (wk_fc S.2.2.1.2.1 S.2.2.1.1 1000000 S.2.1).1).2.1 = none) : an as fl (t + 1) S = ((S.1, (wk_fc S.2.2.1.2.1 S.2.2.1.1 1000000 S.2.1).1, S.2.2.1, an_ch (an_cp S.2.2.1 S.2.2.2) (wk_fc S.2.2.1.2.1 S.2.2.1.1 1000000 S.2.1).1), true) := by rw [an, if_neg h, hq]
theorem an_3 {as : List AR} {fl : Int32} {t : Nat} {S : SS} {r : AR} (h : ¬ (wk_fc S.2.2.1.2.1 S.2.2.1.1 1000000 S.2.1).2 = 0) (hq : mm_find as fl (an_ch (an_cp S.2.2.1 S.2.2.2) (wk_fc S.2.2.1.2.1 S.2.2.1.1 1000000 S.2.1).1).1 (an_ch (an_cp S.2.2.1 S.2.2.2) (wk_fc S.2.2.1.2.1 S.2.2.1.1 1000000 S.2.1).1).2.1 = some r) : an as fl (t + 1) S = an as fl t (an_tk (upd S.1 7 (S.1 7 + 1), (wk_fc S.2.2.1.2.1 S.2.2.1.1 1000000 S.2.1).1, S.2.2.1, an_ch (an_cp S.2.2.1 S.2.2.2) (wk_fc S.2.2.1.2.1 S.2.2.1.1 1000000 S.2.1).1) r.2.2.1) := by rw [an, if_neg h, hq]
