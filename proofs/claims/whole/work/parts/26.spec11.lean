-- THE REFERENCE'S FACE
def md_rs (f : Nat → Int32) : Nat → Int32 := upd (upd (upd (upd (upd (upd (upd (upd (upd f 2 0) 3 0) 18 0) 22 0) 23 0) 24 0) 25 0) 26 0) 17 (-1)
def fd_F (f : Nat → Int32) : Nat → Int32 := if f 2 = 0 then (if f 3 = 48 then upd (upd f 0 0) 0 1 else upd (upd f 0 0) 3 (f 3 + 1)) else upd (md_rs (upd f 0 0)) 3 (0 + 1)
def fd_r (f : Nat → Int32) : Int32 := if f 2 = 0 then (if f 3 = 48 then 0 else f 3 + 1) else 0 + 1
def fd_W (f W : Nat → Int32) (x : Int32) : Nat → Int32 := if f 2 = 0 then (if f 3 = 48 then W else upd W (f 3).toNatClampNeg x) else upd W (0 : Int32).toNatClampNeg x
def fd_O (f O : Nat → Int32) : Nat → Int32 := if f 2 = 0 then (if f 3 = 48 then O else upd O (f 3).toNatClampNeg (f 3)) else upd O (0 : Int32).toNatClampNeg 0
theorem fd_in {f : Nat → Int32} {n : Nat} (hn : f 3 = nI n) (h48 : n ≤ 48) (h : ¬ f 3 = 48) : vp_in (f 3) 48 := by
  rw [hn]
  refine vp_in_nI ?_ (by decide)
  rcases Nat.lt_or_ge n 48 with q | q
  · exact q
  · exact absurd (by rw [hn, show n = 48 by omega]; rfl) h
def ak_F (f : Nat → Int32) (k : Int32) : Nat → Int32 := if f 2 = 1 then (if md_in k 0 (f 6 - 1) = 0 then upd (upd f 0 0) 0 2 else upd f 0 0) else upd (upd f 0 0) 0 1
def ak_r (f C : Nat → Int32) (k : Int32) : Int32 := if f 2 = 1 then (if md_in k 0 (f 6 - 1) = 0 then 0 else C k.toNatClampNeg) else 0
theorem md_in_c {k x : Int32} {n : Nat} (hn : x = nI n) (h48 : n ≤ 48) (h : ¬ md_in k 0 (x - 1) = 0) : ∃ j : Nat, j < n ∧ k = nI j := by
  unfold md_in at h
  by_cases h0 : k < 0
  · rw [if_pos h0] at h; exact absurd rfl h
  · rw [if_neg h0] at h
    by_cases h1 : x - 1 < k
    · rw [if_pos h1] at h; exact absurd rfl h
    · obtain ⟨j, hj, rfl⟩ := nI_of h0
      refine ⟨j, ?_, rfl⟩
      rw [hn] at h1
      rcases Nat.lt_or_ge j n with q | q
      · exact q
      · exfalso
        cases n with
        | zero => exact h1 (by rw [show nI 0 - 1 = (-1) by decide, Int32.lt_iff_toInt_lt, nI_toInt hj, show ((-1) : Int32).toInt = -1 by decide]; omega)
        | succ n => rw [nI_pred] at h1; exact h1 (nI_lt (by omega) hj)
theorem md_in_vp {k x : Int32} {n : Nat} (hn : x = nI n) (h48 : n ≤ 48) (h : ¬ md_in k 0 (x - 1) = 0) : vp_in k 48 := by
  obtain ⟨j, hj, rfl⟩ := md_in_c hn h48 h
  exact vp_in_nI (by omega) (by decide)
def sz_F (f : Nat → Int32) : Nat → Int32 := if f 2 = 1 then upd f 0 0 else upd (upd f 0 0) 0 1
def sz_r (f : Nat → Int32) : Int32 := if f 2 = 1 then f 6 else 0
def at_F (f : Nat → Int32) (k : Int32) : Nat → Int32 := if md_in k 0 (f 3 - 1) = 0 then upd (upd f 0 0) 0 1 else upd f 0 0
def at_r (f A : Nat → Int32) (k : Int32) : Int32 := if md_in k 0 (f 3 - 1) = 0 then 0 else A k.toNatClampNeg
def cn_r (f : Nat → Int32) (x : Int32) : Int32 := if x = 0 then f 2 else if x = 1 then f 3 else if x = 2 then f 18 else if x = 3 then f 22 else if x = 4 then f 23 else if x = 5 then f 24 else if x = 6 then f 25 else if x = 7 then f 1 else if x = 8 then f 17 else if x = 9 then f 26 else (-1)
/-- begin, where it begins -/
def bg_f (f W C : Nat → Int32) (n : Nat) : Nat → Int32 := upd (upd (upd (upd f 0 0) 2 1) 8 1) 6 (nI (md_wo W C (f 3) 0 n).1)
def bg_ok (f : Nat → Int32) : Prop := f 2 = 0 ∧ ¬ f 3 = 0
/-- judge: where goOn begins -/
def jd_1 (f : Nat → Int32) (d : Int32) : Nat → Int32 := if d = (-1) then upd (upd (upd (upd f 0 0) 8 0) 17 d) 2 4 else md_bl (upd (upd (upd f 0 0) 8 0) 17 d) (if f 3 / 2 ≤ 0 then 1 else f 3 / 2)
def jd_0 (S : DS) (d : Int32) (a n cz pl : Nat) : DS := if S.1 8 = 0 then md_ans (upd S.1 0 0, S.2.1, S.2.2.1, S.2.2.2.1, S.2.2.2.2.1, S.2.2.2.2.2.1, upd S.2.2.2.2.2.2 a d) d pl (n - cz) cz else (jd_1 S.1 d, S.2.1, S.2.2.1, S.2.2.2.1, S.2.2.2.2.1, S.2.2.2.2.2.1, upd S.2.2.2.2.2.2 a d)
/-- judge as a relation -/
def jd_R (S : DS) (d : Int32) (T : DS) (r : Int32) : Prop :=
  (¬ S.1 2 = 1 ∧ T = (upd (upd S.1 0 0) 0 1, S.2) ∧ r = 0) ∨ (S.1 2 = 1 ∧ d < (-1) ∧ T = (upd (upd S.1 0 0) 0 2, S.2) ∧ r = 0) ∨
  (S.1 2 = 1 ∧ ¬ d < (-1) ∧ r = T.1 2 ∧ ∃ (a n cz pl t : Nat), S.1 18 - 1 = nI a ∧ a < 600 ∧ (S.1 8 = 0 → md_ok (upd S.1 0 0) n cz pl) ∧ md_go t (jd_0 S d a n cz pl) T)
def kn_C (W C : Nat → Int32) (n : Nat) (what k b v : Int32) : Nat → Int32 := if what = 0 then (md_wo W C k 1 n).2 else md_wb W C n k b v
def kn_c (W C : Nat → Int32) (n : Nat) (what k : Int32) : Nat := if what = 0 then (md_wo W C k 1 n).1 else n
def kn_r (Sz Aw An C : Nat → Int32) (c a : Nat) : Int32 := match md_fd Sz Aw C c a with
  | some i => An i
  | none => (-2)
/-- known's refusal -/
def kn_e (f : Nat → Int32) (what k b v : Int32) : Int32 := if md_in k 0 (f 3 - 1) = 0 then 1 else if what = 1 then (if md_in b 0 3 = 0 then 1 else if md_in what 0 1 = 0 then 2 else if md_in v 0 255 = 0 then 2 else 0) else if md_in what 0 1 = 0 then 2 else 0
theorem in01 {x : Int32} (h : ¬ md_in x 0 1 = 0) (h1 : ¬ x = 1) : x = 0 := by
  unfold md_in at h
  by_cases h0 : x < 0
  · rw [if_pos h0] at h; exact absurd rfl h
  · rw [if_neg h0] at h
    by_cases h2 : 1 < x
    · rw [if_pos h2] at h; exact absurd rfl h
    · obtain ⟨j, hj, rfl⟩ := nI_of h0
      rw [Int32.lt_iff_toInt_lt, nI_toInt hj, show (1 : Int32).toInt = 1 by decide] at h2
      rcases (show j = 0 ∨ j = 1 by omega) with rfl | rfl
      · rfl
      · exact absurd rfl h1
