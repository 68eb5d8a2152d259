-- THE REFERENCE, on: taking, putting, preparing, going on
def md_tlF (f : Nat → Int32) : Nat → Int32 := upd (upd (upd f 3 (f 6)) 24 (f 24 + (f 3 - f 6))) 10 1
def md_tw0 (f : Nat → Int32) : Nat → Int32 := upd (upd f 25 (f 25 + 1)) 11 1
def md_twF (f : Nat → Int32) : Nat → Int32 := if f 16 = 0 then md_next (md_tw0 f) else md_tw0 f
def md_twW (f W C : Nat → Int32) : Nat → Int32 := upd W (f 14).toNatClampNeg (C (f 14).toNatClampNeg)
def md_an0 (f : Nat → Int32) (d : Int32) : Nat → Int32 := upd f 23 (f 23 + (if d = f 17 then 1 else 0))
def md_anF (f : Nat → Int32) (d : Int32) : Nat → Int32 := if f 9 = 0 then (if d = f 17 then md_tlF (md_an0 f d) else upd (md_an0 f d) 13 (f 13 + f 12)) else if d = f 17 then md_twF (md_an0 f d) else if f 16 = 2 then md_next (md_an0 f d) else upd (md_an0 f d) 16 (f 16 + 1)
def md_anW (f W C : Nat → Int32) (d : Int32) (cz : Nat) : Nat → Int32 := if f 9 = 0 then (if d = f 17 then pg_cp C W cz else W) else if d = f 17 then md_twW f W C else W
def md_anO (f O : Nat → Int32) (d : Int32) (pl m cz : Nat) : Nat → Int32 := if f 9 = 0 then (if d = f 17 then md_mv O pl m cz else O) else O
def md_ptF (f : Nat → Int32) : Nat → Int32 := upd f 18 (f 18 + 1)
/-- prepare, with so much fuel: none where it runs out, or a place isn't there -/
def md_pp (W : Nat → Int32) (n : Nat) : Nat → (Nat → Int32) → (Nat → Int32) → Option ((Nat → Int32) × (Nat → Int32) × Int32)
  | 0, _, _ => none
  | t + 1, f, C => if f 2 = 1 then (if f 9 = 0 then (if f 3 ≤ f 13 then md_pp W n t (md_ep f) C else some (upd f 6 (nI (md_wo W C (f 13) (f 12) n).1), (md_wo W C (f 13) (f 12) n).2, 1)) else (if f 14 < f 3 then (if f 14 < 0 then none else if md_to f W < 0 then (if f 16 = 1 then md_pp W n t (upd f 16 2) C else md_pp W n t (md_next f) C) else some (upd f 6 (f 3), md_wb W C n (f 14) (f 15) (md_to f W), 1)) else (if f 11 = 0 then md_pp W n t (upd f 2 2) C else if f 3 ≤ 0 then md_pp W n t (upd f 2 2) C else md_pp W n t (md_bl f 1) C))) else some (f, C, 0)
theorem md_hk {k n : Int32} {m : Nat} (h0 : ¬ k < 0) (h1 : k < n) (hn : n = nI m) (hm : m ≤ 48) : vp_in k 48 := by
  rw [vp_in_iff]
  rw [Int32.lt_iff_toInt_lt] at h0 h1
  have e0 : (0 : Int32).toInt = 0 := by decide
  rw [e0] at h0
  rw [hn, nI_toInt (by omega)] at h1
  omega
/-- the reference's state: int fields, word, origin, cand, askedSize, askedWord, answer -/
abbrev DS : Type := (Nat → Int32) × (Nat → Int32) × (Nat → Int32) × (Nat → Int32) × (Nat → Int32) × (Nat → Int32) × (Nat → Int32)
def md_put (S : DS) (a cz : Nat) : DS := (md_ptF S.1, S.2.1, S.2.2.1, S.2.2.2.1, upd S.2.2.2.2.1 a (S.1 6), md_pw S.2.2.2.1 S.2.2.2.2.2.1 a cz, upd S.2.2.2.2.2.2 a (-2))
def md_ans (S : DS) (d : Int32) (pl m cz : Nat) : DS := (md_anF S.1 d, md_anW S.1 S.2.1 S.2.2.2.1 d cz, md_anO S.1 S.2.2.1 d pl m cz, S.2.2.2)
/-- what answered wants -/
def md_ok (f : Nat → Int32) (n cz pl : Nat) : Prop := f 3 = nI n ∧ n ≤ 48 ∧ f 6 = nI cz ∧ cz ≤ 48 ∧ (f 9 = 0 → cz ≤ n ∧ f 13 = nI pl ∧ pl ≤ 48) ∧ (¬ f 9 = 0 → vp_in (f 14) 48)
/-- goOn, with so much fuel -/
def md_go : Nat → DS → DS → Prop
  | 0, _, _ => False
  | t + 1, S, T => ∃ (n cz a : Nat) (f : Nat → Int32) (C : Nat → Int32) (r : Int32), S.1 3 = nI n ∧ n ≤ 48 ∧ (∃ t1, md_pp S.2.1 n t1 S.1 S.2.2.2.1 = some (f, C, r)) ∧
      ((r = 0 ∧ T = (f, S.2.1, S.2.2.1, C, S.2.2.2.2)) ∨ (¬ r = 0 ∧ f 6 = nI cz ∧ cz ≤ 48 ∧ f 18 = nI a ∧ a ≤ 600 ∧
        ((md_fd S.2.2.2.2.1 S.2.2.2.2.2.1 C cz a = none ∧ ((f 18 = f 1 ∧ T = (upd f 2 3, S.2.1, S.2.2.1, C, S.2.2.2.2)) ∨ (¬ f 18 = f 1 ∧ a < 600 ∧ T = md_put (f, S.2.1, S.2.2.1, C, S.2.2.2.2) a cz))) ∨
         (∃ (i pl : Nat), md_fd S.2.2.2.2.1 S.2.2.2.2.2.1 C cz a = some i ∧ md_ok f n cz pl ∧ md_go t (md_ans (upd f 22 (f 22 + 1), S.2.1, S.2.2.1, C, S.2.2.2.2) (S.2.2.2.2.2.2 i) pl (n - cz) cz) T))))
theorem md_fd_lt {Sz Aw C : Nat → Int32} {cz a i : Nat} (h : md_fd Sz Aw C cz a = some i) : i < a := by
  have := List.mem_of_find?_eq_some h
  exact List.mem_range.mp this
theorem md_mv_eq {O : Nat → Int32} {pl m i cz : Nat} (hci : cz ≤ i) (h : i ≤ cz ∨ i = pl) : md_mv O pl m i = md_mv O pl m cz := by
  funext j
  unfold md_mv
  by_cases h1 : pl ≤ j ∧ j < cz
  · rw [if_pos h1, if_pos ⟨h1.1, by omega⟩]
  · rw [if_neg h1, if_neg (by omega)]
