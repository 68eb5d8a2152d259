-- THE REFERENCE: what its methods compute (mirrors). f: its int fields by their places (0 thrown, 1 budget, 2 state, 3 size, 6 candSize, 8 isFirst, 9 isLowering, 10 someGood, 11 wasLowered, 12 piece, 13 place, 14 atWord, 15 atByte, 16 how, 17 difference, 18 asks, 22 remembered, 23 good, 24 leftOut, 25 lowered, 26 begun)
def md_in (v lo hi : Int32) : Int32 := if v < lo then 0 else if hi < v then 0 else 1
def md_sh (b : Int32) : Int32 := 24 - 8 * b
def md_byte (W : Nat → Int32) (k b : Int32) : Int32 := (Int32.toUInt32 (W k.toNatClampNeg) >>> (Int32.toUInt32 (md_sh b) &&& Int32.toUInt32 31)).toInt32 &&& 255
def md_to0 (h v : Int32) : Int32 := if h = 0 then (if v = 0 then (-1) else 0) else if h = 1 then v / 2 else v - 1
def md_to (f W : Nat → Int32) : Int32 := if f 16 = 0 then md_to0 (f 16) (md_byte W (f 14) (f 15)) else if md_to0 (f 16) (md_byte W (f 14) (f 15)) ≤ 0 then (-1) else md_to0 (f 16) (md_byte W (f 14) (f 15))
def md_bl (f : Nat → Int32) (x : Int32) : Nat → Int32 := upd (upd (upd (upd (upd f 9 0) 12 x) 13 0) 10 0) 26 (f 26 + 1)
def md_bw (f : Nat → Int32) : Nat → Int32 := upd (upd (upd (upd (upd f 9 1) 11 0) 14 0) 15 0) 16 0
def md_next (f : Nat → Int32) : Nat → Int32 := if 4 ≤ f 15 + 1 then upd (upd (upd (upd f 16 0) 15 (f 15 + 1)) 15 0) 14 (f 14 + 1) else upd (upd f 16 0) 15 (f 15 + 1)
def md_ep0 (f : Nat → Int32) : Nat → Int32 := upd (upd (upd f 12 (if f 12 ≤ 1 then 1 else f 12 / 2)) 13 0) 10 0
def md_ep (f : Nat → Int32) : Nat → Int32 := if 1 < f 12 then md_ep0 f else if f 10 = 0 then md_bw (md_ep0 f) else md_ep0 f
/-- without: so many were kept, and the candidate's words, after k words -/
def md_wo (W C : Nat → Int32) (p many : Int32) : Nat → Nat × (Nat → Int32)
  | 0 => (0, C)
  | k + 1 => if nI k < p then ((md_wo W C p many k).1 + 1, upd (md_wo W C p many k).2 (md_wo W C p many k).1 (W k)) else if nI k < p + many then md_wo W C p many k else ((md_wo W C p many k).1 + 1, upd (md_wo W C p many k).2 (md_wo W C p many k).1 (W k))
theorem md_wo_le (W C : Nat → Int32) (p many : Int32) : ∀ k, (md_wo W C p many k).1 ≤ k
  | 0 => Nat.le_refl 0
  | k + 1 => by
    have h := md_wo_le W C p many k
    unfold md_wo
    by_cases q : nI k < p
    · rw [if_pos q]; show _ + 1 ≤ _; omega
    · rw [if_neg q]
      by_cases q2 : nI k < p + many
      · rw [if_pos q2]; omega
      · rw [if_neg q2]; show _ + 1 ≤ _; omega
theorem md_wo_a {W C : Nat → Int32} {p many : Int32} {k : Nat} (h : nI k < p) : md_wo W C p many (k + 1) = ((md_wo W C p many k).1 + 1, upd (md_wo W C p many k).2 (md_wo W C p many k).1 (W k)) := by rw [md_wo, if_pos h]
theorem md_wo_b {W C : Nat → Int32} {p many : Int32} {k : Nat} (h : ¬ nI k < p) (h2 : nI k < p + many) : md_wo W C p many (k + 1) = md_wo W C p many k := by rw [md_wo, if_neg h, if_pos h2]
theorem md_wo_c {W C : Nat → Int32} {p many : Int32} {k : Nat} (h : ¬ nI k < p) (h2 : ¬ nI k < p + many) : md_wo W C p many (k + 1) = ((md_wo W C p many k).1 + 1, upd (md_wo W C p many k).2 (md_wo W C p many k).1 (W k)) := by rw [md_wo, if_neg h, if_neg h2]
def md_wbV (x b v : Int32) : Int32 := (x &&& ((255 <<< (md_sh b &&& 31)) ^^^ (-1))) ||| (v <<< (md_sh b &&& 31))
def md_wb (W C : Nat → Int32) (n : Nat) (k b v : Int32) : Nat → Int32 := upd (pg_cp W C n) k.toNatClampNeg (md_wbV (W k.toNatClampNeg) b v)
def md_is (Sz Aw C : Nat → Int32) (c a : Nat) : Prop := Sz a = nI c ∧ ∀ j, j < c → Aw (48 * a + j) = C j
def md_isB (Sz Aw C : Nat → Int32) (c a : Nat) : Bool := decide (Sz a = nI c ∧ ∀ j, j < c → Aw (48 * a + j) = C j)
def md_isI (Sz Aw C : Nat → Int32) (c a : Nat) : Int32 := if Sz a = nI c ∧ ∀ j, j < c → Aw (48 * a + j) = C j then 1 else 0
def md_fd (Sz Aw C : Nat → Int32) (c a : Nat) : Option Nat := (List.range a).find? (md_isB Sz Aw C c)
def md_find (Sz Aw C : Nat → Int32) (c a : Nat) : Int32 := match md_fd Sz Aw C c a with
  | some i => nI i
  | none => (-1)
theorem md_find_s {Sz Aw C : Nat → Int32} {c a i : Nat} (hi : i < a) (h : ¬ md_isI Sz Aw C c i = 0) (hno : ∀ j, j < i → md_isI Sz Aw C c j = 0) : md_fd Sz Aw C c a = some i := by
  refine fd_some _ i (by rw [List.getElem?_range hi]) ?_ (fun j hj x hx => ?_)
  · unfold md_isI at h
    unfold md_isB
    by_cases q : Sz i = nI c ∧ ∀ j, j < c → Aw (48 * i + j) = C j
    · exact decide_eq_true q
    · rw [if_neg q] at h; exact absurd rfl h
  · rw [List.getElem?_range (by omega)] at hx
    cases hx
    have h1 := hno j hj
    unfold md_isI at h1
    unfold md_isB
    by_cases q : Sz j = nI c ∧ ∀ i, i < c → Aw (48 * j + i) = C i
    · rw [if_pos q] at h1; exact absurd h1 (by decide)
    · exact decide_eq_false q
theorem md_find_n {Sz Aw C : Nat → Int32} {c a : Nat} (hno : ∀ j, j < a → md_isI Sz Aw C c j = 0) : md_fd Sz Aw C c a = none := by
  refine fd_none _ (fun j x hx => ?_)
  have hj : j < a := by
    have := (List.getElem?_eq_some_iff.mp hx).1
    rwa [List.length_range] at this
  rw [List.getElem?_range hj] at hx
  cases hx
  have h1 := hno j hj
  unfold md_isI at h1
  unfold md_isB
  by_cases q : Sz j = nI c ∧ ∀ i, i < c → Aw (48 * j + i) = C i
  · rw [if_pos q] at h1; exact absurd h1 (by decide)
  · exact decide_eq_false q
/-- origins moved down: places from pl to below i take what stands m above -/
def md_mv (O : Nat → Int32) (pl m i : Nat) : Nat → Int32 := fun j => if pl ≤ j ∧ j < i then O (j + m) else O j
theorem md_mv0 (O : Nat → Int32) (pl m : Nat) : md_mv O pl m pl = O := by
  funext j; unfold md_mv; rw [if_neg (by omega)]
theorem md_mvs {O : Nat → Int32} {pl m i : Nat} (h : pl ≤ i) : upd (md_mv O pl m i) i (md_mv O pl m i (i + m)) = md_mv O pl m (i + 1) := by
  have e : md_mv O pl m i (i + m) = O (i + m) := by unfold md_mv; rw [if_neg (by omega)]
  rw [e]
  funext j
  unfold upd md_mv
  by_cases q : j = i
  · subst q; rw [if_pos rfl, if_pos ⟨h, Nat.lt_succ_self _⟩]
  · rw [if_neg q]
    by_cases q2 : pl ≤ j ∧ j < i
    · rw [if_pos q2, if_pos ⟨q2.1, by omega⟩]
    · rw [if_neg q2, if_neg (by omega)]
/-- the words of ask a, so far i of them -/
def md_pw (C Aw : Nat → Int32) (a i : Nat) : Nat → Int32 := fun j => if 48 * a ≤ j ∧ j < 48 * a + i then C (j - 48 * a) else Aw j
theorem md_pw0 (C Aw : Nat → Int32) (a : Nat) : md_pw C Aw a 0 = Aw := by funext j; unfold md_pw; rw [if_neg (by omega)]
theorem md_pws (C Aw : Nat → Int32) (a i : Nat) : upd (md_pw C Aw a i) (48 * a + i) (C i) = md_pw C Aw a (i + 1) := by
  funext j
  unfold upd md_pw
  by_cases q : j = 48 * a + i
  · subst q; rw [if_pos rfl, if_pos (by omega), Nat.add_sub_cancel_left]
  · rw [if_neg q]
    by_cases q2 : 48 * a ≤ j ∧ j < 48 * a + i
    · rw [if_pos q2, if_pos (by omega)]
    · rw [if_neg q2, if_neg (by omega)]
theorem nI_48 (a i : Nat) : (48 : Int32) * nI a + nI i = nI (48 * a + i) := by
  have : (48 : Int32) = nI 48 := rfl
  rw [this, pk_mul, nI_add]
