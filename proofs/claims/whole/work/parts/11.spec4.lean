-- Ask and Memory: what their methods compute
def ak_is (mk : Int32) (n : Int32) (ws : Nat → Int32) (gm gn : Int32) (gs : Nat → Int32) : Int32 := if mk = gm then (if pg_same ws n gs gn = 0 then 0 else 1) else 0
/-- an ask: its addresses (ask, program, words, origins), then mark, answer, length, words, origins -/
abbrev AR : Type := (Nat × Nat × Nat × Nat) × Int32 × Int32 × Int32 × (Nat → Int32) × (Nat → Int32)
def ar_cells (cI : ClassId) (r : AR) : va_W := [(r.1.1, .inr (1, [.ref r.1.2.1, .int r.2.1, .int r.2.2.1])), (r.1.2.1, .inr (0, [.ref r.1.2.2.1, .ref r.1.2.2.2, .int r.2.2.2.1])), (r.1.2.2.1, .inl (cI, 48, .inl r.2.2.2.2.1)), (r.1.2.2.2, .inl (cI, 48, .inl r.2.2.2.2.2))]
def ar_W (cI : ClassId) : List AR → va_W
  | [] => []
  | r :: l => ar_cells cI r ++ ar_W cI l
def ar_f (as : List AR) : Nat → Option Nat := fun i => (as[i]?).map (fun r => r.1.1)
def mm_lim (fl : Int32) : Nat := min fl.toNatClampNeg 600
def mm_hit (gm gn : Int32) (gs : Nat → Int32) (r : AR) : Bool := decide (¬ ak_is r.2.1 r.2.2.2.1 r.2.2.2.2.1 gm gn gs = 0)
def mm_find (as : List AR) (fl gn : Int32) (gs : Nat → Int32) : Option AR := (as.take (mm_lim fl)).find? (mm_hit (pg_mark gs gn) gn gs)
def mm_last (as : List AR) (fl : Int32) : Option Nat := if fl ≤ 0 then none else if 600 < fl then none else ar_f as (fl - 1).toNatClampNeg
theorem fd_some {α : Type} {p : α → Bool} {r : α} : ∀ (l : List α) (i : Nat), l[i]? = some r → p r = true → (∀ j, j < i → ∀ x, l[j]? = some x → p x = false) → l.find? p = some r
  | [], i, h, _, _ => by simp at h
  | x :: l, 0, h, hr, _ => by
    simp at h; subst h
    rw [List.find?_cons, hr]
  | x :: l, i + 1, h, hr, hno => by
    have h0 : p x = false := hno 0 (by omega) x rfl
    rw [List.find?_cons, h0]
    exact fd_some l i (by simpa using h) hr (fun j hj y hy => hno (j + 1) (by omega) y (by simpa using hy))
theorem fd_none {α : Type} {p : α → Bool} (l : List α) (h : ∀ (j : Nat) (x : α), l[j]? = some x → p x = false) : l.find? p = none := by
  rw [List.find?_eq_none]
  intro x hx
  obtain ⟨j, hj⟩ := List.getElem?_of_mem hx
  rw [h j x hj]; decide
theorem mm_some {as : List AR} {fl gn : Int32} {gs : Nat → Int32} {r : AR} {i : Nat} (hi : i < mm_lim fl) (h : as[i]? = some r) (hr : ¬ ak_is r.2.1 r.2.2.2.1 r.2.2.2.2.1 (pg_mark gs gn) gn gs = 0) (hno : ∀ j, j < i → ∀ x, as[j]? = some x → ak_is x.2.1 x.2.2.2.1 x.2.2.2.2.1 (pg_mark gs gn) gn gs = 0) : mm_find as fl gn gs = some r := by
  refine fd_some _ i (by rw [List.getElem?_take, if_pos hi]; exact h) (by simp [mm_hit, hr]) (fun j hj x hx => ?_)
  rw [List.getElem?_take, if_pos (by omega)] at hx
  simp [mm_hit, hno j hj x hx]
theorem mm_none {as : List AR} {fl gn : Int32} {gs : Nat → Int32} (hno : ∀ j, j < mm_lim fl → ∀ x, as[j]? = some x → ak_is x.2.1 x.2.2.2.1 x.2.2.2.2.1 (pg_mark gs gn) gn gs = 0) : mm_find as fl gn gs = none := by
  refine fd_none _ (fun j x hx => ?_)
  rw [List.getElem?_take] at hx
  by_cases h : j < mm_lim fl
  · rw [if_pos h] at hx
    simp [mm_hit, hno j h x hx]
  · rw [if_neg h] at hx; cases hx
/-- the cells of an ask stand among the pool's -/
theorem ar_split {cI : ClassId} : ∀ {as : List AR} {i : Nat} {r : AR}, as[i]? = some r → ∃ l1 l2, as = l1 ++ r :: l2 ∧ l1.length = i ∧ ar_W cI as = ar_W cI l1 ++ (ar_cells cI r ++ ar_W cI l2)
  | [], i, r, h => by simp at h
  | x :: l, 0, r, h => by
    simp at h; subst h
    exact ⟨[], l, rfl, rfl, rfl⟩
  | x :: l, i + 1, r, h => by
    obtain ⟨l1, l2, e, e2, e3⟩ := ar_split (cI := cI) (as := l) (i := i) (by simpa using h)
    exact ⟨x :: l1, l2, by rw [e]; rfl, by rw [List.length_cons, e2], by rw [ar_W, e3, ar_W, List.append_assoc]⟩
theorem ar_app (cI : ClassId) : ∀ (l1 l2 : List AR), ar_W cI (l1 ++ l2) = ar_W cI l1 ++ ar_W cI l2
  | [], _ => rfl
  | r :: l, l2 => by rw [List.cons_append, ar_W, ar_app cI l l2, ar_W, List.append_assoc]
theorem va_P_mid {D : va_G} {cl : List vw_C} {X Y Z : va_W} {H : Heap} (h : va_P D cl (X ++ (Y ++ Z)) H) : va_P D cl Y H := by
  intro k q hk
  have hl : k < Y.length := (List.getElem?_eq_some_iff.mp hk).1
  refine h (X.length + k) q ?_
  rw [List.getElem?_append_right (by omega), Nat.add_sub_cancel_left, List.getElem?_append_left hl]
  exact hk
theorem ar_at {D : va_G} {cl : List vw_C} {cI : ClassId} {X : va_W} {as : List AR} {i : Nat} {r : AR} {H : Heap} (h : va_P D cl (X ++ ar_W cI as) H) (hi : as[i]? = some r) : va_P D cl (ar_cells cI r) H := by
  obtain ⟨l1, l2, -, -, e⟩ := ar_split (cI := cI) hi
  rw [e, ← List.append_assoc] at h
  exact va_P_mid h
theorem va_P_l {D : va_G} {cl : List vw_C} {X Y : va_W} {H : Heap} (h : va_P D cl (X ++ Y) H) : va_P D cl X H := fun k q hk => h k q (by rw [List.getElem?_append_left (List.getElem?_eq_some_iff.mp hk).1]; exact hk)
