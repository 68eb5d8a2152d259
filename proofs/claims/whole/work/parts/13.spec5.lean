-- Memory: pure rows
theorem sp_cQ {D : va_G} {cl : List vw_C} {cI cQ cA : ClassId} {s : State} (h : va_K D cl (kT cI cQ ++ [(cA, .object "ShortenPrograms$Ask")]) s) : cQ = cA := by
  obtain ⟨_, _, -, -, -, h1⟩ := (h.2 1 _ rfl).2
  obtain ⟨_, _, -, -, -, h2⟩ := (h.2 2 _ rfl).2
  exact Option.some.inj (h1.symm.trans h2)
theorem mm_lim_lt {n : Int32} {i : Nat} (hi : i < 2 ^ 31) (h1 : ¬ n ≤ nI i) (h2 : ¬ 600 ≤ nI i) : i < mm_lim n := by
  have := cl_lt hi h1
  have := cl_lt (x := 600) hi h2
  have e : (600 : Int32).toNatClampNeg = 600 := by decide
  unfold mm_lim; omega
theorem mm_lim_le1 {n : Int32} {i : Nat} (hi : i < 2 ^ 31) (h : n ≤ nI i) : mm_lim n ≤ i := by
  have := cl_le hi h
  unfold mm_lim; omega
theorem mm_lim_le2 {n : Int32} {i : Nat} (hi : i < 2 ^ 31) (h : 600 ≤ nI i) : mm_lim n ≤ i := by
  have := cl_le (x := 600) hi h
  have e : (600 : Int32).toNatClampNeg = 600 := by decide
  unfold mm_lim; omega
theorem mm_lim_600 (n : Int32) : mm_lim n ≤ 600 := Nat.min_le_right _ _
theorem mm_last_in {fl : Int32} (h1 : ¬ fl ≤ 0) (h2 : ¬ 600 < fl) : vp_in (fl - 1) 600 := by
  rw [Int32.le_iff_toInt_le] at h1
  rw [Int32.lt_iff_toInt_lt] at h2
  have e0 : (0 : Int32).toInt = 0 := by decide
  have e1 : (600 : Int32).toInt = 600 := by decide
  rw [e0] at h1; rw [e1] at h2
  have hn : ¬ fl < 0 := by rw [Int32.lt_iff_toInt_lt, e0]; omega
  obtain ⟨j, hj, rfl⟩ := nI_of hn
  rw [nI_toInt hj] at h1 h2
  obtain ⟨k, rfl⟩ : ∃ k, j = k + 1 := ⟨j - 1, by omega⟩
  rw [nI_pred]
  exact vp_in_nI (by omega) (by decide)
theorem va_P_mem {D : va_G} {cl : List vw_C} {ws : va_W} {H : Heap} : va_P D cl ws H ↔ ∀ q ∈ ws, va_at D cl q H := by
  constructor
  · intro h q hq
    obtain ⟨k, hk⟩ := List.getElem?_of_mem hq
    exact h k q hk
  · intro h k q hk
    exact h q (List.mem_of_getElem? hk)
theorem va_P_perm {D : va_G} {cl : List vw_C} {ws ws' : va_W} {H : Heap} (h : va_P D cl ws H) (hp : ws'.Perm ws) : va_P D cl ws' H := by
  rw [va_P_mem] at h ⊢
  exact fun q hq => h q (hp.mem_iff.mp hq)
theorem va_D_mem {A : Nat → Prop} {ws : va_W} : va_D A ws ↔ (ws.map Prod.fst).Nodup ∧ ∀ q ∈ ws, A q.1 := by
  constructor
  · intro h
    refine ⟨?_, fun q hq => ?_⟩
    · refine List.pairwise_iff_getElem.mpr (fun i j hi hj hij he => ?_)
      rw [List.length_map] at hi hj
      rw [List.getElem_map, List.getElem_map] at he
      have := h.1 i j _ _ (List.getElem?_eq_getElem hi) (List.getElem?_eq_getElem hj) he
      omega
    · obtain ⟨k, hk⟩ := List.getElem?_of_mem hq
      exact h.2 k q hk
  · rintro ⟨h1, h2⟩
    refine ⟨fun i j p q hi hj hpq => ?_, fun k q hk => h2 q (List.mem_of_getElem? hk)⟩
    have h1 := List.pairwise_iff_getElem.mp h1
    obtain ⟨li, ei⟩ := List.getElem?_eq_some_iff.mp hi
    obtain ⟨lj, ej⟩ := List.getElem?_eq_some_iff.mp hj
    rcases Nat.lt_trichotomy i j with h | h | h
    · exact absurd (by rw [List.getElem_map, List.getElem_map, ei, ej]; exact hpq) (h1 i j (by rw [List.length_map]; exact li) (by rw [List.length_map]; exact lj) h)
    · exact h
    · exact absurd (by rw [List.getElem_map, List.getElem_map, ei, ej]; exact hpq.symm) (h1 j i (by rw [List.length_map]; exact lj) (by rw [List.length_map]; exact li) h)
theorem va_D_perm {A : Nat → Prop} {ws ws' : va_W} (h : va_D A ws) (hp : ws'.Perm ws) : va_D A ws' := by
  rw [va_D_mem] at h ⊢
  exact ⟨(hp.map Prod.fst).nodup_iff.mpr h.1, fun q hq => h.2 q (hp.mem_iff.mp hq)⟩
/-- a middle piece comes to the front part's end -/
theorem pm_out (X T1 C T2 : va_W) : ((X ++ C) ++ (T1 ++ T2)).Perm (X ++ (T1 ++ (C ++ T2))) := by
  rw [List.append_assoc]
  refine List.Perm.append_left X ?_
  rw [← List.append_assoc, ← List.append_assoc]
  exact List.Perm.append_right T2 List.perm_append_comm
theorem ar_W1 (cI : ClassId) (l1 l2 : List AR) (r : AR) : ar_W cI (l1 ++ r :: l2) = ar_W cI l1 ++ (ar_cells cI r ++ ar_W cI l2) := by rw [ar_app]; rfl
/-- what keep leaves: place k holds the program, the others are as they were -/
def mm_kept (as u : List AR) (k : Nat) (gn : Int32) (gs go : Nat → Int32) : Prop :=
  as.length ≤ u.length ∧ u.length ≤ 600 ∧ (∀ i, i ≠ k → u[i]? = as[i]?) ∧ ∃ (ad : Nat × Nat × Nat × Nat) (f g : Nat → Int32), u[k]? = some (ad, pg_mark (pg_cp gs f (pg_cpN gn).toNatClampNeg) (pg_cpN gn), (-2), pg_cpN gn, pg_cp gs f (pg_cpN gn).toNatClampNeg, pg_cp go g (pg_cpN gn).toNatClampNeg)
def mm_keepR (as u : List AR) (k : Nat) (gn : Int32) (gs go : Nat → Int32) : Prop := (k < 600 → mm_kept as u k gn gs go) ∧ (¬ k < 600 → u = as)
def mm_fl (k : Nat) : Nat := if k < 600 then k + 1 else k
theorem ar_f_up (as : List AR) (r : AR) : va_up (ar_f as) as.length (some r.1.1) = ar_f (as ++ [r]) := by
  funext j
  unfold va_up ar_f
  by_cases h : j = as.length
  · subst h; simp
  · rw [if_neg h]
    by_cases h2 : j < as.length
    · rw [List.getElem?_append_left h2]
    · rw [List.getElem?_eq_none (by omega), List.getElem?_eq_none (by rw [List.length_append, List.length_singleton]; omega)]
theorem ar_f_set {l1 l2 : List AR} {r r' : AR} (h : r'.1.1 = r.1.1) : ar_f (l1 ++ r' :: l2) = ar_f (l1 ++ r :: l2) := by
  funext j
  unfold ar_f
  by_cases h1 : j < l1.length
  · rw [List.getElem?_append_left h1, List.getElem?_append_left h1]
  · rw [List.getElem?_append_right (by omega), List.getElem?_append_right (by omega)]
    by_cases h2 : j - l1.length = 0
    · rw [h2]; simp [h]
    · obtain ⟨m, hm⟩ : ∃ m, j - l1.length = m + 1 := ⟨j - l1.length - 1, by omega⟩
      rw [hm]; simp
theorem ar_mid_ne {l1 l2 : List AR} {r r' : AR} {i : Nat} (h : i ≠ l1.length) : (l1 ++ r' :: l2)[i]? = (l1 ++ r :: l2)[i]? := by
  by_cases h1 : i < l1.length
  · rw [List.getElem?_append_left h1, List.getElem?_append_left h1]
  · rw [List.getElem?_append_right (by omega), List.getElem?_append_right (by omega)]
    obtain ⟨m, hm⟩ : ∃ m, i - l1.length = m + 1 := ⟨i - l1.length - 1, by omega⟩
    rw [hm]; simp
theorem mm_kept_app {as : List AR} {k : Nat} {gn : Int32} {gs go f g : Nat → Int32} {ad : Nat × Nat × Nat × Nat} {r' : AR} (ek : k = as.length) (hk6 : k < 600) (er : r' = (ad, pg_mark (pg_cp gs f (pg_cpN gn).toNatClampNeg) (pg_cpN gn), (-2), pg_cpN gn, pg_cp gs f (pg_cpN gn).toNatClampNeg, pg_cp go g (pg_cpN gn).toNatClampNeg)) : mm_keepR as (as ++ [r']) k gn gs go := by
  refine ⟨fun _ => ⟨by rw [List.length_append]; omega, by rw [List.length_append, List.length_singleton]; omega, fun i hi => ?_, ad, f, g, ?_⟩, fun h => absurd hk6 h⟩
  · by_cases h : i < as.length
    · rw [List.getElem?_append_left h]
    · rw [List.getElem?_eq_none (l := as) (by omega), List.getElem?_eq_none (l := as ++ [r']) (by rw [List.length_append, List.length_singleton]; omega)]
  · rw [ek, er, List.getElem?_append_right (Nat.le_refl _), Nat.sub_self]; rfl
theorem mm_kept_set {as l1 l2 : List AR} {k : Nat} {gn : Int32} {gs go f g : Nat → Int32} {ad : Nat × Nat × Nat × Nat} {r r' : AR} (eas : as = l1 ++ r :: l2) (elen : l1.length = k) (hlen : as.length ≤ 600) (hk6 : k < 600) (er : r' = (ad, pg_mark (pg_cp gs f (pg_cpN gn).toNatClampNeg) (pg_cpN gn), (-2), pg_cpN gn, pg_cp gs f (pg_cpN gn).toNatClampNeg, pg_cp go g (pg_cpN gn).toNatClampNeg)) : mm_keepR as (l1 ++ r' :: l2) k gn gs go := by
  have e : (l1 ++ r' :: l2).length = as.length := by rw [eas]; simp
  refine ⟨fun _ => ⟨by omega, by omega, fun i hi => ?_, ad, f, g, ?_⟩, fun h => absurd hk6 h⟩
  · rw [eas]; exact ar_mid_ne (by omega)
  · rw [← elen, er, List.getElem?_append_right (Nat.le_refl _), Nat.sub_self]; rfl
