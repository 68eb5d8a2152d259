-- OWN BASE ROWS: a method's start and end in the words used throughout
theorem wA_gd : GoodIn wA wA := fun w h => ⟨h, good_of_word (List.all_eq_true.mp wA_good w h)⟩
theorem sp_hA {w0 : Cond} {args : Array Value} {s : State} (h : ∀ w ∈ w0 :: wA, w.before args s = true) : ∀ w ∈ wA, w.before args s = true := fun w hw => h w (List.mem_cons_of_mem _ hw)
theorem gd_I {c0 : Cond} (h5 : c0 ∈ wA) : GoodIn wA (c0 :: wA) := fun w h => (List.mem_cons.mp h).elim (fun e => by rw [e]; exact wA_gd c0 h5) (fun h => wA_gd w h)
theorem gd_V {own : String} {idx : Nat} {C : String} {y : MethodName} {c0 : Cond} (h1 : Cond.methodLink own idx y ∈ wA) (h2 : Cond.instanceMethod y ∈ wA) (h3 : Cond.selects C y y ∈ wA) (h4 : Cond.initialized C ∈ wA) (h5 : c0 ∈ wA) : GoodIn wA (wsV own idx C y (c0 :: wA)) := by
  intro w h
  rcases List.mem_append.mp h with h | h
  · simp only [List.mem_cons, List.not_mem_nil, or_false] at h
    rcases h with rfl | rfl | rfl | rfl
    · exact wA_gd _ h1
    · exact wA_gd _ h2
    · exact wA_gd _ h3
    · exact wA_gd _ h4
  · exact gd_I h5 w h
theorem gd_S {own : String} {idx : Nat} {y : MethodName} {c0 : Cond} (h1 : Cond.methodLink own idx y ∈ wA) (h2 : Cond.static y ∈ wA) (h4 : Cond.initialized own ∈ wA) (h5 : c0 ∈ wA) : GoodIn wA (wsS own idx y (c0 :: wA)) := by
  intro w h
  rcases List.mem_append.mp h with h | h
  · simp only [List.mem_cons, List.not_mem_nil, or_false] at h
    rcases h with rfl | rfl | rfl
    · exact wA_gd _ h1
    · exact wA_gd _ h2
    · exact wA_gd _ h4
  · exact gd_I h5 w h
/-- the words that a shift of the tables doesn't keep by itself: constructors of nest mates, the array of asks -/
def sp_G (U : State) : Prop := va_Nw (.methodLinkNest "ShortenPrograms" 23 yP_init "ShortenPrograms") U ∧ va_Nw (.methodLinkNest "ShortenPrograms" 33 yM_init "ShortenPrograms") U ∧ va_Nw (.methodLinkNest "ShortenPrograms" 40 yW_init "ShortenPrograms") U ∧ va_Nw (.methodLinkNest "ShortenPrograms$Memory" 21 yA_init "ShortenPrograms") U ∧ va_Nw (.methodLinkNest "ShortenPrograms$Ask" 11 yP_init "ShortenPrograms") U ∧ va_AO "ShortenPrograms$Ask" U
theorem sp_G.warm {s U : State} (hW : s.WarmedH U.vm) (h : sp_G s) : sp_G U := by
  obtain ⟨h1, h2, h3, h4, h5, h6⟩ := h
  exact ⟨h1.warmM hW, h2.warmM hW, h3.warmM hW, h4.warmM hW, h5.warmM hW, h6.moved hW.alike⟩
theorem sp_G.call {U : State} {g : JFrame} {mk : MethodId} {a : Array Value} (h : sp_G U) : sp_G (U.calling g mk a) := by
  obtain ⟨h1, h2, h3, h4, h5, h6⟩ := h
  exact ⟨h1.same rfl rfl, h2.same rfl rfl, h3.same rfl rfl, h4.same rfl rfl, h5.same rfl rfl, h6.moved (u := U) (U := U.calling g mk a) (Vm.Alike.refl U.vm)⟩
abbrev kT (cI cQ : ClassId) : List (ClassId × FieldType) := [(cI, .int), (cQ, .object "ShortenPrograms$Ask")]
/-- a writer's start: its cells, of a heap of size sz, apart -/
def sp_P (D : va_G) (tys : List (ClassId × FieldType)) (av : List Value) (ws : va_W) (sz : Nat) : Array Value → State → Prop := va_Pc av (fun U => U.heap.size = sz ∧ va_P D vwCl ws U.heap ∧ va_K D vwCl tys U ∧ va_D (fun _ => True) ws ∧ sp_G U)
/-- a reader's start -/
def sp_R (D : va_G) (tys : List (ClassId × FieldType)) (av : List Value) (ws : va_W) : Array Value → State → Prop := va_Pc av (fun U => va_P D vwCl ws U.heap ∧ va_K D vwCl tys U ∧ sp_G U)
theorem sp_Pb {D : va_G} {tys : List (ClassId × FieldType)} {av : List Value} {ws : va_W} {sz : Nat} : FrameBlind (sp_P D tys av ws sz) := fun a U g mk q => by
  obtain ⟨q0, q1, qP, qK, qD, qG⟩ := q
  exact ⟨q0, q1, qP, va_K.moved (u := U) (U := U.calling g mk a) (Vm.Alike.refl U.vm) qK, qD, qG.call⟩
theorem sp_Rb {D : va_G} {tys : List (ClassId × FieldType)} {av : List Value} {ws : va_W} : FrameBlind (sp_R D tys av ws) := fun a U g mk q => by
  obtain ⟨q0, qP, qK, qG⟩ := q
  exact ⟨q0, qP, va_K.moved (u := U) (U := U.calling g mk a) (Vm.Alike.refl U.vm) qK, qG.call⟩
theorem sp_Po {D : va_G} {tys : List (ClassId × FieldType)} {av : List Value} {ws : va_W} {A : Nat → Prop} {H : Heap} {s : State} (hP : va_P D vwCl ws H) (hK : va_K D vwCl tys s) (hG : sp_G s) (hD : va_D A ws) : ∀ U : State, U.heap = H → s.WarmedH U.vm → sp_P D tys av ws H.size av.toArray U := fun U hU hW => ⟨rfl, by rw [hU], by rw [hU]; exact hP, va_K.moved hW.alike hK, hD.weaken (fun _ _ _ _ => trivial), hG.warm hW⟩
theorem sp_Ro {D : va_G} {tys : List (ClassId × FieldType)} {av : List Value} {ws : va_W} {H : Heap} {s : State} (hP : va_P D vwCl ws H) (hK : va_K D vwCl tys s) (hG : sp_G s) : ∀ U : State, U.heap = H → s.WarmedH U.vm → sp_R D tys av ws av.toArray U := fun U hU hW => ⟨rfl, by rw [hU]; exact hP, va_K.moved hW.alike hK, hG.warm hW⟩
/-- behind a reader every world stands -/
theorem sp_kp {D : va_G} {ws : va_W} {H H1 : Heap} (hP : va_P D vwCl ws H) (hk : ∀ q : Nat, q < H.size → ¬ (fun _ : Nat => False) q → H1[q]? = H[q]?) : va_P D vwCl ws H1 := hP.kept (fun k q h => hk q.1 ((hP k q h).lt) id)
/-- a reader's answers -/
abbrev sp_QRi (v : Int32) : Array Value → State → Outcome → State → Prop := va_Qi (fun r (_ : Unit) => r = v) (fun _ _ => True) (fun _ => False)
abbrev sp_QRq (v : Option Nat) : Array Value → State → Outcome → State → Prop := va_Qq (fun r (_ : Unit) => r = v) (fun _ _ => True) (fun _ => False)
/-- a writer's answers -/
abbrev sp_QWv (D : va_G) (ws' : va_W) (A : Nat → Prop) : Array Value → State → Outcome → State → Prop := va_Qv (fun (_ : Unit) => True) (fun _ t => va_P D vwCl ws' t.heap ∧ va_D A ws') A
abbrev sp_QWi (v : Int32) (D : va_G) (ws' : va_W) (A : Nat → Prop) : Array Value → State → Outcome → State → Prop := va_Qi (fun r (_ : Unit) => r = v) (fun _ t => va_P D vwCl ws' t.heap ∧ va_D A ws') A
theorem sp_eRi {v w : Int32} {args : Array Value} {s : State} {H : Heap} {locs : List Loc} (hv : w = v) (hS : va_S (fun _ => False) s.heap H locs) : ∀ t : State, t.heap = H → s.WarmedH t.vm → sp_QRi v args s (.returned (some (.int w))) t := fun t ht _ => ⟨⟨w, (), rfl, hv, trivial⟩, hS.F ht⟩
theorem sp_eRq {v w : Option Nat} {u : Value} {args : Array Value} {s : State} {H : Heap} {locs : List Loc} (hu : u = va_rf w) (hv : w = v) (hS : va_S (fun _ => False) s.heap H locs) : ∀ t : State, t.heap = H → s.WarmedH t.vm → sp_QRq v args s (.returned (some u)) t := fun t ht _ => ⟨⟨w, (), by rw [hu], hv, trivial⟩, hS.F ht⟩
theorem sp_eWv {D : va_G} {ws' : va_W} {A : Nat → Prop} {args : Array Value} {s : State} {H : Heap} {locs : List Loc} (hP : va_P D vwCl ws' H) (hD : va_D A ws') (hS : va_S A s.heap H locs) : ∀ t : State, t.heap = H → s.WarmedH t.vm → sp_QWv D ws' A args s (.returned none) t := fun t ht _ => ⟨⟨(), rfl, trivial, by rw [ht]; exact hP, hD⟩, hS.F ht⟩
theorem sp_eWi {v w : Int32} {D : va_G} {ws' : va_W} {A : Nat → Prop} {args : Array Value} {s : State} {H : Heap} {locs : List Loc} (hv : w = v) (hP : va_P D vwCl ws' H) (hD : va_D A ws') (hS : va_S A s.heap H locs) : ∀ t : State, t.heap = H → s.WarmedH t.vm → sp_QWi v D ws' A args s (.returned (some (.int w))) t := fun t ht _ => ⟨⟨w, (), rfl, hv, by rw [ht]; exact hP, hD⟩, hS.F ht⟩
/-- apartness speaks of addresses alone -/
theorem sp_Dc {A : Nat → Prop} {ws ws' : va_W} (hD : va_D A ws) (h : ws'.map Prod.fst = ws.map Prod.fst) : va_D A ws' := by
  have key : ∀ (k : Nat) (q : Nat × va_E), ws'[k]? = some q → ∃ q0, ws[k]? = some q0 ∧ q0.1 = q.1 := by
    intro k q hk
    have h1 : (ws'.map Prod.fst)[k]? = some q.1 := by rw [List.getElem?_map, hk]; rfl
    rw [h, List.getElem?_map] at h1
    cases hq : ws[k]? with
    | none => rw [hq] at h1; cases h1
    | some q0 => rw [hq] at h1; exact ⟨q0, rfl, Option.some.inj h1⟩
  refine ⟨fun i j x y hi hj hxy => ?_, fun k q hk => ?_⟩
  · obtain ⟨x0, h1, h2⟩ := key i x hi
    obtain ⟨y0, h3, h4⟩ := key j y hj
    exact hD.1 i j x0 y0 h1 h3 (h2.trans (hxy.trans h4.symm))
  · obtain ⟨q0, h1, h2⟩ := key k q hk
    rw [← h2]
    exact hD.2 k q0 h1
