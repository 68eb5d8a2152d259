-- THE LAW: its words (the first rows are kit/laws/SKELETON.whole's), what the walk wants of the relation, cell
def R_law : String := "ShortenProgramsLaw"
def lw_P (b : Addr) (xs : List Int32) (args : Array Value) (s : State) : Prop := args = #[.ref b] ∧ s.IntsAt b xs ∧ xs.length ≤ 2561 ∧ (Jvm.Cond.and given_1 narrow_1).before args s = true
def lw_Q (_ : Array Value) (s : State) (o : Outcome) (t : State) : Prop := o = .returned (some (.int 1)) ∧ Framed s o t [] 601024 7292999
def lw_Z (below : List Frame) (a : Array Value) (s : State) : State → Prop := fun t => ∃ o, t.status = .running ∧ Ended t below o ∧ lw_Q a s o t
/-- the law's own end, with 1 on the stack, nothing written that was there before, its room as the claim has it -/
theorem lw_ret {p : Program} {l : Launch} {e : Env} {s : State} {m : MethodId} {below : List Frame} {meth : Method} {c : Code} {b : Nat} (hx : p.tables.exec = Jvm.exec) (hb : c.code = code) (hr : meth.sig.returnType = ret) (hlocks : meth.locks = false) {pc : Nat} {H : Heap} {ls : Array Slot} (hdg : decode code pc = .ok (.ireturn, 1)) : W p l e room_1 s m #[Value.ref b] below meth c H [] 601024 7292999 (lw_Z below #[Value.ref b] s) (F0 m pc ls [.int 1]) := by
  intro T hT X
  obtain ⟨fs, hret, hrun, hended, hW, hframe⟩ := X.leave (v := some (.int 1)) (hlocks := hlocks) (fun h => by rw [hr] at h; cases h)
  have hmeth' : T.vm.method? m = some meth := X.method'
  refine ⟨T.setFrames fs, ?_, .returned (some (.int 1)), hrun, hended, rfl, ⟨_, rfl⟩, hW, hframe⟩
  jvm_step X.here [X.here.top, hx, hb, hdg, hmeth', hr, ret, narrow_b1]
  (try refine ⟨rfl, ?_⟩); (try refine ⟨rfl, ?_⟩)
  first | (intro acts; rw [hret _ acts rfl rfl rfl]) | rw [hret _ _ rfl rfl rfl]
  exact Steps.refl _
/-- what holds at the law's entry: the machine, the code, the tables' words (any of lw_tbl by 'hts w (by decide +kernel)'), the script of L ints xs at the cell b, what the Statement gives of the start (any of its parts by flat_of_before) -/
def lw_At (p : Program) (s : State) (m : MethodId) (meth : Method) (c : Code) (b L : Nat) (xs : Nat → Int32) : Prop :=
  p.tables.exec = Jvm.exec ∧ c.code = code ∧ meth.sig.returnType = ret ∧ c.maxLocals = 7 ∧ s.vm.findClass R_law = some m.cls ∧ (∀ w ∈ lw_tbl, w.before #[Value.ref b] s = true) ∧ va_X b L xs s s.heap ∧ b < s.heap.size ∧ meth.locks = false ∧ (Jvm.Cond.and given_1 narrow_1).before #[Value.ref b] s = true
/-- the law's world: the object, the long array, the reference's object -/
abbrev lw_ws (cI cQ cJ : ClassId) (s0 c0 d0 m0 k0 cw co dw do_ aa o0 x0 aw ao ac az aq ax : Nat) (C : CS) (D : DS) (ov : Nat → Int64) : va_W := ([(s0, .inr (4, [.int (C.1.1 0), .ref c0, .ref d0, .ref m0, .ref k0, .int (C.1.1 5), .int (C.1.1 6), .int (C.1.1 7), .int (C.1.1 8), .int (C.1.1 9), .int (C.1.1 10)])), (c0, .inr (0, [.ref cw, .ref co, .int C.1.2.2.1.1])), (cw, .inl (cI, 48, .inl C.1.2.2.1.2.1)), (co, .inl (cI, 48, .inl C.1.2.2.1.2.2)), (d0, .inr (0, [.ref dw, .ref do_, .int C.1.2.2.2.1])), (dw, .inl (cI, 48, .inl C.1.2.2.2.2.1)), (do_, .inl (cI, 48, .inl C.1.2.2.2.2.2)), (m0, .inr (2, [.ref aa, .int (nI C.2.1)])), (aa, .inl (cQ, 600, .inr (.inr (.inr (.inr (ar_f C.2.2)))))), (k0, .inr (3, [.int (C.1.2.1 0), .int (C.1.2.1 1), .int (C.1.2.1 2), .int (C.1.2.1 3), .int (C.1.2.1 4), .int (C.1.2.1 5), .int (C.1.2.1 6), .int (C.1.2.1 7)])), (o0, .inl (cJ, 1, .inr (.inl ov))), (x0, .inr (5, [.int ((D.1) 0), .int ((D.1) 1), .int ((D.1) 2), .int ((D.1) 3), .ref aw, .ref ao, .int ((D.1) 6), .ref ac, .int ((D.1) 8), .int ((D.1) 9), .int ((D.1) 10), .int ((D.1) 11), .int ((D.1) 12), .int ((D.1) 13), .int ((D.1) 14), .int ((D.1) 15), .int ((D.1) 16), .int ((D.1) 17), .int ((D.1) 18), .ref az, .ref aq, .ref ax, .int ((D.1) 22), .int ((D.1) 23), .int ((D.1) 24), .int ((D.1) 25), .int ((D.1) 26)])), (aw, .inl (cI, 48, .inl (D.2.1))), (ao, .inl (cI, 48, .inl (D.2.2.1))), (ac, .inl (cI, 48, .inl (D.2.2.2.1))), (az, .inl (cI, 600, .inl (D.2.2.2.2.1))), (aq, .inl (cI, 28800, .inl (D.2.2.2.2.2.1))), (ax, .inl (cI, 600, .inl (D.2.2.2.2.2.2)))] ++ ar_W cI C.2.2)
theorem Inv.n {C : CS} {D : DS} (h : Inv C D) : ∃ nn : Nat, nn ≤ 48 ∧ D.1 3 = nI nn := by
  obtain ⟨nn, bud, ⟨h1, -, h3, -⟩, -⟩ := h
  exact ⟨nn, h1, h3⟩
theorem Inv.z {C : CS} {D : DS} (h : Inv C D) : ∃ z : Nat, z ≤ 48 ∧ D.1 6 = nI z := by
  obtain ⟨nn, bud, -, -, -, -, -, -, hz, -⟩ := h
  exact hz
theorem Inv.m {C : CS} {D : DS} (h : Inv C D) : C.2.1 ≤ C.2.2.length ∧ C.2.2.length ≤ 600 ∧ D.1 18 = nI C.2.1 ∧ C.2.1 ≤ 600 := by
  obtain ⟨nn, bud, -, ⟨-, b2, -, -, b5, b6⟩, -, -, hM, -⟩ := h
  exact ⟨hM.1, hM.2.1, b5, by omega⟩
theorem Inv.k {C : CS} {D : DS} (h : Inv C D) : D.1 2 = 0 → D.1 18 = nI 0 := by
  intro h0
  have hm := h.m.2.2.1
  obtain ⟨nn, bud, -, -, -, -, -, h2, -, hs⟩ := h
  have h5 : C.1.1 5 = 0 := h2.symm.trans h0
  rcases hs with ⟨-, s2, -⟩ | ⟨s1, -⟩ | ⟨s1, -⟩
  · rw [hm, s2]
  · exact absurd (h5.symm.trans s1) (by decide)
  · exact absurd h5 s1
theorem Inv.c {C : CS} {D : DS} (h : Inv C D) : ∃ c1 : Nat, D.1 2 = 1 → 1 ≤ C.2.1 ∧ D.2.2.2.2.1 (C.2.1 - 1) = nI c1 ∧ c1 ≤ 48 := by
  obtain ⟨nn, bud, -, -, -, -, -, h2, -, hs⟩ := h
  rcases hs with ⟨s1, -⟩ | ⟨s1, s2, cz, s3, -, s5, -⟩ | ⟨-, s1⟩
  · exact ⟨0, fun q => absurd ((h2.symm.trans q).symm.trans s1) (by decide)⟩
  · exact ⟨cz, fun _ => ⟨s2, s5, s3⟩⟩
  · exact ⟨0, fun q => absurd (h2.symm.trans q) s1⟩
theorem lw_cmp {ov ov9 : Nat → Int64} {r v b : Int32} (hv : r = 0 → ov9 = vp_updL ov 0 v.toInt64) (hb : r = 0 → v = b) (h : r = 0) : lg_cmp (ov9 (Int32.toNatClampNeg 0)) (Int32.toInt64 b) = 0 := by
  rw [lg_cmp_eq, hv h, hb h]
  exact pk_uLs
theorem cl_blind (b L : Nat) (xs : Nat → Int32) (av : List Value) : FrameBlind (va_Pc av (fun U => va_X b L xs U U.heap)) := fun a U g mk q => ⟨q.1, va_X.moved (u := U) (U := U.calling g mk a) (Vm.Alike.refl U.vm) q.2⟩
set_option maxHeartbeats 4000000 in
set_option maxRecDepth 100000 in
theorem kL_cell (l : Launch) (b L : Nat) (xs : Nat → Int32) (hL : L < 2 ^ 31) : Met l yL_cell (.code yL_cell cL_cell 2 (some .int) :: wA) ({ frames := 0, cells := 0, slots := 0, locals := 0 }) (va_Pc [.ref b, .int 0] (fun U => va_X b L xs U U.heap)) (sp_QRi (if L = 0 then 0 else xs 0)) 0 0 (fun _ => False) := by
  refine Met.ofW (cc := cL_cell) (maxL := 2) (ret := (some .int)) (by decide) rfl ?_
  intro p e s m args below meth c s₁ B hml hv
  obtain ⟨rfl, hX⟩ := hv
  have hx := B.exec
  have hb := B.bytes
  have hr := B.returns
  have hS : va_S (fun _ => False) s.heap s.heap [] := va_S.rf
  have hbl : b < s.heap.size := by obtain ⟨scr, h1, -⟩ := hX; exact (Array.getElem?_eq_some_iff.mp h1).1
  have hl := lv_entry ([.ref b, .int 0]) (n := 2) (Nat.le_of_ble_eq_true rfl)
  rw [lg_entry_eq]
  generalize (lg_sl ([.ref b, .int 0]) ++ List.replicate (2 - (lg_sl ([.ref b, .int 0])).length) Slot.unset).toArray = ls at hl ⊢
  have hl : lv_has ls 2 [(0, .ref b), (1, .int 0)] := hl
  refine lv_iload_n hx hb dL_cell_0 rfl (lv_at hl 1 rfl) ?_
  refine lv_aload_n hx hb dL_cell_1 rfl (lv_at hl 0 rfl) ?_
  refine va_slen hx hb hX hbl id hS dL_cell_2 ?_
  refine lv_icmp_ge (tgt := 12) hx hb dL_cell_3 (by decide) (fun c_3 => ?_) (fun c_3 => ?_)
  · have hL0 : L = 0 := by have := (nI_leI (a := L) (b := 0) hL (by omega)).mp c_3; omega
    refine lv_iconst (v := 0) hx hb dL_cell_12 (by decide) ?_
    exact W.iret hx hb hr (sp_eRi (by rw [if_pos hL0]) hS) hS.2.2 dL_cell_13
  · have hL0 : ¬ L = 0 := fun q => c_3 (nI_le (a := L) (b := 0) (by omega) (by omega))
    refine lv_aload_n hx hb dL_cell_6 rfl (lv_at hl 0 rfl) ?_
    refine lv_iload_n hx hb dL_cell_7 rfl (lv_at hl 1 rfl) ?_
    refine va_sld hx hb hX hbl id hS (vp_in_nI (n := 0) (by omega) hL) dL_cell_8 ?_
    refine lv_goto (tgt := 13) hx hb dL_cell_9 (by decide) ?_
    exact W.iret hx hb hr (sp_eRi (by rw [if_neg hL0]; rfl) hS) hS.2.2 dL_cell_13

