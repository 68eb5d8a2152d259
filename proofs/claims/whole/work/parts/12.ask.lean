-- Ask: contracts (by wip/gen/askc.py)
set_option maxHeartbeats 4000000 in
set_option maxRecDepth 100000 in
theorem kA_program (l : Launch) (dC : Nat → ClassId) (dI : Nat → Nat → Nat) (cI cQ : ClassId) (a0 p0 : Nat) (mk an : Int32)  : Met l yA_program (.code yA_program cA_program 1 (some (.object "ShortenPrograms$Program")) :: wA) ({ frames := 0, cells := 0, slots := 0, locals := 0 }) (sp_R (dC, dI) (kT cI cQ) [.ref a0] [(a0, .inr (1, [.ref p0, .int mk, .int an]))]) (sp_QRq (some p0)) 0 0 (fun _ => False) := by
  refine Met.ofW (cc := cA_program) (maxL := 1) (ret := (some (.object "ShortenPrograms$Program"))) (by decide) rfl ?_
  intro p e s m args below meth c s₁ B hml hv
  obtain ⟨rfl, hP, hK, hG⟩ := hv
  have hx := B.exec
  have hb := B.bytes
  have hr := B.returns
  have hA := sp_hA (atoms_spec (ws := (.code yA_program cA_program 1 (some (.object "ShortenPrograms$Program")) :: wA)) B.pre)
  have hown : s.vm.findClass rA = some m.cls := findClass_of_methodNamed B.named
  have hlocks := B.notSynchronized
  have hS : va_S (fun _ => False) s.heap s.heap [] := va_S.rf
  have hl := lv_entry ([.ref a0]) (n := 1) (Nat.le_of_ble_eq_true rfl)
  rw [lg_entry_eq]
  generalize (lg_sl ([.ref a0]) ++ List.replicate (1 - (lg_sl ([.ref a0])).length) Slot.unset).toArray = ls at hl ⊢
  have hl : lv_has ls 1 [(0, .ref a0)] := hl
  refine lv_aload_n hx hb dA_program_0 rfl (lv_at hl 0 rfl) ?_
  refine va_get (D := (dC, dI)) (ci := 1) (C := rA) (T := tA) (N := 3) hx hb hA inA hown hK hP 0 rfl rfl 0 (by decide) (hA _ wi_259) (fun _ h9 => h9) rfl dA_program_1 ?_
  exact W.aret hx hb hr (Or.inl ⟨_, rfl⟩) (Or.inr ⟨_, rfl⟩) (sp_eRq (w := (some p0)) rfl (rfl) hS) hS.2.2 dA_program_4
set_option maxHeartbeats 4000000 in
set_option maxRecDepth 100000 in
theorem kA_answer (l : Launch) (dC : Nat → ClassId) (dI : Nat → Nat → Nat) (cI cQ : ClassId) (a0 p0 : Nat) (mk an : Int32)  : Met l yA_answer (.code yA_answer cA_answer 1 (some .int) :: wA) ({ frames := 0, cells := 0, slots := 0, locals := 0 }) (sp_R (dC, dI) (kT cI cQ) [.ref a0] [(a0, .inr (1, [.ref p0, .int mk, .int an]))]) (sp_QRi an) 0 0 (fun _ => False) := by
  refine Met.ofW (cc := cA_answer) (maxL := 1) (ret := (some .int)) (by decide) rfl ?_
  intro p e s m args below meth c s₁ B hml hv
  obtain ⟨rfl, hP, hK, hG⟩ := hv
  have hx := B.exec
  have hb := B.bytes
  have hr := B.returns
  have hA := sp_hA (atoms_spec (ws := (.code yA_answer cA_answer 1 (some .int) :: wA)) B.pre)
  have hown : s.vm.findClass rA = some m.cls := findClass_of_methodNamed B.named
  have hlocks := B.notSynchronized
  have hS : va_S (fun _ => False) s.heap s.heap [] := va_S.rf
  have hl := lv_entry ([.ref a0]) (n := 1) (Nat.le_of_ble_eq_true rfl)
  rw [lg_entry_eq]
  generalize (lg_sl ([.ref a0]) ++ List.replicate (1 - (lg_sl ([.ref a0])).length) Slot.unset).toArray = ls at hl ⊢
  have hl : lv_has ls 1 [(0, .ref a0)] := hl
  refine lv_aload_n hx hb dA_answer_0 rfl (lv_at hl 0 rfl) ?_
  refine va_get (D := (dC, dI)) (ci := 1) (C := rA) (T := tA) (N := 3) hx hb hA inA hown hK hP 0 rfl rfl 2 (by decide) (hA _ wi_261) (fun _ h9 => h9) rfl dA_answer_1 ?_
  exact W.iret hx hb hr (sp_eRi (rfl) hS) hS.2.2 dA_answer_4
set_option maxHeartbeats 4000000 in
set_option maxRecDepth 100000 in
theorem kA_set (l : Launch) (dC : Nat → ClassId) (dI : Nat → Nat → Nat) (cI cQ : ClassId) (a0 p0 : Nat) (mk an : Int32) (x : Int32) (sz : Nat)  : Met l yA_setAnswer (.code yA_setAnswer cA_setAnswer 2 none :: wA) ({ frames := 0, cells := 0, slots := 0, locals := 0 }) (sp_P (dC, dI) (kT cI cQ) [.ref a0, .int x] [(a0, .inr (1, [.ref p0, .int mk, .int an]))] sz) (sp_QWv (dC, dI) [(a0, .inr (1, [.ref p0, .int mk, .int x]))] (va_A [(a0, .inr (1, [.ref p0, .int mk, .int an]))] sz)) 0 0 (va_A [(a0, .inr (1, [.ref p0, .int mk, .int an]))] sz) := by
  refine Met.ofW (cc := cA_setAnswer) (maxL := 2) (ret := none) (by decide) rfl ?_
  intro p e s m args below meth c s₁ B hml hv
  obtain ⟨rfl, hsz, hP, hK, hD0, hG⟩ := hv
  have hx := B.exec
  have hb := B.bytes
  have hr := B.returns
  have hA := sp_hA (atoms_spec (ws := (.code yA_setAnswer cA_setAnswer 2 none :: wA)) B.pre)
  have hown : s.vm.findClass rA = some m.cls := findClass_of_methodNamed B.named
  have hlocks := B.notSynchronized
  subst hsz
  have hD := hD0.self (sz := s.heap.size)
  generalize hAe : va_A [(a0, .inr (1, [.ref p0, .int mk, .int an]))] s.heap.size = A at hD ⊢
  have hF : ∀ q : Nat, s.heap.size ≤ q → A q := fun q h => by rw [← hAe]; exact Or.inr h
  have hS : va_S A s.heap s.heap [] := va_S.rf
  have hl := lv_entry ([.ref a0, .int x]) (n := 2) (Nat.le_of_ble_eq_true rfl)
  rw [lg_entry_eq]
  generalize (lg_sl ([.ref a0, .int x]) ++ List.replicate (2 - (lg_sl ([.ref a0, .int x])).length) Slot.unset).toArray = ls at hl ⊢
  have hl : lv_has ls 2 [(0, .ref a0), (1, .int x)] := hl
  refine lv_aload_n hx hb dA_setAnswer_0 rfl (lv_at hl 0 rfl) ?_
  refine lv_iload_n hx hb dA_setAnswer_1 rfl (lv_at hl 1 rfl) ?_
  refine va_put (D := (dC, dI)) (ci := 1) (v := .int x) (ty := .int) (C := rA) (T := tA) (N := 3) hx hb hA inA tyA tyA_ok nmA hown hK hP hD hS 0 rfl rfl 2 (by decide) (hA _ wi_261) (fun _ h9 => h9) rfl (by decide +kernel) rfl rfl (Nat.le_of_ble_eq_true rfl) dA_setAnswer_2 (fun H locs hP hD hS => ?_)
  have hP : va_P (dC, dI) vwCl [(a0, .inr (1, [.ref p0, .int mk, .int x]))] H := hP
  have hD : va_D A [(a0, .inr (1, [.ref p0, .int mk, .int x]))] := hD
  have hPe : va_P (dC, dI) vwCl [(a0, .inr (1, [.ref p0, .int mk, .int x]))] H := by exact hP
  have hDe : va_D A [(a0, .inr (1, [.ref p0, .int mk, .int x]))] := sp_Dc hD rfl
  exact W.vret hx hb hr (sp_eWv hPe hDe hS) hS.2.2 dA_setAnswer_5
set_option maxHeartbeats 4000000 in
set_option maxRecDepth 100000 in
theorem kA_open (l : Launch) (dC : Nat → ClassId) (dI : Nat → Nat → Nat) (cI cQ : ClassId) (a0 p0 : Nat) (mk an : Int32) (w0 o0 : Nat) (n : Int32) (ws os : Nat → Int32) (g0 gw go : Nat) (n' : Int32) (ws' os' : Nat → Int32) (sz : Nat)  : Met l yA_open (.code yA_open cA_open 2 none :: wA) ({ frames := 2, cells := 0, slots := 0, locals := 36 }) (sp_P (dC, dI) (kT cI cQ) [.ref a0, .ref g0] [(a0, .inr (1, [.ref p0, .int mk, .int an])), (p0, .inr (0, [.ref w0, .ref o0, .int n])), (w0, .inl (cI, 48, .inl ws)), (o0, .inl (cI, 48, .inl os)), (g0, .inr (0, [.ref gw, .ref go, .int n'])), (gw, .inl (cI, 48, .inl ws')), (go, .inl (cI, 48, .inl os'))] sz) (sp_QWv (dC, dI) [(a0, .inr (1, [.ref p0, .int (pg_mark (pg_cp ws' ws (pg_cpN n').toNatClampNeg) (pg_cpN n')), .int (-2)])), (p0, .inr (0, [.ref w0, .ref o0, .int (pg_cpN n')])), (w0, .inl (cI, 48, .inl (pg_cp ws' ws (pg_cpN n').toNatClampNeg))), (o0, .inl (cI, 48, .inl (pg_cp os' os (pg_cpN n').toNatClampNeg))), (g0, .inr (0, [.ref gw, .ref go, .int n'])), (gw, .inl (cI, 48, .inl ws')), (go, .inl (cI, 48, .inl os'))] (va_A [(a0, .inr (1, [.ref p0, .int mk, .int an])), (p0, .inr (0, [.ref w0, .ref o0, .int n])), (w0, .inl (cI, 48, .inl ws)), (o0, .inl (cI, 48, .inl os)), (g0, .inr (0, [.ref gw, .ref go, .int n'])), (gw, .inl (cI, 48, .inl ws')), (go, .inl (cI, 48, .inl os'))] sz)) 0 0 (va_A [(a0, .inr (1, [.ref p0, .int mk, .int an])), (p0, .inr (0, [.ref w0, .ref o0, .int n])), (w0, .inl (cI, 48, .inl ws)), (o0, .inl (cI, 48, .inl os)), (g0, .inr (0, [.ref gw, .ref go, .int n'])), (gw, .inl (cI, 48, .inl ws')), (go, .inl (cI, 48, .inl os'))] sz) := by
  refine Met.ofW (cc := cA_open) (maxL := 2) (ret := none) (by decide) rfl ?_
  intro p e s m args below meth c s₁ B hml hv
  obtain ⟨rfl, hsz, hP, hK, hD0, hG⟩ := hv
  have hx := B.exec
  have hb := B.bytes
  have hr := B.returns
  have hA := sp_hA (atoms_spec (ws := (.code yA_open cA_open 2 none :: wA)) B.pre)
  have hown : s.vm.findClass rA = some m.cls := findClass_of_methodNamed B.named
  have hlocks := B.notSynchronized
  subst hsz
  have hD := hD0.self (sz := s.heap.size)
  generalize hAe : va_A [(a0, .inr (1, [.ref p0, .int mk, .int an])), (p0, .inr (0, [.ref w0, .ref o0, .int n])), (w0, .inl (cI, 48, .inl ws)), (o0, .inl (cI, 48, .inl os)), (g0, .inr (0, [.ref gw, .ref go, .int n'])), (gw, .inl (cI, 48, .inl ws')), (go, .inl (cI, 48, .inl os'))] s.heap.size = A at hD ⊢
  have hF : ∀ q : Nat, s.heap.size ≤ q → A q := fun q h => by rw [← hAe]; exact Or.inr h
  have hS : va_S A s.heap s.heap [] := va_S.rf
  have hl := lv_entry ([.ref a0, .ref g0]) (n := 2) (Nat.le_of_ble_eq_true rfl)
  rw [lg_entry_eq]
  generalize (lg_sl ([.ref a0, .ref g0]) ++ List.replicate (2 - (lg_sl ([.ref a0, .ref g0])).length) Slot.unset).toArray = ls at hl ⊢
  have hl : lv_has ls 2 [(0, .ref a0), (1, .ref g0)] := hl
  refine lv_aload_n hx hb dA_open_0 rfl (lv_at hl 0 rfl) ?_
  refine va_get (D := (dC, dI)) (ci := 1) (C := rA) (T := tA) (N := 3) hx hb hA inA hown hK hP 0 rfl rfl 0 (by decide) (hA _ wi_259) (fun _ h9 => h9) rfl dA_open_1 ?_
  refine lv_aload_n hx hb dA_open_4 rfl (lv_at hl 1 rfl) ?_
  have hPc := hP.sub (ws' := [(p0, .inr (0, [.ref w0, .ref o0, .int n])), (w0, .inl (cI, 48, .inl ws)), (o0, .inl (cI, 48, .inl os)), (g0, .inr (0, [.ref gw, .ref go, .int n'])), (gw, .inl (cI, 48, .inl ws')), (go, .inl (cI, 48, .inl os'))]) [1, 2, 3, 4, 5, 6] rfl
  have hDc := hD.sub (ws' := [(p0, .inr (0, [.ref w0, .ref o0, .int n])), (w0, .inl (cI, 48, .inl ws)), (o0, .inl (cI, 48, .inl os)), (g0, .inr (0, [.ref gw, .ref go, .int n'])), (gw, .inl (cI, 48, .inl ws')), (go, .inl (cI, 48, .inl os'))]) [1, 2, 3, 4, 5, 6] (by decide) rfl
  have hFc := va_free (wc := [(p0, .inr (0, [.ref w0, .ref o0, .int n])), (w0, .inl (cI, 48, .inl ws)), (o0, .inl (cI, 48, .inl os)), (g0, .inr (0, [.ref gw, .ref go, .int n'])), (gw, .inl (cI, 48, .inl ws')), (go, .inl (cI, 48, .inl os'))]) hD hS hF [1, 2, 3, 4, 5, 6] rfl
  refine va_callv (va_runV (As := [.ref g0]) (rest := []) ⟨hx, hb, hml, hown, hA⟩ (kP_copy l dC dI cI cQ p0 w0 o0 n ws os g0 gw go n' ws' os' _) (cwV 1 hA (gd_V wi_273 wi_274 wi_275 wi_3 wi_276) rfl rfl rfl (by decide +kernel) ⟨Nat.le_of_ble_eq_true rfl, Nat.le_of_ble_eq_true rfl⟩) ⟨sp_Pb, va_recv hK hP (ci := 0) (q0 := 1) rfl rfl, sp_Po hPc hK hG hDc⟩ rfl rfl hl.1 rfl (lv_room (Nat.le_of_ble_eq_true rfl)) dA_open_5 ⟨Nat.le_of_ble_eq_true rfl, Nat.le_of_ble_eq_true rfl⟩) hS (fun q _ h => hFc q h) hFc (fun u_5 t H locs ht hvm hw hB hz1 hk1 hS => ?_)
  obtain ⟨hP1, hD1⟩ := hB
  rw [ht] at hP1
  obtain ⟨hP, hD⟩ := va_join (wr := [(a0, .inr (1, [.ref p0, .int mk, .int an]))]) (w1 := [(p0, .inr (0, [.ref w0, .ref o0, .int (pg_cpN n')])), (w0, .inl (cI, 48, .inl (pg_cp ws' ws (pg_cpN n').toNatClampNeg))), (o0, .inl (cI, 48, .inl (pg_cp os' os (pg_cpN n').toNatClampNeg))), (g0, .inr (0, [.ref gw, .ref go, .int n'])), (gw, .inl (cI, 48, .inl ws')), (go, .inl (cI, 48, .inl os'))]) hP hD [1, 2, 3, 4, 5, 6] [0] rfl rfl (by decide) (by decide) hk1 hFc hP1 hD1
  have hP : va_P (dC, dI) vwCl [(a0, .inr (1, [.ref p0, .int mk, .int an])), (p0, .inr (0, [.ref w0, .ref o0, .int (pg_cpN n')])), (w0, .inl (cI, 48, .inl (pg_cp ws' ws (pg_cpN n').toNatClampNeg))), (o0, .inl (cI, 48, .inl (pg_cp os' os (pg_cpN n').toNatClampNeg))), (g0, .inr (0, [.ref gw, .ref go, .int n'])), (gw, .inl (cI, 48, .inl ws')), (go, .inl (cI, 48, .inl os'))] H := hP.sub [0, 1, 2, 3, 4, 5, 6] rfl
  have hD : va_D A [(a0, .inr (1, [.ref p0, .int mk, .int an])), (p0, .inr (0, [.ref w0, .ref o0, .int (pg_cpN n')])), (w0, .inl (cI, 48, .inl (pg_cp ws' ws (pg_cpN n').toNatClampNeg))), (o0, .inl (cI, 48, .inl (pg_cp os' os (pg_cpN n').toNatClampNeg))), (g0, .inr (0, [.ref gw, .ref go, .int n'])), (gw, .inl (cI, 48, .inl ws')), (go, .inl (cI, 48, .inl os'))] := hD.sub [0, 1, 2, 3, 4, 5, 6] (by decide) rfl
  refine lv_aload_n hx hb dA_open_8 rfl (lv_at hl 0 rfl) ?_
  refine lv_aload_n hx hb dA_open_9 rfl (lv_at hl 0 rfl) ?_
  refine va_get (D := (dC, dI)) (ci := 1) (C := rA) (T := tA) (N := 3) hx hb hA inA hown hK hP 0 rfl rfl 0 (by decide) (hA _ wi_259) (fun _ h9 => h9) rfl dA_open_10 ?_
  refine va_calli (va_runV (As := []) (rest := [.ref a0]) ⟨hx, hb, hml, hown, hA⟩ (kP_mark l dC dI cI cQ p0 w0 o0 (pg_cpN n') (pg_cp ws' ws (pg_cpN n').toNatClampNeg)) (cwV 0 hA (gd_V wi_280 wi_281 wi_282 wi_3 wi_283) rfl rfl rfl (by decide +kernel) ⟨Nat.le_of_ble_eq_true rfl, Nat.le_of_ble_eq_true rfl⟩) ⟨sp_Rb, va_recv hK hP (ci := 0) (q0 := 1) rfl rfl, sp_Ro (hP.sub [1, 2] rfl) hK hG⟩ rfl rfl hl.1 rfl (lv_room (Nat.le_of_ble_eq_true rfl)) dA_open_13 ⟨Nat.le_of_ble_eq_true rfl, Nat.le_of_ble_eq_true rfl⟩) hS (fun _ _ h => h.elim) (fun _ h => h.elim) (fun r_13 u_13 t H locs ht hvm hw hB hz1 hk1 hS => ?_)
  rw [hw]
  have hP := sp_kp hP hk1
  refine va_put (D := (dC, dI)) (ci := 1) (v := .int (pg_mark (pg_cp ws' ws (pg_cpN n').toNatClampNeg) (pg_cpN n') )) (ty := .int) (C := rA) (T := tA) (N := 3) hx hb hA inA tyA tyA_ok nmA hown hK hP hD hS 0 rfl rfl 1 (by decide) (hA _ wi_260) (fun _ h9 => h9) rfl (by decide +kernel) rfl rfl (Nat.le_of_ble_eq_true rfl) dA_open_16 (fun H locs hP hD hS => ?_)
  have hP : va_P (dC, dI) vwCl [(a0, .inr (1, [.ref p0, .int (pg_mark (pg_cp ws' ws (pg_cpN n').toNatClampNeg) (pg_cpN n') ), .int an])), (p0, .inr (0, [.ref w0, .ref o0, .int (pg_cpN n')])), (w0, .inl (cI, 48, .inl (pg_cp ws' ws (pg_cpN n').toNatClampNeg))), (o0, .inl (cI, 48, .inl (pg_cp os' os (pg_cpN n').toNatClampNeg))), (g0, .inr (0, [.ref gw, .ref go, .int n'])), (gw, .inl (cI, 48, .inl ws')), (go, .inl (cI, 48, .inl os'))] H := hP
  have hD : va_D A [(a0, .inr (1, [.ref p0, .int (pg_mark (pg_cp ws' ws (pg_cpN n').toNatClampNeg) (pg_cpN n') ), .int an])), (p0, .inr (0, [.ref w0, .ref o0, .int (pg_cpN n')])), (w0, .inl (cI, 48, .inl (pg_cp ws' ws (pg_cpN n').toNatClampNeg))), (o0, .inl (cI, 48, .inl (pg_cp os' os (pg_cpN n').toNatClampNeg))), (g0, .inr (0, [.ref gw, .ref go, .int n'])), (gw, .inl (cI, 48, .inl ws')), (go, .inl (cI, 48, .inl os'))] := hD
  refine lv_aload_n hx hb dA_open_19 rfl (lv_at hl 0 rfl) ?_
  refine lv_bipush (v := (-2)) hx hb dA_open_20 (by decide) ?_
  refine va_put (D := (dC, dI)) (ci := 1) (v := .int (-2)) (ty := .int) (C := rA) (T := tA) (N := 3) hx hb hA inA tyA tyA_ok nmA hown hK hP hD hS 0 rfl rfl 2 (by decide) (hA _ wi_261) (fun _ h9 => h9) rfl (by decide +kernel) rfl rfl (Nat.le_of_ble_eq_true rfl) dA_open_22 (fun H locs hP hD hS => ?_)
  have hP : va_P (dC, dI) vwCl [(a0, .inr (1, [.ref p0, .int (pg_mark (pg_cp ws' ws (pg_cpN n').toNatClampNeg) (pg_cpN n') ), .int (-2)])), (p0, .inr (0, [.ref w0, .ref o0, .int (pg_cpN n')])), (w0, .inl (cI, 48, .inl (pg_cp ws' ws (pg_cpN n').toNatClampNeg))), (o0, .inl (cI, 48, .inl (pg_cp os' os (pg_cpN n').toNatClampNeg))), (g0, .inr (0, [.ref gw, .ref go, .int n'])), (gw, .inl (cI, 48, .inl ws')), (go, .inl (cI, 48, .inl os'))] H := hP
  have hD : va_D A [(a0, .inr (1, [.ref p0, .int (pg_mark (pg_cp ws' ws (pg_cpN n').toNatClampNeg) (pg_cpN n') ), .int (-2)])), (p0, .inr (0, [.ref w0, .ref o0, .int (pg_cpN n')])), (w0, .inl (cI, 48, .inl (pg_cp ws' ws (pg_cpN n').toNatClampNeg))), (o0, .inl (cI, 48, .inl (pg_cp os' os (pg_cpN n').toNatClampNeg))), (g0, .inr (0, [.ref gw, .ref go, .int n'])), (gw, .inl (cI, 48, .inl ws')), (go, .inl (cI, 48, .inl os'))] := hD
  have hPe : va_P (dC, dI) vwCl [(a0, .inr (1, [.ref p0, .int (pg_mark (pg_cp ws' ws (pg_cpN n').toNatClampNeg) (pg_cpN n')), .int (-2)])), (p0, .inr (0, [.ref w0, .ref o0, .int (pg_cpN n')])), (w0, .inl (cI, 48, .inl (pg_cp ws' ws (pg_cpN n').toNatClampNeg))), (o0, .inl (cI, 48, .inl (pg_cp os' os (pg_cpN n').toNatClampNeg))), (g0, .inr (0, [.ref gw, .ref go, .int n'])), (gw, .inl (cI, 48, .inl ws')), (go, .inl (cI, 48, .inl os'))] H := by exact hP
  have hDe : va_D A [(a0, .inr (1, [.ref p0, .int (pg_mark (pg_cp ws' ws (pg_cpN n').toNatClampNeg) (pg_cpN n')), .int (-2)])), (p0, .inr (0, [.ref w0, .ref o0, .int (pg_cpN n')])), (w0, .inl (cI, 48, .inl (pg_cp ws' ws (pg_cpN n').toNatClampNeg))), (o0, .inl (cI, 48, .inl (pg_cp os' os (pg_cpN n').toNatClampNeg))), (g0, .inr (0, [.ref gw, .ref go, .int n'])), (gw, .inl (cI, 48, .inl ws')), (go, .inl (cI, 48, .inl os'))] := sp_Dc hD rfl
  exact W.vret hx hb hr (sp_eWv hPe hDe hS) hS.2.2 dA_open_25
set_option maxHeartbeats 4000000 in
set_option maxRecDepth 100000 in
theorem kA_is (l : Launch) (dC : Nat → ClassId) (dI : Nat → Nat → Nat) (cI cQ : ClassId) (a0 p0 : Nat) (mk an : Int32) (w0 o0 : Nat) (n : Int32) (ws : Nat → Int32) (g0 gw go : Nat) (n' : Int32) (ws' : Nat → Int32) (gm : Int32)  : Met l yA_isOf (.code yA_isOf cA_isOf 3 (some .boolean) :: wA) ({ frames := 1, cells := 0, slots := 0, locals := 22 }) (sp_R (dC, dI) (kT cI cQ) [.ref a0, .ref g0, .int gm] [(a0, .inr (1, [.ref p0, .int mk, .int an])), (p0, .inr (0, [.ref w0, .ref o0, .int n])), (w0, .inl (cI, 48, .inl ws)), (g0, .inr (0, [.ref gw, .ref go, .int n'])), (gw, .inl (cI, 48, .inl ws'))]) (sp_QRi (ak_is mk n ws gm n' ws')) 0 0 (fun _ => False) := by
  refine Met.ofW (cc := cA_isOf) (maxL := 3) (ret := (some .boolean)) (by decide) rfl ?_
  intro p e s m args below meth c s₁ B hml hv
  obtain ⟨rfl, hP, hK, hG⟩ := hv
  have hx := B.exec
  have hb := B.bytes
  have hr := B.returns
  have hA := sp_hA (atoms_spec (ws := (.code yA_isOf cA_isOf 3 (some .boolean) :: wA)) B.pre)
  have hown : s.vm.findClass rA = some m.cls := findClass_of_methodNamed B.named
  have hlocks := B.notSynchronized
  have hS : va_S (fun _ => False) s.heap s.heap [] := va_S.rf
  have hl := lv_entry ([.ref a0, .ref g0, .int gm]) (n := 3) (Nat.le_of_ble_eq_true rfl)
  rw [lg_entry_eq]
  generalize (lg_sl ([.ref a0, .ref g0, .int gm]) ++ List.replicate (3 - (lg_sl ([.ref a0, .ref g0, .int gm])).length) Slot.unset).toArray = ls at hl ⊢
  have hl : lv_has ls 3 [(0, .ref a0), (1, .ref g0), (2, .int gm)] := hl
  refine lv_aload_n hx hb dA_isOf_0 rfl (lv_at hl 0 rfl) ?_
  refine va_get (D := (dC, dI)) (ci := 1) (C := rA) (T := tA) (N := 3) hx hb hA inA hown hK hP 0 rfl rfl 1 (by decide) (hA _ wi_260) (fun _ h9 => h9) rfl dA_isOf_1 ?_
  refine lv_iload_n hx hb dA_isOf_4 rfl (lv_at hl 2 rfl) ?_
  refine lv_icmp_ne (tgt := 23) hx hb dA_isOf_5 (by decide) (fun c_5 => ?_) (fun c_5 => ?_)
  · refine lv_iconst (v := 0) hx hb dA_isOf_23 (by decide) ?_
    exact W.zret hx hb hr rfl (sp_eRi (by simp [ak_is, c_5]) hS) hS.2.2 dA_isOf_24
  · refine lv_aload_n hx hb dA_isOf_8 rfl (lv_at hl 0 rfl) ?_
    refine va_get (D := (dC, dI)) (ci := 1) (C := rA) (T := tA) (N := 3) hx hb hA inA hown hK hP 0 rfl rfl 0 (by decide) (hA _ wi_259) (fun _ h9 => h9) rfl dA_isOf_9 ?_
    refine lv_aload_n hx hb dA_isOf_12 rfl (lv_at hl 1 rfl) ?_
    refine va_calli (va_runV (As := [.ref g0]) (rest := []) ⟨hx, hb, hml, hown, hA⟩ (kP_same l dC dI cI cQ p0 w0 o0 n ws g0 gw go n' ws') (cwV 1 hA (gd_V wi_444 wi_445 wi_446 wi_3 wi_447) rfl rfl rfl (by decide +kernel) ⟨Nat.le_of_ble_eq_true rfl, Nat.le_of_ble_eq_true rfl⟩) ⟨sp_Rb, va_recv hK hP (ci := 0) (q0 := 1) rfl rfl, sp_Ro (hP.sub [1, 2, 3, 4] rfl) hK hG⟩ rfl rfl hl.1 rfl (lv_room (Nat.le_of_ble_eq_true rfl)) dA_isOf_13 ⟨Nat.le_of_ble_eq_true rfl, Nat.le_of_ble_eq_true rfl⟩) hS (fun _ _ h => h.elim) (fun _ h => h.elim) (fun r_13 u_13 t H locs ht hvm hw hB hz1 hk1 hS => ?_)
    rw [hw]
    have hP := sp_kp hP hk1
    refine lv_if_eq (tgt := 23) hx hb dA_isOf_16 (by decide) (fun c_16 => ?_) (fun c_16 => ?_)
    · refine lv_iconst (v := 0) hx hb dA_isOf_23 (by decide) ?_
      exact W.zret hx hb hr rfl (sp_eRi (by simp [ak_is, c_5, c_16]) hS) hS.2.2 dA_isOf_24
    · refine lv_iconst (v := 1) hx hb dA_isOf_19 (by decide) ?_
      refine lv_goto (tgt := 24) hx hb dA_isOf_20 (by decide) ?_
      exact W.zret hx hb hr rfl (sp_eRi (by simp [ak_is, c_5, c_16]) hS) hS.2.2 dA_isOf_24
set_option maxHeartbeats 4000000 in
set_option maxRecDepth 100000 in
theorem kA_init (l : Launch) (dC : Nat → ClassId) (dI : Nat → Nat → Nat) (cI cQ : ClassId) (a0 : Nat) (sz : Nat)  : Met l yA_init (.code yA_init cA_init 1 none :: wA) ({ frames := 2, cells := 3, slots := 99, locals := 32 }) (sp_P (dC, dI) (kT cI cQ) [.ref a0] [(a0, .inr (1, [.null, .int 0, .int 0]))] sz) (va_Qv (fun (_ : Nat × Nat × Nat) => True) (fun u t => va_P (dC, dI) vwCl [(a0, .inr (1, [.ref u.1, .int 0, .int 0])), (u.1, .inr (0, [.ref u.2.1, .ref u.2.2, .int 0])), (u.2.1, .inl (cI, 48, .inl (fun _ => 0))), (u.2.2, .inl (cI, 48, .inl (fun _ => 0)))] t.heap ∧ va_D (va_A [(a0, .inr (1, [.null, .int 0, .int 0]))] sz) [(a0, .inr (1, [.ref u.1, .int 0, .int 0])), (u.1, .inr (0, [.ref u.2.1, .ref u.2.2, .int 0])), (u.2.1, .inl (cI, 48, .inl (fun _ => 0))), (u.2.2, .inl (cI, 48, .inl (fun _ => 0)))]) (va_A [(a0, .inr (1, [.null, .int 0, .int 0]))] sz)) 3 99 (va_A [(a0, .inr (1, [.null, .int 0, .int 0]))] sz) := by
  refine Met.ofW (cc := cA_init) (maxL := 1) (ret := none) (by decide) rfl ?_
  intro p e s m args below meth c s₁ B hml hv
  obtain ⟨rfl, hsz, hP, hK, hD0, hG⟩ := hv
  have hx := B.exec
  have hb := B.bytes
  have hr := B.returns
  have hA := sp_hA (atoms_spec (ws := (.code yA_init cA_init 1 none :: wA)) B.pre)
  have hown : s.vm.findClass rA = some m.cls := findClass_of_methodNamed B.named
  have hlocks := B.notSynchronized
  have hin : meth.name = "<init>" := (name_of_methodNamed B.named B.method).1
  subst hsz
  have hD := hD0.self (sz := s.heap.size)
  generalize hAe : va_A [(a0, .inr (1, [.null, .int 0, .int 0]))] s.heap.size = A at hD ⊢
  have hF : ∀ q : Nat, s.heap.size ≤ q → A q := fun q h => by rw [← hAe]; exact Or.inr h
  have hS : va_S A s.heap s.heap [] := va_S.rf
  have hl := lv_entry ([.ref a0]) (n := 1) (Nat.le_of_ble_eq_true rfl)
  rw [lg_entry_eq]
  generalize (lg_sl ([.ref a0]) ++ List.replicate (1 - (lg_sl ([.ref a0])).length) Slot.unset).toArray = ls at hl ⊢
  have hl : lv_has ls 1 [(0, .ref a0)] := hl
  refine lv_aload_n hx hb dA_init_0 rfl (lv_at hl 0 rfl) ?_
  refine W.objInit hx hb hown (hA _ wi_257) (hA _ wi_21) (hA _ wi_22) rfl (by rw [hml]; exact hl.1) rfl dA_init_1 (Nat.le_of_ble_eq_true rfl) (Nat.le_of_ble_eq_true rfl) ?_
  refine W.eq (g2 := F0 m 4 ls []) rfl ?_
  refine lv_aload_n hx hb dA_init_4 rfl (lv_at hl 0 rfl) ?_
  refine va_new (ci := 0) (fs := [.null, .null, .int 0]) (C := rP) (T := tP) (N := 3) hx hb hA inP tyP tyP_ok hown (hA _ wi_258) (hA _ wi_28) (hA _ wi_3) hK hP hD hS hF rfl (fun j hj => by rcases (show j = 0 ∨ j = 1 ∨ j = 2 by omega) with rfl | rfl | rfl <;> rfl) (Nat.le_of_ble_eq_true rfl) (Nat.le_of_ble_eq_true rfl) dA_init_5 (fun q5 H hP hD hS => ?_)
  have hP : va_P (dC, dI) vwCl [(a0, .inr (1, [.null, .int 0, .int 0])), (q5, .inr (0, [.null, .null, .int 0]))] H := hP
  have hD : va_D A [(a0, .inr (1, [.null, .int 0, .int 0])), (q5, .inr (0, [.null, .null, .int 0]))] := hD
  refine lv_dup hx hb dA_init_8 rfl ?_
  have hPc := hP.sub (ws' := [(q5, .inr (0, [.null, .null, .int 0]))]) [1] rfl
  have hDc := hD.sub (ws' := [(q5, .inr (0, [.null, .null, .int 0]))]) [1] (by decide) rfl
  have hFc := va_free (wc := [(q5, .inr (0, [.null, .null, .int 0]))]) hD hS hF [1] rfl
  refine va_callv (va_runIN (As := []) (rest := [.ref q5, .ref a0]) ⟨hx, hb, hml, hown, hA⟩ (kP_init l dC dI cI cQ q5 _) ⟨va_cnB 0 hA (gd_I wi_30) rfl rfl rfl hG.2.2.2.2.1 (hA _ wi_3) (by decide +kernel) ⟨Nat.le_of_ble_eq_true rfl, Nat.le_of_ble_eq_true rfl⟩, rfl, (hA _ wi_29)⟩ ⟨sp_Pb, sp_Po hPc hK hG hDc⟩ rfl rfl hl.1 rfl (lv_room (Nat.le_of_ble_eq_true rfl)) dA_init_9 ⟨Nat.le_of_ble_eq_true rfl, Nat.le_of_ble_eq_true rfl⟩) hS (fun q _ h => hFc q h) hFc (fun u_9 t H locs ht hvm hw hB hz1 hk1 hS => ?_)
  obtain ⟨qw9, qo9⟩ := u_9
  try dsimp only at hB
  obtain ⟨hP1, hD1⟩ := hB
  rw [ht] at hP1
  obtain ⟨hP, hD⟩ := va_join (wr := [(a0, .inr (1, [.null, .int 0, .int 0]))]) (w1 := [(q5, .inr (0, [.ref qw9, .ref qo9, .int 0])), (qw9, .inl (cI, 48, .inl (fun _ => 0))), (qo9, .inl (cI, 48, .inl (fun _ => 0)))]) hP hD [1] [0] rfl rfl (by decide) (by decide) hk1 hFc hP1 hD1
  have hP : va_P (dC, dI) vwCl [(a0, .inr (1, [.null, .int 0, .int 0])), (q5, .inr (0, [.ref qw9, .ref qo9, .int 0])), (qw9, .inl (cI, 48, .inl (fun _ => 0))), (qo9, .inl (cI, 48, .inl (fun _ => 0)))] H := hP.sub [0, 1, 2, 3] rfl
  have hD : va_D A [(a0, .inr (1, [.null, .int 0, .int 0])), (q5, .inr (0, [.ref qw9, .ref qo9, .int 0])), (qw9, .inl (cI, 48, .inl (fun _ => 0))), (qo9, .inl (cI, 48, .inl (fun _ => 0)))] := hD.sub [0, 1, 2, 3] (by decide) rfl
  refine va_putF (D := (dC, dI)) (ci := 1) (v := .ref q5) (ty := .object "ShortenPrograms$Program") (C := rA) (T := tA) (N := 3) hx hb hA inA tyA tyA_ok nmA hown hK hP hD hS 0 rfl rfl 0 (by decide) (hA _ wi_259) (fun _ h9 => h9) rfl hin rfl (by decide +kernel) rfl rfl (Nat.le_of_ble_eq_true rfl) dA_init_12 (fun H locs hP hD hS => ?_)
  have hP : va_P (dC, dI) vwCl [(a0, .inr (1, [.ref q5, .int 0, .int 0])), (q5, .inr (0, [.ref qw9, .ref qo9, .int 0])), (qw9, .inl (cI, 48, .inl (fun _ => 0))), (qo9, .inl (cI, 48, .inl (fun _ => 0)))] H := hP
  have hD : va_D A [(a0, .inr (1, [.ref q5, .int 0, .int 0])), (q5, .inr (0, [.ref qw9, .ref qo9, .int 0])), (qw9, .inl (cI, 48, .inl (fun _ => 0))), (qo9, .inl (cI, 48, .inl (fun _ => 0)))] := hD
  have hPe : va_P (dC, dI) vwCl [(a0, .inr (1, [.ref q5, .int 0, .int 0])), (q5, .inr (0, [.ref qw9, .ref qo9, .int 0])), (qw9, .inl (cI, 48, .inl (fun _ => 0))), (qo9, .inl (cI, 48, .inl (fun _ => 0)))] H := by exact hP
  have hDe : va_D A [(a0, .inr (1, [.ref q5, .int 0, .int 0])), (q5, .inr (0, [.ref qw9, .ref qo9, .int 0])), (qw9, .inl (cI, 48, .inl (fun _ => 0))), (qo9, .inl (cI, 48, .inl (fun _ => 0)))] := sp_Dc hD rfl
  refine W.widen (k := 3) (n := 99) (by omega) (by omega) ?_
  exact W.vret hx hb hr (fun t ht _ => ⟨⟨(q5, qw9, qo9), rfl, trivial, by rw [ht]; exact hPe, hDe⟩, hS.F ht⟩) hS.2.2 dA_init_15
