-- Program: contracts with loops (by wip/gen/prog2.py)
set_option maxHeartbeats 4000000 in
set_option maxRecDepth 100000 in
theorem kP_setByte (l : Launch) (dC : Nat → ClassId) (dI : Nat → Nat → Nat) (cI cQ : ClassId) (h0 w0 o0 : Nat) (n : Int32) (ws os : Nat → Int32) (k b v : Int32) (sz : Nat)  : Met l yP_setByte (.code yP_setByte cP_setByte 5 none :: wA) ({ frames := 1, cells := 0, slots := 0, locals := 21 }) (sp_P (dC, dI) (kT cI cQ) [.ref h0, .int k, .int b, .int v] [(h0, .inr (0, [.ref w0, .ref o0, .int n])), (w0, .inl (cI, 48, .inl ws)), (o0, .inl (cI, 48, .inl os))] sz) (sp_QWv (dC, dI) [(h0, .inr (0, [.ref w0, .ref o0, .int n])), (w0, .inl (cI, 48, .inl (pg_sbW ws n k b v))), (o0, .inl (cI, 48, .inl os))] (va_A [(h0, .inr (0, [.ref w0, .ref o0, .int n])), (w0, .inl (cI, 48, .inl ws)), (o0, .inl (cI, 48, .inl os))] sz)) 0 0 (va_A [(h0, .inr (0, [.ref w0, .ref o0, .int n])), (w0, .inl (cI, 48, .inl ws)), (o0, .inl (cI, 48, .inl os))] sz) := by
  refine Met.ofW (cc := cP_setByte) (maxL := 5) (ret := none) (by decide) rfl ?_
  intro p e s m args below meth c s₁ B hml hv
  obtain ⟨rfl, hsz, hP, hK, hD0, hG⟩ := hv
  have hx := B.exec
  have hb := B.bytes
  have hr := B.returns
  have hA := sp_hA (atoms_spec (ws := (.code yP_setByte cP_setByte 5 none :: wA)) B.pre)
  have hown : s.vm.findClass rP = some m.cls := findClass_of_methodNamed B.named
  have hlocks := B.notSynchronized
  subst hsz
  have hD := hD0.self (sz := s.heap.size)
  generalize hAe : va_A [(h0, .inr (0, [.ref w0, .ref o0, .int n])), (w0, .inl (cI, 48, .inl ws)), (o0, .inl (cI, 48, .inl os))] s.heap.size = A at hD ⊢
  have hF : ∀ q : Nat, s.heap.size ≤ q → A q := fun q h => by rw [← hAe]; exact Or.inr h
  have hS : va_S A s.heap s.heap [] := va_S.rf
  have hl := lv_entry ([.ref h0, .int k, .int b, .int v]) (n := 5) (Nat.le_of_ble_eq_true rfl)
  rw [lg_entry_eq]
  generalize (lg_sl ([.ref h0, .int k, .int b, .int v]) ++ List.replicate (5 - (lg_sl ([.ref h0, .int k, .int b, .int v])).length) Slot.unset).toArray = ls at hl ⊢
  have hl : lv_has ls 5 [(0, .ref h0), (1, .int k), (2, .int b), (3, .int v)] := hl
  refine lv_aload_n hx hb dP_setByte_0 rfl (lv_at hl 0 rfl) ?_
  refine lv_iload_n hx hb dP_setByte_1 rfl (lv_at hl 1 rfl) ?_
  refine va_calli (va_runV (As := [.int k]) (rest := []) ⟨hx, hb, hml, hown, hA⟩ (kP_has l dC dI cI cQ h0 w0 o0 n k) (cwV 1 hA (gd_V wi_325 wi_304 wi_305 wi_3 wi_306) rfl rfl rfl (by decide +kernel) ⟨Nat.le_of_ble_eq_true rfl, Nat.le_of_ble_eq_true rfl⟩) ⟨sp_Rb, va_recv hK hP (ci := 0) (q0 := 0) rfl rfl, sp_Ro (hP.sub [0] rfl) hK hG⟩ rfl rfl hl.1 rfl (lv_room (Nat.le_of_ble_eq_true rfl)) dP_setByte_2 ⟨Nat.le_of_ble_eq_true rfl, Nat.le_of_ble_eq_true rfl⟩) hS (fun _ _ h => h.elim) (fun _ h => h.elim) (fun r_2 u_2 t H locs ht hvm hw hB hz1 hk1 hS => ?_)
  rw [hw]
  have hP := sp_kp hP hk1
  refine lv_if_eq (tgt := 46) hx hb dP_setByte_5 (by decide) (fun c_5 => ?_) (fun c_5 => ?_)
  · have hPe : va_P (dC, dI) vwCl [(h0, .inr (0, [.ref w0, .ref o0, .int n])), (w0, .inl (cI, 48, .inl (pg_sbW ws n k b v))), (o0, .inl (cI, 48, .inl os))] H := by first | (simpa [pg_sbW, c_5] using hP) | (rw [pg_sbW, if_neg c_5]; exact hP)
    have hDe : va_D A [(h0, .inr (0, [.ref w0, .ref o0, .int n])), (w0, .inl (cI, 48, .inl (pg_sbW ws n k b v))), (o0, .inl (cI, 48, .inl os))] := sp_Dc hD rfl
    exact W.vret hx hb hr (sp_eWv hPe hDe hS) hS.2.2 dP_setByte_46
  · refine lv_aload_n hx hb dP_setByte_8 rfl (lv_at hl 0 rfl) ?_
    refine va_get (D := (dC, dI)) (ci := 0) (C := rP) (T := tP) (N := 3) hx hb hA inP hown hK hP 0 rfl rfl 0 (by decide) (hA _ wi_32) (fun _ h9 => h9) rfl dP_setByte_9 ?_
    refine lv_iload_n hx hb dP_setByte_12 rfl (lv_at hl 1 rfl) ?_
    refine va_iald hx hb hK hP 1 0 rfl rfl (pg_has_in c_5) dP_setByte_13 ?_
    refine lv_sipush (v := 255) hx hb dP_setByte_14 (by decide) ?_
    refine lv_iload_n hx hb dP_setByte_17 rfl (lv_at hl 2 rfl) ?_
    refine va_calli (va_runS (As := [.int b]) (rest := [.int 255, .int (ws (Int32.toNatClampNeg k))]) ⟨hx, hb, hml, hown, hA⟩ (kP_shift l dC dI cI cQ b) (cwS 1 hA (gd_S wi_395 wi_396 wi_3 wi_397) rfl rfl rfl (by decide +kernel) ⟨Nat.le_of_ble_eq_true rfl, Nat.le_of_ble_eq_true rfl⟩) ⟨sp_Rb, sp_Ro (hP.sub [] rfl) hK hG⟩ rfl rfl hl.1 rfl (lv_room (Nat.le_of_ble_eq_true rfl)) dP_setByte_18 ⟨Nat.le_of_ble_eq_true rfl, Nat.le_of_ble_eq_true rfl⟩) hS (fun _ _ h => h.elim) (fun _ h => h.elim) (fun r_18 u_18 t H locs ht hvm hw hB hz1 hk1 hS => ?_)
    rw [hw]
    have hP := sp_kp hP hk1
    refine lv_ishl hx hb dP_setByte_21 ?_
    refine lv_iconst (v := (-1)) hx hb dP_setByte_22 (by decide) ?_
    refine lv_ixor hx hb dP_setByte_23 ?_
    refine lv_iand hx hb dP_setByte_24 ?_
    refine lv_istore (lv' := [(4, .int ((ws (Int32.toNatClampNeg k)) &&& ((255 <<< ((pg_shift b) &&& 31)) ^^^ (-1)))), (0, .ref h0), (1, .int k), (2, .int b), (3, .int v)]) hx hb dP_setByte_25 hl (by decide) rfl (fun ls hl => ?_)
    refine lv_aload_n hx hb dP_setByte_27 rfl (lv_at hl 1 rfl) ?_
    refine va_get (D := (dC, dI)) (ci := 0) (C := rP) (T := tP) (N := 3) hx hb hA inP hown hK hP 0 rfl rfl 0 (by decide) (hA _ wi_32) (fun _ h9 => h9) rfl dP_setByte_28 ?_
    refine lv_iload_n hx hb dP_setByte_31 rfl (lv_at hl 2 rfl) ?_
    refine lv_iload hx hb dP_setByte_32 (lv_at hl 0 rfl) ?_
    refine lv_iload_n hx hb dP_setByte_34 rfl (lv_at hl 4 rfl) ?_
    refine lv_sipush (v := 255) hx hb dP_setByte_35 (by decide) ?_
    refine lv_iand hx hb dP_setByte_38 ?_
    refine lv_iload_n hx hb dP_setByte_39 rfl (lv_at hl 3 rfl) ?_
    refine va_calli (va_runS (As := [.int b]) (rest := [.int (v &&& 255), .int ((ws (Int32.toNatClampNeg k)) &&& ((255 <<< ((pg_shift b) &&& 31)) ^^^ (-1))), .int k, .ref w0]) ⟨hx, hb, hml, hown, hA⟩ (kP_shift l dC dI cI cQ b) (cwS 1 hA (gd_S wi_395 wi_396 wi_3 wi_397) rfl rfl rfl (by decide +kernel) ⟨Nat.le_of_ble_eq_true rfl, Nat.le_of_ble_eq_true rfl⟩) ⟨sp_Rb, sp_Ro (hP.sub [] rfl) hK hG⟩ rfl rfl hl.1 rfl (lv_room (Nat.le_of_ble_eq_true rfl)) dP_setByte_40 ⟨Nat.le_of_ble_eq_true rfl, Nat.le_of_ble_eq_true rfl⟩) hS (fun _ _ h => h.elim) (fun _ h => h.elim) (fun r_40 u_40 t H locs ht hvm hw hB hz1 hk1 hS => ?_)
    rw [hw]
    have hP := sp_kp hP hk1
    refine lv_ishl hx hb dP_setByte_43 ?_
    refine lv_ior hx hb dP_setByte_44 ?_
    refine va_iast hx hb hK hP hD hS 1 0 rfl rfl (pg_has_in c_5) dP_setByte_45 (fun H locs hP hD hS => ?_)
    have hP : va_P (dC, dI) vwCl [(h0, .inr (0, [.ref w0, .ref o0, .int n])), (w0, .inl (cI, 48, .inl (upd ws (Int32.toNatClampNeg k) (((ws (Int32.toNatClampNeg k)) &&& ((255 <<< ((pg_shift b) &&& 31)) ^^^ (-1))) ||| ((v &&& 255) <<< ((pg_shift b) &&& 31)))))), (o0, .inl (cI, 48, .inl os))] H := hP
    have hD : va_D A [(h0, .inr (0, [.ref w0, .ref o0, .int n])), (w0, .inl (cI, 48, .inl (upd ws (Int32.toNatClampNeg k) (((ws (Int32.toNatClampNeg k)) &&& ((255 <<< ((pg_shift b) &&& 31)) ^^^ (-1))) ||| ((v &&& 255) <<< ((pg_shift b) &&& 31)))))), (o0, .inl (cI, 48, .inl os))] := hD
    have hPe : va_P (dC, dI) vwCl [(h0, .inr (0, [.ref w0, .ref o0, .int n])), (w0, .inl (cI, 48, .inl (pg_sbW ws n k b v))), (o0, .inl (cI, 48, .inl os))] H := by first | (simpa [pg_sbW, c_5] using hP) | (rw [pg_sbW, if_neg c_5]; exact hP)
    have hDe : va_D A [(h0, .inr (0, [.ref w0, .ref o0, .int n])), (w0, .inl (cI, 48, .inl (pg_sbW ws n k b v))), (o0, .inl (cI, 48, .inl os))] := sp_Dc hD rfl
    exact W.vret hx hb hr (sp_eWv hPe hDe hS) hS.2.2 dP_setByte_46
set_option maxHeartbeats 4000000 in
set_option maxRecDepth 100000 in
theorem kP_copy (l : Launch) (dC : Nat → ClassId) (dI : Nat → Nat → Nat) (cI cQ : ClassId) (h0 w0 o0 : Nat) (n : Int32) (ws os : Nat → Int32) (g0 gw go : Nat) (n' : Int32) (ws' os' : Nat → Int32) (sz : Nat)  : Met l yP_copy (.code yP_copy cP_copy 4 none :: wA) ({ frames := 1, cells := 0, slots := 0, locals := 13 }) (sp_P (dC, dI) (kT cI cQ) [.ref h0, .ref g0] [(h0, .inr (0, [.ref w0, .ref o0, .int n])), (w0, .inl (cI, 48, .inl ws)), (o0, .inl (cI, 48, .inl os)), (g0, .inr (0, [.ref gw, .ref go, .int n'])), (gw, .inl (cI, 48, .inl ws')), (go, .inl (cI, 48, .inl os'))] sz) (sp_QWv (dC, dI) [(h0, .inr (0, [.ref w0, .ref o0, .int (pg_cpN n')])), (w0, .inl (cI, 48, .inl (pg_cp ws' ws (pg_cpN n').toNatClampNeg))), (o0, .inl (cI, 48, .inl (pg_cp os' os (pg_cpN n').toNatClampNeg))), (g0, .inr (0, [.ref gw, .ref go, .int n'])), (gw, .inl (cI, 48, .inl ws')), (go, .inl (cI, 48, .inl os'))] (va_A [(h0, .inr (0, [.ref w0, .ref o0, .int n])), (w0, .inl (cI, 48, .inl ws)), (o0, .inl (cI, 48, .inl os)), (g0, .inr (0, [.ref gw, .ref go, .int n'])), (gw, .inl (cI, 48, .inl ws')), (go, .inl (cI, 48, .inl os'))] sz)) 0 0 (va_A [(h0, .inr (0, [.ref w0, .ref o0, .int n])), (w0, .inl (cI, 48, .inl ws)), (o0, .inl (cI, 48, .inl os)), (g0, .inr (0, [.ref gw, .ref go, .int n'])), (gw, .inl (cI, 48, .inl ws')), (go, .inl (cI, 48, .inl os'))] sz) := by
  refine Met.ofW (cc := cP_copy) (maxL := 4) (ret := none) (by decide) rfl ?_
  intro p e s m args below meth c s₁ B hml hv
  obtain ⟨rfl, hsz, hP, hK, hD0, hG⟩ := hv
  have hx := B.exec
  have hb := B.bytes
  have hr := B.returns
  have hA := sp_hA (atoms_spec (ws := (.code yP_copy cP_copy 4 none :: wA)) B.pre)
  have hown : s.vm.findClass rP = some m.cls := findClass_of_methodNamed B.named
  have hlocks := B.notSynchronized
  subst hsz
  have hD := hD0.self (sz := s.heap.size)
  generalize hAe : va_A [(h0, .inr (0, [.ref w0, .ref o0, .int n])), (w0, .inl (cI, 48, .inl ws)), (o0, .inl (cI, 48, .inl os)), (g0, .inr (0, [.ref gw, .ref go, .int n'])), (gw, .inl (cI, 48, .inl ws')), (go, .inl (cI, 48, .inl os'))] s.heap.size = A at hD ⊢
  have hF : ∀ q : Nat, s.heap.size ≤ q → A q := fun q h => by rw [← hAe]; exact Or.inr h
  have hS : va_S A s.heap s.heap [] := va_S.rf
  have hl := lv_entry ([.ref h0, .ref g0]) (n := 4) (Nat.le_of_ble_eq_true rfl)
  rw [lg_entry_eq]
  generalize (lg_sl ([.ref h0, .ref g0]) ++ List.replicate (4 - (lg_sl ([.ref h0, .ref g0])).length) Slot.unset).toArray = ls at hl ⊢
  have hl : lv_has ls 4 [(0, .ref h0), (1, .ref g0)] := hl
  refine lv_aload_n hx hb dP_copy_0 rfl (lv_at hl 1 rfl) ?_
  refine va_get (D := (dC, dI)) (ci := 0) (C := rP) (T := tP) (N := 3) hx hb hA inP hown hK hP 3 rfl rfl 2 (by decide) (hA _ wi_34) (fun _ h9 => h9) rfl dP_copy_1 ?_
  refine lv_bipush (v := 48) hx hb dP_copy_4 (by decide) ?_
  refine va_mmin hx hb (by rw [hml]; exact hl.1.symm) hown (hA _ wi_277) (hA _ wi_278) (hA _ wi_2) (hA _ wi_279) (Nat.le_of_ble_eq_true rfl) (Nat.le_of_ble_eq_true rfl) (Nat.zero_le _) (Nat.zero_le _) dP_copy_6 ?_
  refine lv_istore_n (lv' := [(2, .int (if 48 < n' then 48 else n')), (0, .ref h0), (1, .ref g0)]) hx hb dP_copy_9 rfl hl (by decide) rfl (fun ls hl => ?_)
  refine lv_iconst (v := 0) hx hb dP_copy_10 (by decide) ?_
  refine lv_istore_n (lv' := [(3, .int 0), (2, .int (if 48 < n' then 48 else n')), (0, .ref h0), (1, .ref g0)]) hx hb dP_copy_11 rfl hl (by decide) rfl (fun ls hl => ?_)
  have loop : ∀ (n9 : Nat) (i : Nat) (H : Heap) (locs : List Loc) (ls : Array Slot), (pg_cpN n').toNatClampNeg - i < n9 → (i ≤ (pg_cpN n').toNatClampNeg) → va_P (dC, dI) vwCl [(h0, .inr (0, [.ref w0, .ref o0, .int n])), (w0, .inl (cI, 48, .inl (pg_cp ws' ws i))), (o0, .inl (cI, 48, .inl (pg_cp os' os i))), (g0, .inr (0, [.ref gw, .ref go, .int n'])), (gw, .inl (cI, 48, .inl ws')), (go, .inl (cI, 48, .inl os'))] H → va_D A [(h0, .inr (0, [.ref w0, .ref o0, .int n])), (w0, .inl (cI, 48, .inl (pg_cp ws' ws i))), (o0, .inl (cI, 48, .inl (pg_cp os' os i))), (g0, .inr (0, [.ref gw, .ref go, .int n'])), (gw, .inl (cI, 48, .inl ws')), (go, .inl (cI, 48, .inl os'))] → va_S A s.heap H locs → lv_has ls 4 [(3, .int (nI i)), (2, .int (pg_cpN n')), (0, .ref h0), (1, .ref g0)] → W p l e (headSpec (.code yP_copy cP_copy 4 none :: wA) ({ frames := 1, cells := 0, slots := 0, locals := 13 })).room s m ([.ref h0, .ref g0]).toArray below meth c H locs 0 0 (MQ below (sp_QWv (dC, dI) [(h0, .inr (0, [.ref w0, .ref o0, .int (pg_cpN n')])), (w0, .inl (cI, 48, .inl (pg_cp ws' ws (pg_cpN n').toNatClampNeg))), (o0, .inl (cI, 48, .inl (pg_cp os' os (pg_cpN n').toNatClampNeg))), (g0, .inr (0, [.ref gw, .ref go, .int n'])), (gw, .inl (cI, 48, .inl ws')), (go, .inl (cI, 48, .inl os'))] A) ([.ref h0, .ref g0]).toArray s 0 0 A) (F0 m 12 ls []) := by
    intro n9
    induction n9 with
    | zero => intro i H locs ls hm9 hiM hP hD hS hl; exact absurd hm9 (Nat.not_lt_zero _)
    | succ n9 ih =>
      intro i H locs ls hm9 hiM hP hD hS hl
      have h48 := pg_cpN_le n'
      refine lv_iload_n hx hb dP_copy_12 rfl (lv_at hl 0 rfl) ?_
      refine lv_iload_n hx hb dP_copy_13 rfl (lv_at hl 1 rfl) ?_
      refine lv_icmp_ge (tgt := 47) hx hb dP_copy_14 (by decide) (fun c_14 => ?_) (fun c_14 => ?_)
      · refine lv_aload_n hx hb dP_copy_47 rfl (lv_at hl 2 rfl) ?_
        refine lv_iload_n hx hb dP_copy_48 rfl (lv_at hl 1 rfl) ?_
        refine va_put (D := (dC, dI)) (ci := 0) (v := .int (pg_cpN n')) (ty := .int) (C := rP) (T := tP) (N := 3) hx hb hA inP tyP tyP_ok nmP hown hK hP hD hS 0 rfl rfl 2 (by decide) (hA _ wi_34) (fun _ h9 => h9) rfl (by decide +kernel) rfl rfl (Nat.le_of_ble_eq_true rfl) dP_copy_49 (fun H locs hP hD hS => ?_)
        have hP : va_P (dC, dI) vwCl [(h0, .inr (0, [.ref w0, .ref o0, .int (pg_cpN n')])), (w0, .inl (cI, 48, .inl (pg_cp ws' ws i))), (o0, .inl (cI, 48, .inl (pg_cp os' os i))), (g0, .inr (0, [.ref gw, .ref go, .int n'])), (gw, .inl (cI, 48, .inl ws')), (go, .inl (cI, 48, .inl os'))] H := hP
        have hD : va_D A [(h0, .inr (0, [.ref w0, .ref o0, .int (pg_cpN n')])), (w0, .inl (cI, 48, .inl (pg_cp ws' ws i))), (o0, .inl (cI, 48, .inl (pg_cp os' os i))), (g0, .inr (0, [.ref gw, .ref go, .int n'])), (gw, .inl (cI, 48, .inl ws')), (go, .inl (cI, 48, .inl os'))] := hD
        have hPe : va_P (dC, dI) vwCl [(h0, .inr (0, [.ref w0, .ref o0, .int (pg_cpN n')])), (w0, .inl (cI, 48, .inl (pg_cp ws' ws (pg_cpN n').toNatClampNeg))), (o0, .inl (cI, 48, .inl (pg_cp os' os (pg_cpN n').toNatClampNeg))), (g0, .inr (0, [.ref gw, .ref go, .int n'])), (gw, .inl (cI, 48, .inl ws')), (go, .inl (cI, 48, .inl os'))] H := by have e9 : i = (pg_cpN n').toNatClampNeg := Nat.le_antisymm hiM (cl_le (by have := pg_cpN_le n'; omega) c_14); subst e9; exact hP
        have hDe : va_D A [(h0, .inr (0, [.ref w0, .ref o0, .int (pg_cpN n')])), (w0, .inl (cI, 48, .inl (pg_cp ws' ws (pg_cpN n').toNatClampNeg))), (o0, .inl (cI, 48, .inl (pg_cp os' os (pg_cpN n').toNatClampNeg))), (g0, .inr (0, [.ref gw, .ref go, .int n'])), (gw, .inl (cI, 48, .inl ws')), (go, .inl (cI, 48, .inl os'))] := sp_Dc hD rfl
        exact W.vret hx hb hr (sp_eWv hPe hDe hS) hS.2.2 dP_copy_52
      · refine lv_aload_n hx hb dP_copy_17 rfl (lv_at hl 2 rfl) ?_
        refine va_get (D := (dC, dI)) (ci := 0) (C := rP) (T := tP) (N := 3) hx hb hA inP hown hK hP 0 rfl rfl 0 (by decide) (hA _ wi_32) (fun _ h9 => h9) rfl dP_copy_18 ?_
        refine lv_iload_n hx hb dP_copy_21 rfl (lv_at hl 0 rfl) ?_
        refine lv_aload_n hx hb dP_copy_22 rfl (lv_at hl 3 rfl) ?_
        refine va_get (D := (dC, dI)) (ci := 0) (C := rP) (T := tP) (N := 3) hx hb hA inP hown hK hP 3 rfl rfl 0 (by decide) (hA _ wi_32) (fun _ h9 => h9) rfl dP_copy_23 ?_
        refine lv_iload_n hx hb dP_copy_26 rfl (lv_at hl 0 rfl) ?_
        refine va_iald hx hb hK hP 4 0 rfl rfl (vp_in_nI (show i < 48 by have := cl_lt (show i < 2 ^ 31 by omega) c_14; omega) (by decide)) dP_copy_27 ?_
        refine va_iast hx hb hK hP hD hS 1 0 rfl rfl (vp_in_nI (show i < 48 by have := cl_lt (show i < 2 ^ 31 by omega) c_14; omega) (by decide)) dP_copy_28 (fun H locs hP hD hS => ?_)
        have hP : va_P (dC, dI) vwCl [(h0, .inr (0, [.ref w0, .ref o0, .int n])), (w0, .inl (cI, 48, .inl (upd (pg_cp ws' ws i) (Int32.toNatClampNeg (nI i)) (ws' (Int32.toNatClampNeg (nI i)))))), (o0, .inl (cI, 48, .inl (pg_cp os' os i))), (g0, .inr (0, [.ref gw, .ref go, .int n'])), (gw, .inl (cI, 48, .inl ws')), (go, .inl (cI, 48, .inl os'))] H := hP
        have hD : va_D A [(h0, .inr (0, [.ref w0, .ref o0, .int n])), (w0, .inl (cI, 48, .inl (upd (pg_cp ws' ws i) (Int32.toNatClampNeg (nI i)) (ws' (Int32.toNatClampNeg (nI i)))))), (o0, .inl (cI, 48, .inl (pg_cp os' os i))), (g0, .inr (0, [.ref gw, .ref go, .int n'])), (gw, .inl (cI, 48, .inl ws')), (go, .inl (cI, 48, .inl os'))] := hD
        refine lv_aload_n hx hb dP_copy_29 rfl (lv_at hl 2 rfl) ?_
        refine va_get (D := (dC, dI)) (ci := 0) (C := rP) (T := tP) (N := 3) hx hb hA inP hown hK hP 0 rfl rfl 1 (by decide) (hA _ wi_33) (fun _ h9 => h9) rfl dP_copy_30 ?_
        refine lv_iload_n hx hb dP_copy_33 rfl (lv_at hl 0 rfl) ?_
        refine lv_aload_n hx hb dP_copy_34 rfl (lv_at hl 3 rfl) ?_
        refine va_get (D := (dC, dI)) (ci := 0) (C := rP) (T := tP) (N := 3) hx hb hA inP hown hK hP 3 rfl rfl 1 (by decide) (hA _ wi_33) (fun _ h9 => h9) rfl dP_copy_35 ?_
        refine lv_iload_n hx hb dP_copy_38 rfl (lv_at hl 0 rfl) ?_
        refine va_iald hx hb hK hP 5 0 rfl rfl (vp_in_nI (show i < 48 by have := cl_lt (show i < 2 ^ 31 by omega) c_14; omega) (by decide)) dP_copy_39 ?_
        refine va_iast hx hb hK hP hD hS 2 0 rfl rfl (vp_in_nI (show i < 48 by have := cl_lt (show i < 2 ^ 31 by omega) c_14; omega) (by decide)) dP_copy_40 (fun H locs hP hD hS => ?_)
        have hP : va_P (dC, dI) vwCl [(h0, .inr (0, [.ref w0, .ref o0, .int n])), (w0, .inl (cI, 48, .inl (upd (pg_cp ws' ws i) (Int32.toNatClampNeg (nI i)) (ws' (Int32.toNatClampNeg (nI i)))))), (o0, .inl (cI, 48, .inl (upd (pg_cp os' os i) (Int32.toNatClampNeg (nI i)) (os' (Int32.toNatClampNeg (nI i)))))), (g0, .inr (0, [.ref gw, .ref go, .int n'])), (gw, .inl (cI, 48, .inl ws')), (go, .inl (cI, 48, .inl os'))] H := hP
        have hD : va_D A [(h0, .inr (0, [.ref w0, .ref o0, .int n])), (w0, .inl (cI, 48, .inl (upd (pg_cp ws' ws i) (Int32.toNatClampNeg (nI i)) (ws' (Int32.toNatClampNeg (nI i)))))), (o0, .inl (cI, 48, .inl (upd (pg_cp os' os i) (Int32.toNatClampNeg (nI i)) (os' (Int32.toNatClampNeg (nI i)))))), (g0, .inr (0, [.ref gw, .ref go, .int n'])), (gw, .inl (cI, 48, .inl ws')), (go, .inl (cI, 48, .inl os'))] := hD
        refine lv_iinc (v := ((nI i) + 1)) (lv' := [(3, .int ((nI i) + 1)), (2, .int (pg_cpN n')), (0, .ref h0), (1, .ref g0)]) hx hb dP_copy_41 hl (k := 0) rfl rfl (by decide) rfl (fun ls hl => ?_)
        refine lv_goto (tgt := 12) hx hb dP_copy_44 (by decide) ?_
        have hi : i < (pg_cpN n').toNatClampNeg := cl_lt (by omega) c_14
        have e1 : (nI i).toNatClampNeg = i := nI_clamp (by omega)
        rw [e1, pg_cps, pg_cps] at hP
        refine ih (i + 1) H locs ls (by omega) (by omega) hP (sp_Dc hD rfl) hS ?_
        have h9 := lv_sub hl [0, 1, 2, 3] rfl
        rw [nI_1] at h9
        exact h9
  exact loop (((pg_cpN n').toNatClampNeg - 0) + 1) 0 _ _ ls (Nat.lt_succ_self _) (Nat.zero_le _) (by rw [pg_cp0, pg_cp0]; exact hP) (sp_Dc hD rfl) hS (lv_sub hl [0, 1, 2, 3] rfl)
set_option maxHeartbeats 4000000 in
set_option maxRecDepth 100000 in
theorem kP_mark (l : Launch) (dC : Nat → ClassId) (dI : Nat → Nat → Nat) (cI cQ : ClassId) (h0 w0 o0 : Nat) (n : Int32) (ws : Nat → Int32)  : Met l yP_mark (.code yP_mark cP_mark 3 (some .int) :: wA) ({ frames := 0, cells := 0, slots := 0, locals := 0 }) (sp_R (dC, dI) (kT cI cQ) [.ref h0] [(h0, .inr (0, [.ref w0, .ref o0, .int n])), (w0, .inl (cI, 48, .inl ws))]) (sp_QRi (pg_mark ws n)) 0 0 (fun _ => False) := by
  refine Met.ofW (cc := cP_mark) (maxL := 3) (ret := (some .int)) (by decide) rfl ?_
  intro p e s m args below meth c s₁ B hml hv
  obtain ⟨rfl, hP, hK, hG⟩ := hv
  have hx := B.exec
  have hb := B.bytes
  have hr := B.returns
  have hA := sp_hA (atoms_spec (ws := (.code yP_mark cP_mark 3 (some .int) :: wA)) B.pre)
  have hown : s.vm.findClass rP = some m.cls := findClass_of_methodNamed B.named
  have hlocks := B.notSynchronized
  have hS : va_S (fun _ => False) s.heap s.heap [] := va_S.rf
  have hl := lv_entry ([.ref h0]) (n := 3) (Nat.le_of_ble_eq_true rfl)
  rw [lg_entry_eq]
  generalize (lg_sl ([.ref h0]) ++ List.replicate (3 - (lg_sl ([.ref h0])).length) Slot.unset).toArray = ls at hl ⊢
  have hl : lv_has ls 3 [(0, .ref h0)] := hl
  refine lv_aload_n hx hb dP_mark_0 rfl (lv_at hl 0 rfl) ?_
  refine va_get (D := (dC, dI)) (ci := 0) (C := rP) (T := tP) (N := 3) hx hb hA inP hown hK hP 0 rfl rfl 2 (by decide) (hA _ wi_34) (fun _ h9 => h9) rfl dP_mark_1 ?_
  refine lv_istore_n (lv' := [(1, .int n), (0, .ref h0)]) hx hb dP_mark_4 rfl hl (by decide) rfl (fun ls hl => ?_)
  refine lv_iconst (v := 0) hx hb dP_mark_5 (by decide) ?_
  refine lv_istore_n (lv' := [(2, .int 0), (1, .int n), (0, .ref h0)]) hx hb dP_mark_6 rfl hl (by decide) rfl (fun ls hl => ?_)
  have loop : ∀ (n9 : Nat) (i : Nat) (H : Heap) (locs : List Loc) (ls : Array Slot), pg_lim n - i < n9 → (i ≤ pg_lim n) → va_P (dC, dI) vwCl [(h0, .inr (0, [.ref w0, .ref o0, .int n])), (w0, .inl (cI, 48, .inl ws))] H → va_S (fun _ => False) s.heap H locs → lv_has ls 3 [(2, .int (nI i)), (1, .int (pg_mk ws n i)), (0, .ref h0)] → W p l e (headSpec (.code yP_mark cP_mark 3 (some .int) :: wA) ({ frames := 0, cells := 0, slots := 0, locals := 0 })).room s m ([.ref h0]).toArray below meth c H locs 0 0 (MQ below (sp_QRi (pg_mark ws n)) ([.ref h0]).toArray s 0 0 (fun _ => False)) (F0 m 7 ls []) := by
    intro n9
    induction n9 with
    | zero => intro i H locs ls hm9 hiM hP hS hl; exact absurd hm9 (Nat.not_lt_zero _)
    | succ n9 ih =>
      intro i H locs ls hm9 hiM hP hS hl
      have h48 := pg_lim_48 n
      refine lv_iload_n hx hb dP_mark_7 rfl (lv_at hl 0 rfl) ?_
      refine lv_aload_n hx hb dP_mark_8 rfl (lv_at hl 2 rfl) ?_
      refine va_get (D := (dC, dI)) (ci := 0) (C := rP) (T := tP) (N := 3) hx hb hA inP hown hK hP 0 rfl rfl 2 (by decide) (hA _ wi_34) (fun _ h9 => h9) rfl dP_mark_9 ?_
      refine lv_icmp_ge (tgt := 39) hx hb dP_mark_12 (by decide) (fun c_12 => ?_) (fun c_12 => ?_)
      · refine lv_iload_n hx hb dP_mark_39 rfl (lv_at hl 1 rfl) ?_
        exact W.iret hx hb hr (sp_eRi (by rw [Nat.le_antisymm hiM (pg_lim_le1 (by have := pg_lim_48 n; omega) c_12)]; rfl) hS) hS.2.2 dP_mark_40
      · refine lv_iload_n hx hb dP_mark_15 rfl (lv_at hl 0 rfl) ?_
        refine lv_bipush (v := 48) hx hb dP_mark_16 (by decide) ?_
        refine lv_icmp_ge (tgt := 39) hx hb dP_mark_18 (by decide) (fun c_18 => ?_) (fun c_18 => ?_)
        · refine lv_iload_n hx hb dP_mark_39 rfl (lv_at hl 1 rfl) ?_
          exact W.iret hx hb hr (sp_eRi (by rw [Nat.le_antisymm hiM (pg_lim_le2 (by have := pg_lim_48 n; omega) c_18)]; rfl) hS) hS.2.2 dP_mark_40
        · refine lv_bipush (v := 31) hx hb dP_mark_21 (by decide) ?_
          refine lv_iload_n hx hb dP_mark_23 rfl (lv_at hl 1 rfl) ?_
          refine lv_imul hx hb dP_mark_24 ?_
          refine lv_aload_n hx hb dP_mark_25 rfl (lv_at hl 2 rfl) ?_
          refine va_get (D := (dC, dI)) (ci := 0) (C := rP) (T := tP) (N := 3) hx hb hA inP hown hK hP 0 rfl rfl 0 (by decide) (hA _ wi_32) (fun _ h9 => h9) rfl dP_mark_26 ?_
          refine lv_iload_n hx hb dP_mark_29 rfl (lv_at hl 0 rfl) ?_
          refine va_iald hx hb hK hP 1 0 rfl rfl (vp_in_nI (cl_48 (by have := pg_lim_48 n; omega) c_18) (by decide)) dP_mark_30 ?_
          refine lv_iadd hx hb dP_mark_31 ?_
          refine lv_istore_n (lv' := [(1, .int ((31 * (pg_mk ws n i)) + (ws (Int32.toNatClampNeg (nI i))))), (2, .int (nI i)), (0, .ref h0)]) hx hb dP_mark_32 rfl hl (by decide) rfl (fun ls hl => ?_)
          refine lv_iinc (v := ((nI i) + 1)) (lv' := [(2, .int ((nI i) + 1)), (1, .int ((31 * (pg_mk ws n i)) + (ws (Int32.toNatClampNeg (nI i))))), (0, .ref h0)]) hx hb dP_mark_33 hl (k := 1) rfl rfl (by decide) rfl (fun ls hl => ?_)
          refine lv_goto (tgt := 7) hx hb dP_mark_36 (by decide) ?_
          have e1 : (nI i).toNatClampNeg = i := nI_clamp (by omega)
          refine ih (i + 1) H locs ls (by have := pg_lim_lt (show i < 2 ^ 31 by omega) c_12 c_18; omega) (by have := pg_lim_lt (show i < 2 ^ 31 by omega) c_12 c_18; omega) hP hS ?_
          have h9 := lv_sub hl [0, 1, 2] rfl
          rw [nI_1, e1] at h9
          exact h9
  exact loop ((pg_lim n - 0) + 1) 0 _ _ ls (Nat.lt_succ_self _) (Nat.zero_le _) hP hS (lv_sub hl [0, 1, 2] rfl)
set_option maxHeartbeats 4000000 in
set_option maxRecDepth 100000 in
theorem kP_same (l : Launch) (dC : Nat → ClassId) (dI : Nat → Nat → Nat) (cI cQ : ClassId) (h0 w0 o0 : Nat) (n : Int32) (ws : Nat → Int32) (g0 gw go : Nat) (n' : Int32) (ws' : Nat → Int32)  : Met l yP_hasSameWords (.code yP_hasSameWords cP_hasSameWords 3 (some .boolean) :: wA) ({ frames := 0, cells := 0, slots := 0, locals := 0 }) (sp_R (dC, dI) (kT cI cQ) [.ref h0, .ref g0] [(h0, .inr (0, [.ref w0, .ref o0, .int n])), (w0, .inl (cI, 48, .inl ws)), (g0, .inr (0, [.ref gw, .ref go, .int n'])), (gw, .inl (cI, 48, .inl ws'))]) (sp_QRi (pg_same ws n ws' n')) 0 0 (fun _ => False) := by
  refine Met.ofW (cc := cP_hasSameWords) (maxL := 3) (ret := (some .boolean)) (by decide) rfl ?_
  intro p e s m args below meth c s₁ B hml hv
  obtain ⟨rfl, hP, hK, hG⟩ := hv
  have hx := B.exec
  have hb := B.bytes
  have hr := B.returns
  have hA := sp_hA (atoms_spec (ws := (.code yP_hasSameWords cP_hasSameWords 3 (some .boolean) :: wA)) B.pre)
  have hown : s.vm.findClass rP = some m.cls := findClass_of_methodNamed B.named
  have hlocks := B.notSynchronized
  have hS : va_S (fun _ => False) s.heap s.heap [] := va_S.rf
  have hl := lv_entry ([.ref h0, .ref g0]) (n := 3) (Nat.le_of_ble_eq_true rfl)
  rw [lg_entry_eq]
  generalize (lg_sl ([.ref h0, .ref g0]) ++ List.replicate (3 - (lg_sl ([.ref h0, .ref g0])).length) Slot.unset).toArray = ls at hl ⊢
  have hl : lv_has ls 3 [(0, .ref h0), (1, .ref g0)] := hl
  refine lv_aload_n hx hb dP_hasSameWords_0 rfl (lv_at hl 0 rfl) ?_
  refine va_get (D := (dC, dI)) (ci := 0) (C := rP) (T := tP) (N := 3) hx hb hA inP hown hK hP 0 rfl rfl 2 (by decide) (hA _ wi_34) (fun _ h9 => h9) rfl dP_hasSameWords_1 ?_
  refine lv_aload_n hx hb dP_hasSameWords_4 rfl (lv_at hl 1 rfl) ?_
  refine va_get (D := (dC, dI)) (ci := 0) (C := rP) (T := tP) (N := 3) hx hb hA inP hown hK hP 2 rfl rfl 2 (by decide) (hA _ wi_34) (fun _ h9 => h9) rfl dP_hasSameWords_5 ?_
  refine lv_icmp_eq (tgt := 13) hx hb dP_hasSameWords_8 (by decide) (fun c_8 => ?_) (fun c_8 => ?_)
  · refine lv_iconst (v := 0) hx hb dP_hasSameWords_13 (by decide) ?_
    refine lv_istore_n (lv' := [(2, .int 0), (0, .ref h0), (1, .ref g0)]) hx hb dP_hasSameWords_14 rfl hl (by decide) rfl (fun ls hl => ?_)
    have loop : ∀ (n9 : Nat) (i : Nat) (H : Heap) (locs : List Loc) (ls : Array Slot), pg_lim n - i < n9 → (i ≤ pg_lim n) → (∀ j, j < i → ws j = ws' j) → va_P (dC, dI) vwCl [(h0, .inr (0, [.ref w0, .ref o0, .int n])), (w0, .inl (cI, 48, .inl ws)), (g0, .inr (0, [.ref gw, .ref go, .int n'])), (gw, .inl (cI, 48, .inl ws'))] H → va_S (fun _ => False) s.heap H locs → lv_has ls 3 [(2, .int (nI i)), (0, .ref h0), (1, .ref g0)] → W p l e (headSpec (.code yP_hasSameWords cP_hasSameWords 3 (some .boolean) :: wA) ({ frames := 0, cells := 0, slots := 0, locals := 0 })).room s m ([.ref h0, .ref g0]).toArray below meth c H locs 0 0 (MQ below (sp_QRi (pg_same ws n ws' n')) ([.ref h0, .ref g0]).toArray s 0 0 (fun _ => False)) (F0 m 15 ls []) := by
      intro n9
      induction n9 with
      | zero => intro i H locs ls hm9 hiM hsm hP hS hl; exact absurd hm9 (Nat.not_lt_zero _)
      | succ n9 ih =>
        intro i H locs ls hm9 hiM hsm hP hS hl
        have h48 := pg_lim_48 n
        refine lv_iload_n hx hb dP_hasSameWords_15 rfl (lv_at hl 0 rfl) ?_
        refine lv_aload_n hx hb dP_hasSameWords_16 rfl (lv_at hl 1 rfl) ?_
        refine va_get (D := (dC, dI)) (ci := 0) (C := rP) (T := tP) (N := 3) hx hb hA inP hown hK hP 0 rfl rfl 2 (by decide) (hA _ wi_34) (fun _ h9 => h9) rfl dP_hasSameWords_17 ?_
        refine lv_icmp_ge (tgt := 52) hx hb dP_hasSameWords_20 (by decide) (fun c_20 => ?_) (fun c_20 => ?_)
        · refine lv_iconst (v := 1) hx hb dP_hasSameWords_52 (by decide) ?_
          exact W.zret hx hb hr rfl (sp_eRi (by rw [pg_same, if_pos]; exact ⟨c_8, fun j hj => hsm j (Nat.lt_of_lt_of_le hj (pg_lim_le1 (by have := pg_lim_48 n; omega) c_20))⟩) hS) hS.2.2 dP_hasSameWords_53
        · refine lv_iload_n hx hb dP_hasSameWords_23 rfl (lv_at hl 0 rfl) ?_
          refine lv_bipush (v := 48) hx hb dP_hasSameWords_24 (by decide) ?_
          refine lv_icmp_ge (tgt := 52) hx hb dP_hasSameWords_26 (by decide) (fun c_26 => ?_) (fun c_26 => ?_)
          · refine lv_iconst (v := 1) hx hb dP_hasSameWords_52 (by decide) ?_
            exact W.zret hx hb hr rfl (sp_eRi (by rw [pg_same, if_pos]; exact ⟨c_8, fun j hj => hsm j (Nat.lt_of_lt_of_le hj (pg_lim_le2 (by have := pg_lim_48 n; omega) c_26))⟩) hS) hS.2.2 dP_hasSameWords_53
          · refine lv_aload_n hx hb dP_hasSameWords_29 rfl (lv_at hl 1 rfl) ?_
            refine va_get (D := (dC, dI)) (ci := 0) (C := rP) (T := tP) (N := 3) hx hb hA inP hown hK hP 0 rfl rfl 0 (by decide) (hA _ wi_32) (fun _ h9 => h9) rfl dP_hasSameWords_30 ?_
            refine lv_iload_n hx hb dP_hasSameWords_33 rfl (lv_at hl 0 rfl) ?_
            refine va_iald hx hb hK hP 1 0 rfl rfl (vp_in_nI (cl_48 (by have := pg_lim_48 n; omega) c_26) (by decide)) dP_hasSameWords_34 ?_
            refine lv_aload_n hx hb dP_hasSameWords_35 rfl (lv_at hl 2 rfl) ?_
            refine va_get (D := (dC, dI)) (ci := 0) (C := rP) (T := tP) (N := 3) hx hb hA inP hown hK hP 2 rfl rfl 0 (by decide) (hA _ wi_32) (fun _ h9 => h9) rfl dP_hasSameWords_36 ?_
            refine lv_iload_n hx hb dP_hasSameWords_39 rfl (lv_at hl 0 rfl) ?_
            refine va_iald hx hb hK hP 3 0 rfl rfl (vp_in_nI (cl_48 (by have := pg_lim_48 n; omega) c_26) (by decide)) dP_hasSameWords_40 ?_
            refine lv_icmp_eq (tgt := 46) hx hb dP_hasSameWords_41 (by decide) (fun c_41 => ?_) (fun c_41 => ?_)
            · refine lv_iinc (v := ((nI i) + 1)) (lv' := [(2, .int ((nI i) + 1)), (0, .ref h0), (1, .ref g0)]) hx hb dP_hasSameWords_46 hl (k := 0) rfl rfl (by decide) rfl (fun ls hl => ?_)
              refine lv_goto (tgt := 15) hx hb dP_hasSameWords_49 (by decide) ?_
              have hi := pg_lim_lt (show i < 2 ^ 31 by have := pg_lim_48 n; omega) c_20 c_26
              have e1 : (nI i).toNatClampNeg = i := nI_clamp (by omega)
              rw [e1] at c_41
              refine ih (i + 1) H locs ls (by omega) (by omega) (lt_s hsm c_41) hP hS ?_
              have h9 := lv_sub hl [0, 1, 2] rfl
              rw [nI_1] at h9
              exact h9
            · refine lv_iconst (v := 0) hx hb dP_hasSameWords_44 (by decide) ?_
              exact W.zret hx hb hr rfl (sp_eRi (by rw [nI_clamp (by have := pg_lim_48 n; omega)] at c_41; rw [pg_same, if_neg]; exact fun q => c_41 (q.2 i (pg_lim_lt (by have := pg_lim_48 n; omega) c_20 c_26))) hS) hS.2.2 dP_hasSameWords_45
    exact loop ((pg_lim n - 0) + 1) 0 _ _ ls (Nat.lt_succ_self _) (Nat.zero_le _) lt_0 hP hS (lv_sub hl [0, 1, 2] rfl)
  · refine lv_iconst (v := 0) hx hb dP_hasSameWords_11 (by decide) ?_
    exact W.zret hx hb hr rfl (sp_eRi (by simp [pg_same, c_8]) hS) hS.2.2 dP_hasSameWords_12
set_option maxHeartbeats 4000000 in
set_option maxRecDepth 100000 in
theorem kP_leaveOut (l : Launch) (dC : Nat → ClassId) (dI : Nat → Nat → Nat) (cI cQ : ClassId) (h0 w0 o0 : Nat) (n : Int32) (ws os : Nat → Int32) (k many : Int32) (sz : Nat)  : Met l yP_leaveOut (.code yP_leaveOut cP_leaveOut 5 none :: wA) ({ frames := 1, cells := 0, slots := 0, locals := 21 }) (sp_P (dC, dI) (kT cI cQ) [.ref h0, .int k, .int many] [(h0, .inr (0, [.ref w0, .ref o0, .int n])), (w0, .inl (cI, 48, .inl ws)), (o0, .inl (cI, 48, .inl os))] sz) (sp_QWv (dC, dI) [(h0, .inr (0, [.ref w0, .ref o0, .int (pg_loN ws os n k many)])), (w0, .inl (cI, 48, .inl (pg_loW ws os n k many))), (o0, .inl (cI, 48, .inl (pg_loO ws os n k many)))] (va_A [(h0, .inr (0, [.ref w0, .ref o0, .int n])), (w0, .inl (cI, 48, .inl ws)), (o0, .inl (cI, 48, .inl os))] sz)) 0 0 (va_A [(h0, .inr (0, [.ref w0, .ref o0, .int n])), (w0, .inl (cI, 48, .inl ws)), (o0, .inl (cI, 48, .inl os))] sz) := by
  refine Met.ofW (cc := cP_leaveOut) (maxL := 5) (ret := none) (by decide) rfl ?_
  intro p e s m args below meth c s₁ B hml hv
  obtain ⟨rfl, hsz, hP, hK, hD0, hG⟩ := hv
  have hx := B.exec
  have hb := B.bytes
  have hr := B.returns
  have hA := sp_hA (atoms_spec (ws := (.code yP_leaveOut cP_leaveOut 5 none :: wA)) B.pre)
  have hown : s.vm.findClass rP = some m.cls := findClass_of_methodNamed B.named
  have hlocks := B.notSynchronized
  subst hsz
  have hD := hD0.self (sz := s.heap.size)
  generalize hAe : va_A [(h0, .inr (0, [.ref w0, .ref o0, .int n])), (w0, .inl (cI, 48, .inl ws)), (o0, .inl (cI, 48, .inl os))] s.heap.size = A at hD ⊢
  have hF : ∀ q : Nat, s.heap.size ≤ q → A q := fun q h => by rw [← hAe]; exact Or.inr h
  have hS : va_S A s.heap s.heap [] := va_S.rf
  have hl := lv_entry ([.ref h0, .int k, .int many]) (n := 5) (Nat.le_of_ble_eq_true rfl)
  rw [lg_entry_eq]
  generalize (lg_sl ([.ref h0, .int k, .int many]) ++ List.replicate (5 - (lg_sl ([.ref h0, .int k, .int many])).length) Slot.unset).toArray = ls at hl ⊢
  have hl : lv_has ls 5 [(0, .ref h0), (1, .int k), (2, .int many)] := hl
  refine lv_aload_n hx hb dP_leaveOut_0 rfl (lv_at hl 0 rfl) ?_
  refine lv_iload_n hx hb dP_leaveOut_1 rfl (lv_at hl 1 rfl) ?_
  refine va_calli (va_runV (As := [.int k]) (rest := []) ⟨hx, hb, hml, hown, hA⟩ (kP_has l dC dI cI cQ h0 w0 o0 n k) (cwV 1 hA (gd_V wi_325 wi_304 wi_305 wi_3 wi_306) rfl rfl rfl (by decide +kernel) ⟨Nat.le_of_ble_eq_true rfl, Nat.le_of_ble_eq_true rfl⟩) ⟨sp_Rb, va_recv hK hP (ci := 0) (q0 := 0) rfl rfl, sp_Ro (hP.sub [0] rfl) hK hG⟩ rfl rfl hl.1 rfl (lv_room (Nat.le_of_ble_eq_true rfl)) dP_leaveOut_2 ⟨Nat.le_of_ble_eq_true rfl, Nat.le_of_ble_eq_true rfl⟩) hS (fun _ _ h => h.elim) (fun _ h => h.elim) (fun r_2 u_2 t H locs ht hvm hw hB hz1 hk1 hS => ?_)
  rw [hw]
  have hP := sp_kp hP hk1
  refine lv_if_eq (tgt := 13) hx hb dP_leaveOut_5 (by decide) (fun c_5 => ?_) (fun c_5 => ?_)
  · have hPe : va_P (dC, dI) vwCl [(h0, .inr (0, [.ref w0, .ref o0, .int (pg_loN ws os n k many)])), (w0, .inl (cI, 48, .inl (pg_loW ws os n k many))), (o0, .inl (cI, 48, .inl (pg_loO ws os n k many)))] H := by simpa [pg_loN, pg_loW, pg_loO, c_5] using hP
    have hDe : va_D A [(h0, .inr (0, [.ref w0, .ref o0, .int (pg_loN ws os n k many)])), (w0, .inl (cI, 48, .inl (pg_loW ws os n k many))), (o0, .inl (cI, 48, .inl (pg_loO ws os n k many)))] := sp_Dc hD rfl
    exact W.vret hx hb hr (sp_eWv hPe hDe hS) hS.2.2 dP_leaveOut_13
  · refine lv_iload_n hx hb dP_leaveOut_8 rfl (lv_at hl 2 rfl) ?_
    refine lv_iconst (v := 1) hx hb dP_leaveOut_9 (by decide) ?_
    refine lv_icmp_ge (tgt := 14) hx hb dP_leaveOut_10 (by decide) (fun c_10 => ?_) (fun c_10 => ?_)
    · refine lv_iload_n hx hb dP_leaveOut_14 rfl (lv_at hl 1 rfl) ?_
      refine lv_istore_n (lv' := [(3, .int k), (0, .ref h0), (1, .int k), (2, .int many)]) hx hb dP_leaveOut_15 rfl hl (by decide) rfl (fun ls hl => ?_)
      refine lv_iload_n hx hb dP_leaveOut_16 rfl (lv_at hl 2 rfl) ?_
      refine lv_istore (lv' := [(4, .int k), (3, .int k), (0, .ref h0), (1, .int k), (2, .int many)]) hx hb dP_leaveOut_17 hl (by decide) rfl (fun ls hl => ?_)
      obtain ⟨a, ha48, han, hk⟩ := pg_has_nI c_5
      have hal : a < pg_lim n := by unfold pg_lim; omega
      have hl48 := pg_lim_48 n
      have loop : ∀ (n9 : Nat) (d : Nat) (H : Heap) (locs : List Loc) (ls : Array Slot), pg_lim n - (a + d) < n9 → (a + d ≤ pg_lim n) → va_P (dC, dI) vwCl [(h0, .inr (0, [.ref w0, .ref o0, .int n])), (w0, .inl (cI, 48, .inl ((pg_lo ws os a many d).2.1))), (o0, .inl (cI, 48, .inl ((pg_lo ws os a many d).2.2)))] H → va_D A [(h0, .inr (0, [.ref w0, .ref o0, .int n])), (w0, .inl (cI, 48, .inl ((pg_lo ws os a many d).2.1))), (o0, .inl (cI, 48, .inl ((pg_lo ws os a many d).2.2)))] → va_S A s.heap H locs → lv_has ls 5 [(4, .int (nI (a + d))), (3, .int (nI (pg_lo ws os a many d).1)), (0, .ref h0), (1, .int (nI a)), (2, .int many)] → W p l e (headSpec (.code yP_leaveOut cP_leaveOut 5 none :: wA) ({ frames := 1, cells := 0, slots := 0, locals := 21 })).room s m ([.ref h0, .int k, .int many]).toArray below meth c H locs 0 0 (MQ below (sp_QWv (dC, dI) [(h0, .inr (0, [.ref w0, .ref o0, .int (pg_loN ws os n k many)])), (w0, .inl (cI, 48, .inl (pg_loW ws os n k many))), (o0, .inl (cI, 48, .inl (pg_loO ws os n k many)))] A) ([.ref h0, .int k, .int many]).toArray s 0 0 A) (F0 m 19 ls []) := by
        intro n9
        induction n9 with
        | zero => intro d H locs ls hm9 hdM hP hD hS hl; exact absurd hm9 (Nat.not_lt_zero _)
        | succ n9 ih =>
          intro d H locs ls hm9 hdM hP hD hS hl
          refine lv_iload hx hb dP_leaveOut_19 (lv_at hl 0 rfl) ?_
          refine lv_aload_n hx hb dP_leaveOut_21 rfl (lv_at hl 2 rfl) ?_
          refine va_get (D := (dC, dI)) (ci := 0) (C := rP) (T := tP) (N := 3) hx hb hA inP hown hK hP 0 rfl rfl 2 (by decide) (hA _ wi_34) (fun _ h9 => h9) rfl dP_leaveOut_22 ?_
          refine lv_icmp_ge (tgt := 78) hx hb dP_leaveOut_25 (by decide) (fun c_25 => ?_) (fun c_25 => ?_)
          · refine lv_aload_n hx hb dP_leaveOut_78 rfl (lv_at hl 2 rfl) ?_
            refine lv_iload_n hx hb dP_leaveOut_79 rfl (lv_at hl 1 rfl) ?_
            refine va_put (D := (dC, dI)) (ci := 0) (v := .int (nI (pg_lo ws os a many d).1)) (ty := .int) (C := rP) (T := tP) (N := 3) hx hb hA inP tyP tyP_ok nmP hown hK hP hD hS 0 rfl rfl 2 (by decide) (hA _ wi_34) (fun _ h9 => h9) rfl (by decide +kernel) rfl rfl (Nat.le_of_ble_eq_true rfl) dP_leaveOut_80 (fun H locs hP hD hS => ?_)
            have hP : va_P (dC, dI) vwCl [(h0, .inr (0, [.ref w0, .ref o0, .int (nI (pg_lo ws os a many d).1)])), (w0, .inl (cI, 48, .inl ((pg_lo ws os a many d).2.1))), (o0, .inl (cI, 48, .inl ((pg_lo ws os a many d).2.2)))] H := hP
            have hD : va_D A [(h0, .inr (0, [.ref w0, .ref o0, .int (nI (pg_lo ws os a many d).1)])), (w0, .inl (cI, 48, .inl ((pg_lo ws os a many d).2.1))), (o0, .inl (cI, 48, .inl ((pg_lo ws os a many d).2.2)))] := hD
            have e9 : d = pg_lim n - a := by have := pg_lim_le1 (show a + d < 2 ^ 31 by omega) c_25; omega
            have ek : k.toNatClampNeg = a := by rw [hk]; exact nI_clamp (by omega)
            have hPe : va_P (dC, dI) vwCl [(h0, .inr (0, [.ref w0, .ref o0, .int (pg_loN ws os n k many)])), (w0, .inl (cI, 48, .inl (pg_loW ws os n k many))), (o0, .inl (cI, 48, .inl (pg_loO ws os n k many)))] H := by simp only [pg_loN, pg_loW, pg_loO, if_neg c_5, if_neg (not_not_intro c_10), pg_loR, ek, ← e9]; exact hP
            have hDe : va_D A [(h0, .inr (0, [.ref w0, .ref o0, .int (pg_loN ws os n k many)])), (w0, .inl (cI, 48, .inl (pg_loW ws os n k many))), (o0, .inl (cI, 48, .inl (pg_loO ws os n k many)))] := sp_Dc hD rfl
            exact W.vret hx hb hr (sp_eWv hPe hDe hS) hS.2.2 dP_leaveOut_83
          · refine lv_iload hx hb dP_leaveOut_28 (lv_at hl 0 rfl) ?_
            refine lv_bipush (v := 48) hx hb dP_leaveOut_30 (by decide) ?_
            refine lv_icmp_ge (tgt := 78) hx hb dP_leaveOut_32 (by decide) (fun c_32 => ?_) (fun c_32 => ?_)
            · refine lv_aload_n hx hb dP_leaveOut_78 rfl (lv_at hl 2 rfl) ?_
              refine lv_iload_n hx hb dP_leaveOut_79 rfl (lv_at hl 1 rfl) ?_
              refine va_put (D := (dC, dI)) (ci := 0) (v := .int (nI (pg_lo ws os a many d).1)) (ty := .int) (C := rP) (T := tP) (N := 3) hx hb hA inP tyP tyP_ok nmP hown hK hP hD hS 0 rfl rfl 2 (by decide) (hA _ wi_34) (fun _ h9 => h9) rfl (by decide +kernel) rfl rfl (Nat.le_of_ble_eq_true rfl) dP_leaveOut_80 (fun H locs hP hD hS => ?_)
              have hP : va_P (dC, dI) vwCl [(h0, .inr (0, [.ref w0, .ref o0, .int (nI (pg_lo ws os a many d).1)])), (w0, .inl (cI, 48, .inl ((pg_lo ws os a many d).2.1))), (o0, .inl (cI, 48, .inl ((pg_lo ws os a many d).2.2)))] H := hP
              have hD : va_D A [(h0, .inr (0, [.ref w0, .ref o0, .int (nI (pg_lo ws os a many d).1)])), (w0, .inl (cI, 48, .inl ((pg_lo ws os a many d).2.1))), (o0, .inl (cI, 48, .inl ((pg_lo ws os a many d).2.2)))] := hD
              have e9 : d = pg_lim n - a := by have := pg_lim_le2 (n := n) (show a + d < 2 ^ 31 by omega) c_32; omega
              have ek : k.toNatClampNeg = a := by rw [hk]; exact nI_clamp (by omega)
              have hPe : va_P (dC, dI) vwCl [(h0, .inr (0, [.ref w0, .ref o0, .int (pg_loN ws os n k many)])), (w0, .inl (cI, 48, .inl (pg_loW ws os n k many))), (o0, .inl (cI, 48, .inl (pg_loO ws os n k many)))] H := by simp only [pg_loN, pg_loW, pg_loO, if_neg c_5, if_neg (not_not_intro c_10), pg_loR, ek, ← e9]; exact hP
              have hDe : va_D A [(h0, .inr (0, [.ref w0, .ref o0, .int (pg_loN ws os n k many)])), (w0, .inl (cI, 48, .inl (pg_loW ws os n k many))), (o0, .inl (cI, 48, .inl (pg_loO ws os n k many)))] := sp_Dc hD rfl
              exact W.vret hx hb hr (sp_eWv hPe hDe hS) hS.2.2 dP_leaveOut_83
            · refine lv_iload hx hb dP_leaveOut_35 (lv_at hl 0 rfl) ?_
              refine lv_iload_n hx hb dP_leaveOut_37 rfl (lv_at hl 3 rfl) ?_
              refine lv_isub hx hb dP_leaveOut_38 ?_
              refine lv_iload_n hx hb dP_leaveOut_39 rfl (lv_at hl 4 rfl) ?_
              refine lv_icmp_lt (tgt := 72) hx hb dP_leaveOut_40 (by decide) (fun c_40 => ?_) (fun c_40 => ?_)
              · refine lv_iinc (v := ((nI (a + d)) + 1)) (lv' := [(4, .int ((nI (a + d)) + 1)), (3, .int (nI (pg_lo ws os a many d).1)), (0, .ref h0), (1, .int (nI a)), (2, .int many)]) hx hb dP_leaveOut_72 hl (k := 0) rfl rfl (by decide) rfl (fun ls hl => ?_)
                refine lv_goto (tgt := 19) hx hb dP_leaveOut_75 (by decide) ?_
                have hd1 := pg_lim_lt (show a + d < 2 ^ 31 by omega) c_25 c_32
                have e2 := pg_lo_s1 ws os c_40
                refine ih (d + 1) H locs ls (by omega) (by omega) (by rw [e2]; exact hP) (sp_Dc hD rfl) hS ?_
                have h9 := lv_sub hl [0, 1, 2, 3, 4] rfl
                rw [nI_1] at h9
                rw [e2]
                exact h9
              · refine lv_aload_n hx hb dP_leaveOut_43 rfl (lv_at hl 2 rfl) ?_
                refine va_get (D := (dC, dI)) (ci := 0) (C := rP) (T := tP) (N := 3) hx hb hA inP hown hK hP 0 rfl rfl 0 (by decide) (hA _ wi_32) (fun _ h9 => h9) rfl dP_leaveOut_44 ?_
                refine lv_iload_n hx hb dP_leaveOut_47 rfl (lv_at hl 1 rfl) ?_
                refine lv_aload_n hx hb dP_leaveOut_48 rfl (lv_at hl 2 rfl) ?_
                refine va_get (D := (dC, dI)) (ci := 0) (C := rP) (T := tP) (N := 3) hx hb hA inP hown hK hP 0 rfl rfl 0 (by decide) (hA _ wi_32) (fun _ h9 => h9) rfl dP_leaveOut_49 ?_
                refine lv_iload hx hb dP_leaveOut_52 (lv_at hl 0 rfl) ?_
                refine va_iald hx hb hK hP 1 0 rfl rfl (vp_in_nI (cl_48 (show a + d < 2 ^ 31 by omega) c_32) (by decide)) dP_leaveOut_54 ?_
                refine va_iast hx hb hK hP hD hS 1 0 rfl rfl (vp_in_nI (show (pg_lo ws os a many d).1 < 48 by have := pg_lo_le ws os a many d; have := cl_48 (show a + d < 2 ^ 31 by omega) c_32; omega) (by decide)) dP_leaveOut_55 (fun H locs hP hD hS => ?_)
                have hP : va_P (dC, dI) vwCl [(h0, .inr (0, [.ref w0, .ref o0, .int n])), (w0, .inl (cI, 48, .inl (upd ((pg_lo ws os a many d).2.1) (Int32.toNatClampNeg (nI (pg_lo ws os a many d).1)) (((pg_lo ws os a many d).2.1) (Int32.toNatClampNeg (nI (a + d))))))), (o0, .inl (cI, 48, .inl ((pg_lo ws os a many d).2.2)))] H := hP
                have hD : va_D A [(h0, .inr (0, [.ref w0, .ref o0, .int n])), (w0, .inl (cI, 48, .inl (upd ((pg_lo ws os a many d).2.1) (Int32.toNatClampNeg (nI (pg_lo ws os a many d).1)) (((pg_lo ws os a many d).2.1) (Int32.toNatClampNeg (nI (a + d))))))), (o0, .inl (cI, 48, .inl ((pg_lo ws os a many d).2.2)))] := hD
                refine lv_aload_n hx hb dP_leaveOut_56 rfl (lv_at hl 2 rfl) ?_
                refine va_get (D := (dC, dI)) (ci := 0) (C := rP) (T := tP) (N := 3) hx hb hA inP hown hK hP 0 rfl rfl 1 (by decide) (hA _ wi_33) (fun _ h9 => h9) rfl dP_leaveOut_57 ?_
                refine lv_iload_n hx hb dP_leaveOut_60 rfl (lv_at hl 1 rfl) ?_
                refine lv_aload_n hx hb dP_leaveOut_61 rfl (lv_at hl 2 rfl) ?_
                refine va_get (D := (dC, dI)) (ci := 0) (C := rP) (T := tP) (N := 3) hx hb hA inP hown hK hP 0 rfl rfl 1 (by decide) (hA _ wi_33) (fun _ h9 => h9) rfl dP_leaveOut_62 ?_
                refine lv_iload hx hb dP_leaveOut_65 (lv_at hl 0 rfl) ?_
                refine va_iald hx hb hK hP 2 0 rfl rfl (vp_in_nI (cl_48 (show a + d < 2 ^ 31 by omega) c_32) (by decide)) dP_leaveOut_67 ?_
                refine va_iast hx hb hK hP hD hS 2 0 rfl rfl (vp_in_nI (show (pg_lo ws os a many d).1 < 48 by have := pg_lo_le ws os a many d; have := cl_48 (show a + d < 2 ^ 31 by omega) c_32; omega) (by decide)) dP_leaveOut_68 (fun H locs hP hD hS => ?_)
                have hP : va_P (dC, dI) vwCl [(h0, .inr (0, [.ref w0, .ref o0, .int n])), (w0, .inl (cI, 48, .inl (upd ((pg_lo ws os a many d).2.1) (Int32.toNatClampNeg (nI (pg_lo ws os a many d).1)) (((pg_lo ws os a many d).2.1) (Int32.toNatClampNeg (nI (a + d))))))), (o0, .inl (cI, 48, .inl (upd ((pg_lo ws os a many d).2.2) (Int32.toNatClampNeg (nI (pg_lo ws os a many d).1)) (((pg_lo ws os a many d).2.2) (Int32.toNatClampNeg (nI (a + d)))))))] H := hP
                have hD : va_D A [(h0, .inr (0, [.ref w0, .ref o0, .int n])), (w0, .inl (cI, 48, .inl (upd ((pg_lo ws os a many d).2.1) (Int32.toNatClampNeg (nI (pg_lo ws os a many d).1)) (((pg_lo ws os a many d).2.1) (Int32.toNatClampNeg (nI (a + d))))))), (o0, .inl (cI, 48, .inl (upd ((pg_lo ws os a many d).2.2) (Int32.toNatClampNeg (nI (pg_lo ws os a many d).1)) (((pg_lo ws os a many d).2.2) (Int32.toNatClampNeg (nI (a + d)))))))] := hD
                refine lv_iinc (v := ((nI (pg_lo ws os a many d).1) + 1)) (lv' := [(3, .int ((nI (pg_lo ws os a many d).1) + 1)), (4, .int (nI (a + d))), (0, .ref h0), (1, .int (nI a)), (2, .int many)]) hx hb dP_leaveOut_69 hl (k := 1) rfl rfl (by decide) rfl (fun ls hl => ?_)
                refine lv_iinc (v := ((nI (a + d)) + 1)) (lv' := [(4, .int ((nI (a + d)) + 1)), (3, .int ((nI (pg_lo ws os a many d).1) + 1)), (0, .ref h0), (1, .int (nI a)), (2, .int many)]) hx hb dP_leaveOut_72 hl (k := 1) rfl rfl (by decide) rfl (fun ls hl => ?_)
                refine lv_goto (tgt := 19) hx hb dP_leaveOut_75 (by decide) ?_
                have hd1 := pg_lim_lt (show a + d < 2 ^ 31 by omega) c_25 c_32
                have e1 : (nI (a + d)).toNatClampNeg = a + d := nI_clamp (by omega)
                have e3 : (nI (pg_lo ws os a many d).1).toNatClampNeg = (pg_lo ws os a many d).1 := nI_clamp (by have := pg_lo_le ws os a many d; omega)
                rw [e1, e3] at hP
                have e2 := pg_lo_s2 ws os c_40
                refine ih (d + 1) H locs ls (by omega) (by omega) (by rw [e2]; exact hP) (sp_Dc hD rfl) hS ?_
                have h9 := lv_sub hl [0, 1, 2, 3, 4] rfl
                rw [nI_1, nI_1] at h9
                rw [e2]
                exact h9
      exact loop ((pg_lim n - (a + 0)) + 1) 0 _ _ ls (Nat.lt_succ_self _) (Nat.le_of_lt hal) hP (sp_Dc hD rfl) hS (by have h9 := lv_sub hl [0, 1, 2, 3, 4] rfl; rw [hk] at h9; exact h9)
    · have hPe : va_P (dC, dI) vwCl [(h0, .inr (0, [.ref w0, .ref o0, .int (pg_loN ws os n k many)])), (w0, .inl (cI, 48, .inl (pg_loW ws os n k many))), (o0, .inl (cI, 48, .inl (pg_loO ws os n k many)))] H := by simpa [pg_loN, pg_loW, pg_loO, c_5, c_10] using hP
      have hDe : va_D A [(h0, .inr (0, [.ref w0, .ref o0, .int (pg_loN ws os n k many)])), (w0, .inl (cI, 48, .inl (pg_loW ws os n k many))), (o0, .inl (cI, 48, .inl (pg_loO ws os n k many)))] := sp_Dc hD rfl
      exact W.vret hx hb hr (sp_eWv hPe hDe hS) hS.2.2 dP_leaveOut_13
set_option maxHeartbeats 4000000 in
set_option maxRecDepth 100000 in
theorem kP_init (l : Launch) (dC : Nat → ClassId) (dI : Nat → Nat → Nat) (cI cQ : ClassId) (h0 : Nat) (sz : Nat)  : Met l yP_init (.code yP_init cP_init 1 none :: wA) ({ frames := 1, cells := 2, slots := 96, locals := 12 }) (sp_P (dC, dI) (kT cI cQ) [.ref h0] [(h0, .inr (0, [.null, .null, .int 0]))] sz) (va_Qv (fun (_ : Nat × Nat) => True) (fun u t => va_P (dC, dI) vwCl [(h0, .inr (0, [.ref u.1, .ref u.2, .int 0])), (u.1, .inl (cI, 48, .inl (fun _ => 0))), (u.2, .inl (cI, 48, .inl (fun _ => 0)))] t.heap ∧ va_D (va_A [(h0, .inr (0, [.null, .null, .int 0]))] sz) [(h0, .inr (0, [.ref u.1, .ref u.2, .int 0])), (u.1, .inl (cI, 48, .inl (fun _ => 0))), (u.2, .inl (cI, 48, .inl (fun _ => 0)))]) (va_A [(h0, .inr (0, [.null, .null, .int 0]))] sz)) 2 96 (va_A [(h0, .inr (0, [.null, .null, .int 0]))] sz) := by
  refine Met.ofW (cc := cP_init) (maxL := 1) (ret := none) (by decide) rfl ?_
  intro p e s m args below meth c s₁ B hml hv
  obtain ⟨rfl, hsz, hP, hK, hD0, hG⟩ := hv
  have hx := B.exec
  have hb := B.bytes
  have hr := B.returns
  have hA := sp_hA (atoms_spec (ws := (.code yP_init cP_init 1 none :: wA)) B.pre)
  have hown : s.vm.findClass rP = some m.cls := findClass_of_methodNamed B.named
  have hlocks := B.notSynchronized
  have hin : meth.name = "<init>" := (name_of_methodNamed B.named B.method).1
  subst hsz
  have hD := hD0.self (sz := s.heap.size)
  generalize hAe : va_A [(h0, .inr (0, [.null, .null, .int 0]))] s.heap.size = A at hD ⊢
  have hF : ∀ q : Nat, s.heap.size ≤ q → A q := fun q h => by rw [← hAe]; exact Or.inr h
  have hS : va_S A s.heap s.heap [] := va_S.rf
  have hl := lv_entry ([.ref h0]) (n := 1) (Nat.le_of_ble_eq_true rfl)
  rw [lg_entry_eq]
  generalize (lg_sl ([.ref h0]) ++ List.replicate (1 - (lg_sl ([.ref h0])).length) Slot.unset).toArray = ls at hl ⊢
  have hl : lv_has ls 1 [(0, .ref h0)] := hl
  refine lv_aload_n hx hb dP_init_0 rfl (lv_at hl 0 rfl) ?_
  refine W.objInit hx hb hown (hA _ wi_31) (hA _ wi_21) (hA _ wi_22) rfl (by rw [hml]; exact hl.1) rfl dP_init_1 (Nat.le_of_ble_eq_true rfl) (Nat.le_of_ble_eq_true rfl) ?_
  refine W.eq (g2 := F0 m 4 ls []) rfl ?_
  refine lv_aload_n hx hb dP_init_4 rfl (lv_at hl 0 rfl) ?_
  refine lv_bipush (v := 48) hx hb dP_init_5 (by decide) ?_
  refine va_newa (atype := .int) (a0 := (48, .inl (fun _ => 0))) hx hb (hA _ wi_42) rfl hK hP hD hS hF (fun _ => rfl) (by decide) (by decide) (by decide) (Nat.le_of_ble_eq_true rfl) (Nat.le_of_ble_eq_true rfl) dP_init_7 (fun q7 cA H hK hP hD hS => ?_)
  obtain rfl := sp_cI hK
  have hK := hK.sub [0, 1] rfl
  have hP : va_P (dC, dI) vwCl [(h0, .inr (0, [.null, .null, .int 0])), (q7, .inl (cI, 48, .inl (fun _ => 0)))] H := hP
  have hD : va_D A [(h0, .inr (0, [.null, .null, .int 0])), (q7, .inl (cI, 48, .inl (fun _ => 0)))] := hD
  refine va_putF (D := (dC, dI)) (ci := 0) (v := .ref q7) (ty := .array .int) (C := rP) (T := tP) (N := 3) hx hb hA inP tyP tyP_ok nmP hown hK hP hD hS 0 rfl rfl 0 (by decide) (hA _ wi_32) (fun _ h9 => h9) rfl hin rfl (by decide +kernel) rfl rfl (Nat.le_of_ble_eq_true rfl) dP_init_9 (fun H locs hP hD hS => ?_)
  have hP : va_P (dC, dI) vwCl [(h0, .inr (0, [.ref q7, .null, .int 0])), (q7, .inl (cI, 48, .inl (fun _ => 0)))] H := hP
  have hD : va_D A [(h0, .inr (0, [.ref q7, .null, .int 0])), (q7, .inl (cI, 48, .inl (fun _ => 0)))] := hD
  refine lv_aload_n hx hb dP_init_12 rfl (lv_at hl 0 rfl) ?_
  refine lv_bipush (v := 48) hx hb dP_init_13 (by decide) ?_
  refine va_newa (atype := .int) (a0 := (48, .inl (fun _ => 0))) hx hb (hA _ wi_42) rfl hK hP hD hS hF (fun _ => rfl) (by decide) (by decide) (by decide) (Nat.le_of_ble_eq_true rfl) (Nat.le_of_ble_eq_true rfl) dP_init_15 (fun q15 cA H hK hP hD hS => ?_)
  obtain rfl := sp_cI hK
  have hK := hK.sub [0, 1] rfl
  have hP : va_P (dC, dI) vwCl [(h0, .inr (0, [.ref q7, .null, .int 0])), (q7, .inl (cI, 48, .inl (fun _ => 0))), (q15, .inl (cI, 48, .inl (fun _ => 0)))] H := hP
  have hD : va_D A [(h0, .inr (0, [.ref q7, .null, .int 0])), (q7, .inl (cI, 48, .inl (fun _ => 0))), (q15, .inl (cI, 48, .inl (fun _ => 0)))] := hD
  refine va_putF (D := (dC, dI)) (ci := 0) (v := .ref q15) (ty := .array .int) (C := rP) (T := tP) (N := 3) hx hb hA inP tyP tyP_ok nmP hown hK hP hD hS 0 rfl rfl 1 (by decide) (hA _ wi_33) (fun _ h9 => h9) rfl hin rfl (by decide +kernel) rfl rfl (Nat.le_of_ble_eq_true rfl) dP_init_17 (fun H locs hP hD hS => ?_)
  have hP : va_P (dC, dI) vwCl [(h0, .inr (0, [.ref q7, .ref q15, .int 0])), (q7, .inl (cI, 48, .inl (fun _ => 0))), (q15, .inl (cI, 48, .inl (fun _ => 0)))] H := hP
  have hD : va_D A [(h0, .inr (0, [.ref q7, .ref q15, .int 0])), (q7, .inl (cI, 48, .inl (fun _ => 0))), (q15, .inl (cI, 48, .inl (fun _ => 0)))] := hD
  have hPe : va_P (dC, dI) vwCl [(h0, .inr (0, [.ref q7, .ref q15, .int 0])), (q7, .inl (cI, 48, .inl (fun _ => 0))), (q15, .inl (cI, 48, .inl (fun _ => 0)))] H := by exact hP
  have hDe : va_D A [(h0, .inr (0, [.ref q7, .ref q15, .int 0])), (q7, .inl (cI, 48, .inl (fun _ => 0))), (q15, .inl (cI, 48, .inl (fun _ => 0)))] := sp_Dc hD rfl
  refine W.widen (k := 2) (n := 96) (by omega) (by omega) ?_
  exact W.vret hx hb hr (fun t ht _ => ⟨⟨(q7, q15), rfl, trivial, by rw [ht]; exact hPe, hDe⟩, hS.F ht⟩) hS.2.2 dP_init_20

