-- Memory: contracts (by wip/gen/memc.py)
set_option maxHeartbeats 4000000 in
set_option maxRecDepth 100000 in
theorem kM_filled (l : Launch) (dC : Nat → ClassId) (dI : Nat → Nat → Nat) (cI cQ : ClassId) (m0 aa : Nat) (fl : Int32)  : Met l yM_filled (.code yM_filled cM_filled 1 (some .int) :: wA) ({ frames := 0, cells := 0, slots := 0, locals := 0 }) (sp_R (dC, dI) (kT cI cQ) [.ref m0] [(m0, .inr (2, [.ref aa, .int fl]))]) (sp_QRi fl) 0 0 (fun _ => False) := by
  refine Met.ofW (cc := cM_filled) (maxL := 1) (ret := (some .int)) (by decide) rfl ?_
  intro p e s m args below meth c s₁ B hml hv
  obtain ⟨rfl, hP, hK, hG⟩ := hv
  have hx := B.exec
  have hb := B.bytes
  have hr := B.returns
  have hA := sp_hA (atoms_spec (ws := (.code yM_filled cM_filled 1 (some .int) :: wA)) B.pre)
  have hown : s.vm.findClass rM = some m.cls := findClass_of_methodNamed B.named
  have hlocks := B.notSynchronized
  have hS : va_S (fun _ => False) s.heap s.heap [] := va_S.rf
  have hl := lv_entry ([.ref m0]) (n := 1) (Nat.le_of_ble_eq_true rfl)
  rw [lg_entry_eq]
  generalize (lg_sl ([.ref m0]) ++ List.replicate (1 - (lg_sl ([.ref m0])).length) Slot.unset).toArray = ls at hl ⊢
  have hl : lv_has ls 1 [(0, .ref m0)] := hl
  refine lv_aload_n hx hb dM_filled_0 rfl (lv_at hl 0 rfl) ?_
  refine va_get (D := (dC, dI)) (ci := 2) (C := rM) (T := tM) (N := 2) hx hb hA inM hown hK hP 0 rfl rfl 1 (by decide) (hA _ wi_50) (fun _ h9 => h9) rfl dM_filled_1 ?_
  exact W.iret hx hb hr (sp_eRi (rfl) hS) hS.2.2 dM_filled_4
set_option maxHeartbeats 4000000 in
set_option maxRecDepth 100000 in
theorem kM_clear (l : Launch) (dC : Nat → ClassId) (dI : Nat → Nat → Nat) (cI cQ : ClassId) (m0 aa : Nat) (fl : Int32) (sz : Nat)  : Met l yM_clear (.code yM_clear cM_clear 1 none :: wA) ({ frames := 0, cells := 0, slots := 0, locals := 0 }) (sp_P (dC, dI) (kT cI cQ) [.ref m0] [(m0, .inr (2, [.ref aa, .int fl]))] sz) (sp_QWv (dC, dI) [(m0, .inr (2, [.ref aa, .int 0]))] (va_A [(m0, .inr (2, [.ref aa, .int fl]))] sz)) 0 0 (va_A [(m0, .inr (2, [.ref aa, .int fl]))] sz) := by
  refine Met.ofW (cc := cM_clear) (maxL := 1) (ret := none) (by decide) rfl ?_
  intro p e s m args below meth c s₁ B hml hv
  obtain ⟨rfl, hsz, hP, hK, hD0, hG⟩ := hv
  have hx := B.exec
  have hb := B.bytes
  have hr := B.returns
  have hA := sp_hA (atoms_spec (ws := (.code yM_clear cM_clear 1 none :: wA)) B.pre)
  have hown : s.vm.findClass rM = some m.cls := findClass_of_methodNamed B.named
  have hlocks := B.notSynchronized
  subst hsz
  have hD := hD0.self (sz := s.heap.size)
  generalize hAe : va_A [(m0, .inr (2, [.ref aa, .int fl]))] s.heap.size = A at hD ⊢
  have hF : ∀ q : Nat, s.heap.size ≤ q → A q := fun q h => by rw [← hAe]; exact Or.inr h
  have hS : va_S A s.heap s.heap [] := va_S.rf
  have hl := lv_entry ([.ref m0]) (n := 1) (Nat.le_of_ble_eq_true rfl)
  rw [lg_entry_eq]
  generalize (lg_sl ([.ref m0]) ++ List.replicate (1 - (lg_sl ([.ref m0])).length) Slot.unset).toArray = ls at hl ⊢
  have hl : lv_has ls 1 [(0, .ref m0)] := hl
  refine lv_aload_n hx hb dM_clear_0 rfl (lv_at hl 0 rfl) ?_
  refine lv_iconst (v := 0) hx hb dM_clear_1 (by decide) ?_
  refine va_put (D := (dC, dI)) (ci := 2) (v := .int 0) (ty := .int) (C := rM) (T := tM) (N := 2) hx hb hA inM tyM tyM_ok nmM hown hK hP hD hS 0 rfl rfl 1 (by decide) (hA _ wi_50) (fun _ h9 => h9) rfl (by decide +kernel) rfl rfl (Nat.le_of_ble_eq_true rfl) dM_clear_2 (fun H locs hP hD hS => ?_)
  have hP : va_P (dC, dI) vwCl [(m0, .inr (2, [.ref aa, .int 0]))] H := hP
  have hD : va_D A [(m0, .inr (2, [.ref aa, .int 0]))] := hD
  have hPe : va_P (dC, dI) vwCl [(m0, .inr (2, [.ref aa, .int 0]))] H := by exact hP
  have hDe : va_D A [(m0, .inr (2, [.ref aa, .int 0]))] := sp_Dc hD rfl
  exact W.vret hx hb hr (sp_eWv hPe hDe hS) hS.2.2 dM_clear_5
set_option maxHeartbeats 4000000 in
set_option maxRecDepth 100000 in
theorem kM_init (l : Launch) (dC : Nat → ClassId) (dI : Nat → Nat → Nat) (cI cQ : ClassId) (m0 : Nat) (sz : Nat)  : Met l yM_init (.code yM_init cM_init 1 none :: wA) ({ frames := 1, cells := 1, slots := 600, locals := 12 }) (sp_P (dC, dI) (kT cI cQ) [.ref m0] [(m0, .inr (2, [.null, .int 0]))] sz) (va_Qv (fun (_ : Nat) => True) (fun u t => va_P (dC, dI) vwCl [(m0, .inr (2, [.ref u, .int 0])), (u, .inl (cQ, 600, .inr (.inr (.inr (.inr (ar_f []))))))] t.heap ∧ va_D (va_A [(m0, .inr (2, [.null, .int 0]))] sz) [(m0, .inr (2, [.ref u, .int 0])), (u, .inl (cQ, 600, .inr (.inr (.inr (.inr (ar_f []))))))]) (va_A [(m0, .inr (2, [.null, .int 0]))] sz)) 1 600 (va_A [(m0, .inr (2, [.null, .int 0]))] sz) := by
  refine Met.ofW (cc := cM_init) (maxL := 1) (ret := none) (by decide) rfl ?_
  intro p e s m args below meth c s₁ B hml hv
  obtain ⟨rfl, hsz, hP, hK, hD0, hG⟩ := hv
  have hx := B.exec
  have hb := B.bytes
  have hr := B.returns
  have hA := sp_hA (atoms_spec (ws := (.code yM_init cM_init 1 none :: wA)) B.pre)
  have hown : s.vm.findClass rM = some m.cls := findClass_of_methodNamed B.named
  have hlocks := B.notSynchronized
  have hin : meth.name = "<init>" := (name_of_methodNamed B.named B.method).1
  subst hsz
  have hD := hD0.self (sz := s.heap.size)
  generalize hAe : va_A [(m0, .inr (2, [.null, .int 0]))] s.heap.size = A at hD ⊢
  have hF : ∀ q : Nat, s.heap.size ≤ q → A q := fun q h => by rw [← hAe]; exact Or.inr h
  have hS : va_S A s.heap s.heap [] := va_S.rf
  have hl := lv_entry ([.ref m0]) (n := 1) (Nat.le_of_ble_eq_true rfl)
  rw [lg_entry_eq]
  generalize (lg_sl ([.ref m0]) ++ List.replicate (1 - (lg_sl ([.ref m0])).length) Slot.unset).toArray = ls at hl ⊢
  have hl : lv_has ls 1 [(0, .ref m0)] := hl
  refine lv_aload_n hx hb dM_init_0 rfl (lv_at hl 0 rfl) ?_
  refine W.objInit hx hb hown (hA _ wi_47) (hA _ wi_21) (hA _ wi_22) rfl (by rw [hml]; exact hl.1) rfl dM_init_1 (Nat.le_of_ble_eq_true rfl) (Nat.le_of_ble_eq_true rfl) ?_
  refine W.eq (g2 := F0 m 4 ls []) rfl ?_
  refine lv_aload_n hx hb dM_init_4 rfl (lv_at hl 0 rfl) ?_
  refine lv_sipush (v := 600) hx hb dM_init_5 (by decide) ?_
  refine va_newq (N' := 600) (C := "ShortenPrograms$Ask") hx hb hown (hA _ wi_48) hG.2.2.2.2.2 hK hP hD hS hF (by decide) (by decide) (by decide) (Nat.le_of_ble_eq_true rfl) (Nat.le_of_ble_eq_true rfl) dM_init_8 (fun q8 cA H hK hP hD hS => ?_)
  obtain rfl := sp_cQ hK
  have hK := hK.sub [0, 1] rfl
  have hP : va_P (dC, dI) vwCl [(m0, .inr (2, [.null, .int 0])), (q8, .inl (cQ, 600, .inr (.inr (.inr (.inr (fun _ => none))))))] H := hP
  have hD : va_D A [(m0, .inr (2, [.null, .int 0])), (q8, .inl (cQ, 600, .inr (.inr (.inr (.inr (fun _ => none))))))] := hD
  refine va_putF (D := (dC, dI)) (ci := 2) (v := .ref q8) (ty := .array (.object "ShortenPrograms$Ask")) (C := rM) (T := tM) (N := 2) hx hb hA inM tyM tyM_ok nmM hown hK hP hD hS 0 rfl rfl 0 (by decide) (hA _ wi_49) (fun _ h9 => h9) rfl hin rfl (by decide +kernel) rfl rfl (Nat.le_of_ble_eq_true rfl) dM_init_11 (fun H locs hP hD hS => ?_)
  have hP : va_P (dC, dI) vwCl [(m0, .inr (2, [.ref q8, .int 0])), (q8, .inl (cQ, 600, .inr (.inr (.inr (.inr (fun _ => none))))))] H := hP
  have hD : va_D A [(m0, .inr (2, [.ref q8, .int 0])), (q8, .inl (cQ, 600, .inr (.inr (.inr (.inr (fun _ => none))))))] := hD
  have hPe : va_P (dC, dI) vwCl [(m0, .inr (2, [.ref q8, .int 0])), (q8, .inl (cQ, 600, .inr (.inr (.inr (.inr (ar_f []))))))] H := by exact hP
  have hDe : va_D A [(m0, .inr (2, [.ref q8, .int 0])), (q8, .inl (cQ, 600, .inr (.inr (.inr (.inr (ar_f []))))))] := sp_Dc hD rfl
  refine W.widen (k := 1) (n := 600) (by omega) (by omega) ?_
  exact W.vret hx hb hr (fun t ht _ => ⟨⟨q8, rfl, trivial, by rw [ht]; exact hPe, hDe⟩, hS.F ht⟩) hS.2.2 dM_init_14
set_option maxHeartbeats 4000000 in
set_option maxRecDepth 100000 in
theorem kM_last (l : Launch) (dC : Nat → ClassId) (dI : Nat → Nat → Nat) (cI cQ : ClassId) (m0 aa : Nat) (fl : Int32) (as : List AR)  : Met l yM_last (.code yM_last cM_last 1 (some (.object "ShortenPrograms$Ask")) :: wA) ({ frames := 0, cells := 0, slots := 0, locals := 0 }) (sp_R (dC, dI) (kT cI cQ) [.ref m0] [(m0, .inr (2, [.ref aa, .int fl])), (aa, .inl (cQ, 600, .inr (.inr (.inr (.inr (ar_f as))))))]) (sp_QRq (mm_last as fl)) 0 0 (fun _ => False) := by
  refine Met.ofW (cc := cM_last) (maxL := 1) (ret := (some (.object "ShortenPrograms$Ask"))) (by decide) rfl ?_
  intro p e s m args below meth c s₁ B hml hv
  obtain ⟨rfl, hP, hK, hG⟩ := hv
  have hx := B.exec
  have hb := B.bytes
  have hr := B.returns
  have hA := sp_hA (atoms_spec (ws := (.code yM_last cM_last 1 (some (.object "ShortenPrograms$Ask")) :: wA)) B.pre)
  have hown : s.vm.findClass rM = some m.cls := findClass_of_methodNamed B.named
  have hlocks := B.notSynchronized
  have hS : va_S (fun _ => False) s.heap s.heap [] := va_S.rf
  have hl := lv_entry ([.ref m0]) (n := 1) (Nat.le_of_ble_eq_true rfl)
  rw [lg_entry_eq]
  generalize (lg_sl ([.ref m0]) ++ List.replicate (1 - (lg_sl ([.ref m0])).length) Slot.unset).toArray = ls at hl ⊢
  have hl : lv_has ls 1 [(0, .ref m0)] := hl
  refine lv_aload_n hx hb dM_last_0 rfl (lv_at hl 0 rfl) ?_
  refine va_get (D := (dC, dI)) (ci := 2) (C := rM) (T := tM) (N := 2) hx hb hA inM hown hK hP 0 rfl rfl 1 (by decide) (hA _ wi_50) (fun _ h9 => h9) rfl dM_last_1 ?_
  refine lv_if_le (tgt := 31) hx hb dM_last_4 (by decide) (fun c_4 => ?_) (fun c_4 => ?_)
  · refine lv_null hx hb dM_last_31 ?_
    exact W.aret hx hb hr (Or.inl ⟨_, rfl⟩) (Or.inl rfl) (sp_eRq (w := none) rfl (by simp [mm_last, c_4]) hS) hS.2.2 dM_last_32
  · refine lv_aload_n hx hb dM_last_7 rfl (lv_at hl 0 rfl) ?_
    refine va_get (D := (dC, dI)) (ci := 2) (C := rM) (T := tM) (N := 2) hx hb hA inM hown hK hP 0 rfl rfl 1 (by decide) (hA _ wi_50) (fun _ h9 => h9) rfl dM_last_8 ?_
    refine lv_sipush (v := 600) hx hb dM_last_11 (by decide) ?_
    refine lv_icmp_gt (tgt := 31) hx hb dM_last_14 (by decide) (fun c_14 => ?_) (fun c_14 => ?_)
    · refine lv_null hx hb dM_last_31 ?_
      exact W.aret hx hb hr (Or.inl ⟨_, rfl⟩) (Or.inl rfl) (sp_eRq (w := none) rfl (by simp [mm_last, c_4, c_14]) hS) hS.2.2 dM_last_32
    · refine lv_aload_n hx hb dM_last_17 rfl (lv_at hl 0 rfl) ?_
      refine va_get (D := (dC, dI)) (ci := 2) (C := rM) (T := tM) (N := 2) hx hb hA inM hown hK hP 0 rfl rfl 0 (by decide) (hA _ wi_49) (fun _ h9 => h9) rfl dM_last_18 ?_
      refine lv_aload_n hx hb dM_last_21 rfl (lv_at hl 0 rfl) ?_
      refine va_get (D := (dC, dI)) (ci := 2) (C := rM) (T := tM) (N := 2) hx hb hA inM hown hK hP 0 rfl rfl 1 (by decide) (hA _ wi_50) (fun _ h9 => h9) rfl dM_last_22 ?_
      refine lv_iconst (v := 1) hx hb dM_last_25 (by decide) ?_
      refine lv_isub hx hb dM_last_26 ?_
      refine va_aldq hx hb hK hP 1 1 rfl rfl (mm_last_in c_4 c_14) dM_last_27 ?_
      refine lv_goto (tgt := 32) hx hb dM_last_28 (by decide) ?_
      exact W.aret hx hb hr (Or.inl ⟨_, rfl⟩) (va_rf_or _) (sp_eRq (w := ((ar_f as) (Int32.toNatClampNeg (fl - 1)))) rfl (by simp [mm_last, c_4, c_14]) hS) hS.2.2 dM_last_32
set_option maxHeartbeats 4000000 in
set_option maxRecDepth 100000 in
theorem kM_find (l : Launch) (dC : Nat → ClassId) (dI : Nat → Nat → Nat) (cI cQ : ClassId) (g0 gw go : Nat) (n' : Int32) (ws' : Nat → Int32) (m0 aa : Nat) (fl : Int32) (as : List AR)  : Met l yM_find (.code yM_find cM_find 5 (some (.object "ShortenPrograms$Ask")) :: wA) ({ frames := 2, cells := 0, slots := 0, locals := 44 }) (sp_R (dC, dI) (kT cI cQ) [.ref m0, .ref g0] ([(g0, .inr (0, [.ref gw, .ref go, .int n'])), (gw, .inl (cI, 48, .inl ws')), (m0, .inr (2, [.ref aa, .int fl])), (aa, .inl (cQ, 600, .inr (.inr (.inr (.inr (ar_f as))))))] ++ ar_W cI as)) (sp_QRq ((mm_find as fl n' ws').map (fun r => r.1.1))) 0 0 (fun _ => False) := by
  refine Met.ofW (cc := cM_find) (maxL := 5) (ret := (some (.object "ShortenPrograms$Ask"))) (by decide) rfl ?_
  intro p e s m args below meth c s₁ B hml hv
  obtain ⟨rfl, hP, hK, hG⟩ := hv
  have hx := B.exec
  have hb := B.bytes
  have hr := B.returns
  have hA := sp_hA (atoms_spec (ws := (.code yM_find cM_find 5 (some (.object "ShortenPrograms$Ask")) :: wA)) B.pre)
  have hown : s.vm.findClass rM = some m.cls := findClass_of_methodNamed B.named
  have hlocks := B.notSynchronized
  have hS : va_S (fun _ => False) s.heap s.heap [] := va_S.rf
  have hl := lv_entry ([.ref m0, .ref g0]) (n := 5) (Nat.le_of_ble_eq_true rfl)
  rw [lg_entry_eq]
  generalize (lg_sl ([.ref m0, .ref g0]) ++ List.replicate (5 - (lg_sl ([.ref m0, .ref g0])).length) Slot.unset).toArray = ls at hl ⊢
  have hl : lv_has ls 5 [(0, .ref m0), (1, .ref g0)] := hl
  refine lv_aload_n hx hb dM_find_0 rfl (lv_at hl 1 rfl) ?_
  refine va_calli (va_runV (As := []) (rest := []) ⟨hx, hb, hml, hown, hA⟩ (kP_mark l dC dI cI cQ g0 gw go n' ws') (cwV 0 hA (gd_V wi_439 wi_281 wi_282 wi_3 wi_283) rfl rfl rfl (by decide +kernel) ⟨Nat.le_of_ble_eq_true rfl, Nat.le_of_ble_eq_true rfl⟩) ⟨sp_Rb, va_recv hK hP (ci := 0) (q0 := 0) rfl rfl, sp_Ro (hP.sub [0, 1] rfl) hK hG⟩ rfl rfl hl.1 rfl (lv_room (Nat.le_of_ble_eq_true rfl)) dM_find_1 ⟨Nat.le_of_ble_eq_true rfl, Nat.le_of_ble_eq_true rfl⟩) hS (fun _ _ h => h.elim) (fun _ h => h.elim) (fun r_1 u_1 t H locs ht hvm hw hB hz1 hk1 hS => ?_)
  rw [hw]
  have hP := sp_kp hP hk1
  refine lv_istore_n (lv' := [(2, .int (pg_mark ws' n' )), (0, .ref m0), (1, .ref g0)]) hx hb dM_find_4 rfl hl (by decide) rfl (fun ls hl => ?_)
  refine lv_iconst (v := 0) hx hb dM_find_5 (by decide) ?_
  refine lv_istore_n (lv' := [(3, .int 0), (2, .int (pg_mark ws' n' )), (0, .ref m0), (1, .ref g0)]) hx hb dM_find_6 rfl hl (by decide) rfl (fun ls hl => ?_)
  have loop : ∀ (n9 : Nat) (i : Nat) (H : Heap) (locs : List Loc) (ls : Array Slot), mm_lim fl - i < n9 → (i ≤ mm_lim fl) → (∀ j, j < i → ∀ x, as[j]? = some x → ak_is x.2.1 x.2.2.2.1 x.2.2.2.2.1 (pg_mark ws' n') n' ws' = 0) → va_P (dC, dI) vwCl ([(g0, .inr (0, [.ref gw, .ref go, .int n'])), (gw, .inl (cI, 48, .inl ws')), (m0, .inr (2, [.ref aa, .int fl])), (aa, .inl (cQ, 600, .inr (.inr (.inr (.inr (ar_f as))))))] ++ ar_W cI as) H → va_S (fun _ => False) s.heap H locs → lv_has ls 5 [(3, .int (nI i)), (2, .int (pg_mark ws' n')), (0, .ref m0), (1, .ref g0)] → W p l e (headSpec (.code yM_find cM_find 5 (some (.object "ShortenPrograms$Ask")) :: wA) ({ frames := 2, cells := 0, slots := 0, locals := 44 })).room s m ([.ref m0, .ref g0]).toArray below meth c H locs 0 0 (MQ below (sp_QRq ((mm_find as fl n' ws').map (fun r => r.1.1))) ([.ref m0, .ref g0]).toArray s 0 0 (fun _ => False)) (F0 m 7 ls []) := by
    intro n9
    induction n9 with
    | zero => intro i H locs ls hm9 hiM hno hP hS hl; exact absurd hm9 (Nat.not_lt_zero _)
    | succ n9 ih =>
      intro i H locs ls hm9 hiM hno hP hS hl
      have h600 := mm_lim_600 fl
      refine lv_iload_n hx hb dM_find_7 rfl (lv_at hl 0 rfl) ?_
      refine lv_aload_n hx hb dM_find_8 rfl (lv_at hl 2 rfl) ?_
      refine va_get (D := (dC, dI)) (ci := 2) (C := rM) (T := tM) (N := 2) hx hb hA inM hown hK hP 2 rfl rfl 1 (by decide) (hA _ wi_50) (fun _ h9 => h9) rfl dM_find_9 ?_
      refine lv_icmp_ge (tgt := 54) hx hb dM_find_12 (by decide) (fun c_12 => ?_) (fun c_12 => ?_)
      · refine lv_null hx hb dM_find_54 ?_
        exact W.aret hx hb hr (Or.inl ⟨_, rfl⟩) (Or.inl rfl) (sp_eRq (w := none) rfl (by rw [mm_none (fun j hj => hno j (Nat.lt_of_lt_of_le hj (mm_lim_le1 (by omega) c_12)))]; rfl) hS) hS.2.2 dM_find_55
      · refine lv_iload_n hx hb dM_find_15 rfl (lv_at hl 0 rfl) ?_
        refine lv_sipush (v := 600) hx hb dM_find_16 (by decide) ?_
        refine lv_icmp_ge (tgt := 54) hx hb dM_find_19 (by decide) (fun c_19 => ?_) (fun c_19 => ?_)
        · refine lv_null hx hb dM_find_54 ?_
          exact W.aret hx hb hr (Or.inl ⟨_, rfl⟩) (Or.inl rfl) (sp_eRq (w := none) rfl (by rw [mm_none (fun j hj => hno j (Nat.lt_of_lt_of_le hj (mm_lim_le2 (by omega) c_19)))]; rfl) hS) hS.2.2 dM_find_55
        · refine lv_aload_n hx hb dM_find_22 rfl (lv_at hl 2 rfl) ?_
          refine va_get (D := (dC, dI)) (ci := 2) (C := rM) (T := tM) (N := 2) hx hb hA inM hown hK hP 2 rfl rfl 0 (by decide) (hA _ wi_49) (fun _ h9 => h9) rfl dM_find_23 ?_
          refine lv_iload_n hx hb dM_find_26 rfl (lv_at hl 0 rfl) ?_
          refine va_aldq hx hb hK hP 3 1 rfl rfl (vp_in_nI (show i < 600 by have := mm_lim_lt (show i < 2 ^ 31 by omega) c_12 c_19; omega) (by decide)) dM_find_27 ?_
          have e1 : ar_f as (nI i).toNatClampNeg = (as[i]?).map (fun r => r.1.1) := by rw [nI_clamp (by omega)]; rfl
          rw [e1]
          rcases hq : as[i]? with _ | r
          · refine W.eq (g2 := F0 m 28 ls [.null]) rfl ?_
            refine lv_astoreN (lv' := [(4, .null), (3, .int (nI i)), (2, .int (pg_mark ws' n')), (0, .ref m0), (1, .ref g0)]) hx hb dM_find_28 hl (by decide) rfl (fun ls hl => ?_)
            refine lv_aloadN hx hb dM_find_30 (lv_at hl 0 rfl) ?_
            refine lv_ifnullN (tgt := 48) hx hb dM_find_32 (by decide) ?_
            refine lv_iinc (v := ((nI i) + 1)) (lv' := [(3, .int ((nI i) + 1)), (4, .null), (2, .int (pg_mark ws' n')), (0, .ref m0), (1, .ref g0)]) hx hb dM_find_48 hl (k := 1) rfl rfl (by decide) rfl (fun ls hl => ?_)
            refine lv_goto (tgt := 7) hx hb dM_find_51 (by decide) ?_
            have hi9 := mm_lim_lt (show i < 2 ^ 31 by omega) c_12 c_19
            refine ih (i + 1) H locs ls (by omega) (by omega) (lt_s hno (fun x hx => by rw [hq] at hx; cases hx)) hP hS ?_
            have h9 := lv_sub hl [0, 2, 3, 4] rfl
            rw [nI_1] at h9
            exact h9
          · refine W.eq (g2 := F0 m 28 ls [.ref r.1.1]) rfl ?_
            refine lv_astore (lv' := [(4, .ref r.1.1), (3, .int (nI i)), (2, .int (pg_mark ws' n')), (0, .ref m0), (1, .ref g0)]) hx hb dM_find_28 hl (by decide) rfl (fun ls hl => ?_)
            refine lv_aload hx hb dM_find_30 (lv_at hl 0 rfl) ?_
            refine lv_ifnull hx hb dM_find_32 ?_
            refine lv_aload hx hb dM_find_35 (lv_at hl 0 rfl) ?_
            refine lv_aload_n hx hb dM_find_37 rfl (lv_at hl 4 rfl) ?_
            refine lv_iload_n hx hb dM_find_38 rfl (lv_at hl 2 rfl) ?_
            refine va_calli (va_runV (As := [.ref g0, .int (pg_mark ws' n')]) (rest := []) ⟨hx, hb, hml, hown, hA⟩ (kA_is l dC dI cI cQ r.1.1 r.1.2.1 r.2.1 r.2.2.1 r.1.2.2.1 r.1.2.2.2 r.2.2.2.1 r.2.2.2.2.1 g0 gw go n' ws' (pg_mark ws' n')) (cwV 2 hA (gd_V wi_440 wi_441 wi_442 wi_12 wi_443) rfl rfl rfl (by decide +kernel) ⟨Nat.le_of_ble_eq_true rfl, Nat.le_of_ble_eq_true rfl⟩) ⟨sp_Rb, va_recv hK (ar_at hP hq) (ci := 1) (q0 := 0) rfl rfl, sp_Ro (show va_P (dC, dI) vwCl [(r.1.1, .inr (1, [.ref r.1.2.1, .int r.2.1, .int r.2.2.1])), (r.1.2.1, .inr (0, [.ref r.1.2.2.1, .ref r.1.2.2.2, .int r.2.2.2.1])), (r.1.2.2.1, .inl (cI, 48, .inl r.2.2.2.2.1)), (g0, .inr (0, [.ref gw, .ref go, .int n'])), (gw, .inl (cI, 48, .inl ws'))] _ from ((ar_at hP hq).sub [0, 1, 2] rfl).app (hP.sub [0, 1] rfl)) hK hG⟩ rfl rfl hl.1 rfl (lv_room (Nat.le_of_ble_eq_true rfl)) dM_find_39 ⟨Nat.le_of_ble_eq_true rfl, Nat.le_of_ble_eq_true rfl⟩) hS (fun _ _ h => h.elim) (fun _ h => h.elim) (fun r_39 u_39 t H locs ht hvm hw hB hz1 hk1 hS => ?_)
            rw [hw]
            have hP := sp_kp hP hk1
            refine lv_if_eq (tgt := 48) hx hb dM_find_42 (by decide) (fun c_42 => ?_) (fun c_42 => ?_)
            · refine lv_iinc (v := ((nI i) + 1)) (lv' := [(3, .int ((nI i) + 1)), (4, .ref r.1.1), (2, .int (pg_mark ws' n')), (0, .ref m0), (1, .ref g0)]) hx hb dM_find_48 hl (k := 1) rfl rfl (by decide) rfl (fun ls hl => ?_)
              refine lv_goto (tgt := 7) hx hb dM_find_51 (by decide) ?_
              have hi9 := mm_lim_lt (show i < 2 ^ 31 by omega) c_12 c_19
              refine ih (i + 1) H locs ls (by omega) (by omega) (lt_s hno (fun x hx => by rw [hq] at hx; cases hx; exact c_42)) hP hS ?_
              have h9 := lv_sub hl [0, 2, 3, 4] rfl
              rw [nI_1] at h9
              exact h9
            · refine lv_aload hx hb dM_find_45 (lv_at hl 0 rfl) ?_
              exact W.aret hx hb hr (Or.inl ⟨_, rfl⟩) (Or.inr ⟨_, rfl⟩) (sp_eRq (w := (some r.1.1)) rfl (by rw [mm_some (mm_lim_lt (show i < 2 ^ 31 by omega) c_12 c_19) hq c_42 hno]; rfl) hS) hS.2.2 dM_find_47
  exact loop ((mm_lim fl - 0) + 1) 0 _ _ ls (Nat.lt_succ_self _) (Nat.zero_le _) lt_0 hP hS (lv_sub hl [0, 1, 2, 3] rfl)
set_option maxHeartbeats 4000000 in
set_option maxRecDepth 100000 in
theorem kM_keep (l : Launch) (dC : Nat → ClassId) (dI : Nat → Nat → Nat) (cI cQ : ClassId) (g0 gw go : Nat) (n' : Int32) (ws' os' : Nat → Int32) (m0 aa k : Nat) (as : List AR) (sz : Nat) (hk : k ≤ as.length) (hlen : as.length ≤ 600) : Met l yM_keep (.code yM_keep cM_keep 3 none :: wA) ({ frames := 3, cells := 4, slots := 102, locals := 57 }) (sp_P (dC, dI) (kT cI cQ) [.ref m0, .ref g0] ([(g0, .inr (0, [.ref gw, .ref go, .int n'])), (gw, .inl (cI, 48, .inl ws')), (go, .inl (cI, 48, .inl os')), (m0, .inr (2, [.ref aa, .int (nI k)])), (aa, .inl (cQ, 600, .inr (.inr (.inr (.inr (ar_f as))))))] ++ (ar_W cI as)) sz) (va_Qv (fun (u : List AR) => mm_keepR as u k n' ws' os') (fun u t => va_P (dC, dI) vwCl ([(g0, .inr (0, [.ref gw, .ref go, .int n'])), (gw, .inl (cI, 48, .inl ws')), (go, .inl (cI, 48, .inl os')), (m0, .inr (2, [.ref aa, .int (nI (mm_fl k))])), (aa, .inl (cQ, 600, .inr (.inr (.inr (.inr (ar_f u))))))] ++ ar_W cI u) t.heap ∧ va_D (va_A ([(g0, .inr (0, [.ref gw, .ref go, .int n'])), (gw, .inl (cI, 48, .inl ws')), (go, .inl (cI, 48, .inl os')), (m0, .inr (2, [.ref aa, .int (nI k)])), (aa, .inl (cQ, 600, .inr (.inr (.inr (.inr (ar_f as))))))] ++ (ar_W cI as)) sz) ([(g0, .inr (0, [.ref gw, .ref go, .int n'])), (gw, .inl (cI, 48, .inl ws')), (go, .inl (cI, 48, .inl os')), (m0, .inr (2, [.ref aa, .int (nI (mm_fl k))])), (aa, .inl (cQ, 600, .inr (.inr (.inr (.inr (ar_f u))))))] ++ ar_W cI u)) (va_A ([(g0, .inr (0, [.ref gw, .ref go, .int n'])), (gw, .inl (cI, 48, .inl ws')), (go, .inl (cI, 48, .inl os')), (m0, .inr (2, [.ref aa, .int (nI k)])), (aa, .inl (cQ, 600, .inr (.inr (.inr (.inr (ar_f as))))))] ++ (ar_W cI as)) sz)) 4 102 (va_A ([(g0, .inr (0, [.ref gw, .ref go, .int n'])), (gw, .inl (cI, 48, .inl ws')), (go, .inl (cI, 48, .inl os')), (m0, .inr (2, [.ref aa, .int (nI k)])), (aa, .inl (cQ, 600, .inr (.inr (.inr (.inr (ar_f as))))))] ++ (ar_W cI as)) sz) := by
  refine Met.ofW (cc := cM_keep) (maxL := 3) (ret := none) (by decide) rfl ?_
  intro p e s m args below meth c s₁ B hml hv
  obtain ⟨rfl, hsz, hP, hK, hD0, hG⟩ := hv
  have hx := B.exec
  have hb := B.bytes
  have hr := B.returns
  have hA := sp_hA (atoms_spec (ws := (.code yM_keep cM_keep 3 none :: wA)) B.pre)
  have hown : s.vm.findClass rM = some m.cls := findClass_of_methodNamed B.named
  have hlocks := B.notSynchronized
  subst hsz
  have hD := hD0.self (sz := s.heap.size)
  generalize hAe : va_A ([(g0, .inr (0, [.ref gw, .ref go, .int n'])), (gw, .inl (cI, 48, .inl ws')), (go, .inl (cI, 48, .inl os')), (m0, .inr (2, [.ref aa, .int (nI k)])), (aa, .inl (cQ, 600, .inr (.inr (.inr (.inr (ar_f as))))))] ++ (ar_W cI as)) s.heap.size = A at hD ⊢
  have hF : ∀ q : Nat, s.heap.size ≤ q → A q := fun q h => by rw [← hAe]; exact Or.inr h
  have hS : va_S A s.heap s.heap [] := va_S.rf
  have hl := lv_entry ([.ref m0, .ref g0]) (n := 3) (Nat.le_of_ble_eq_true rfl)
  rw [lg_entry_eq]
  generalize (lg_sl ([.ref m0, .ref g0]) ++ List.replicate (3 - (lg_sl ([.ref m0, .ref g0])).length) Slot.unset).toArray = ls at hl ⊢
  have hl : lv_has ls 3 [(0, .ref m0), (1, .ref g0)] := hl
  refine lv_aload_n hx hb dM_keep_0 rfl (lv_at hl 0 rfl) ?_
  refine va_get (D := (dC, dI)) (ci := 2) (C := rM) (T := tM) (N := 2) hx hb hA inM hown hK hP 3 rfl rfl 1 (by decide) (hA _ wi_50) (fun _ h9 => h9) rfl dM_keep_1 ?_
  refine lv_if_lt (tgt := 17) hx hb dM_keep_4 (by decide) (fun c_4 => ?_) (fun c_4 => ?_)
  · exact absurd c_4 (nI_pos (by omega))
  · refine lv_aload_n hx hb dM_keep_7 rfl (lv_at hl 0 rfl) ?_
    refine va_get (D := (dC, dI)) (ci := 2) (C := rM) (T := tM) (N := 2) hx hb hA inM hown hK hP 3 rfl rfl 1 (by decide) (hA _ wi_50) (fun _ h9 => h9) rfl dM_keep_8 ?_
    refine lv_sipush (v := 600) hx hb dM_keep_11 (by decide) ?_
    refine lv_icmp_lt (tgt := 18) hx hb dM_keep_14 (by decide) (fun c_14 => ?_) (fun c_14 => ?_)
    · refine lv_aload_n hx hb dM_keep_18 rfl (lv_at hl 0 rfl) ?_
      refine va_get (D := (dC, dI)) (ci := 2) (C := rM) (T := tM) (N := 2) hx hb hA inM hown hK hP 3 rfl rfl 0 (by decide) (hA _ wi_49) (fun _ h9 => h9) rfl dM_keep_19 ?_
      refine lv_aload_n hx hb dM_keep_22 rfl (lv_at hl 0 rfl) ?_
      refine va_get (D := (dC, dI)) (ci := 2) (C := rM) (T := tM) (N := 2) hx hb hA inM hown hK hP 3 rfl rfl 1 (by decide) (hA _ wi_50) (fun _ h9 => h9) rfl dM_keep_23 ?_
      refine va_aldq hx hb hK hP 4 1 rfl rfl (vp_in_nI ((nI_ltI (a := k) (b := 600) (by omega) (by decide)).mp c_14) (by decide)) dM_keep_26 ?_
      have hk6 : k < 600 := (nI_ltI (a := k) (b := 600) (by omega) (by decide)).mp c_14
      have e1 : ar_f as (nI k).toNatClampNeg = (as[k]?).map (fun r => r.1.1) := by rw [nI_clamp (by omega)]; rfl
      rw [e1]
      rcases hq : as[k]? with _ | r
      · refine W.eq (g2 := F0 m 27 ls [.null]) rfl ?_
        have ek : k = as.length := Nat.le_antisymm hk (List.getElem?_eq_none_iff.mp hq)
        refine lv_astore_nN (lv' := [(2, .null), (0, .ref m0), (1, .ref g0)]) hx hb dM_keep_27 rfl hl (by decide) rfl (fun ls hl => ?_)
        refine lv_aload_nN hx hb dM_keep_28 rfl (lv_at hl 0 rfl) ?_
        refine lv_ifnonnullN hx hb dM_keep_29 ?_
        refine va_new (ci := 1) (fs := [.null, .int 0, .int 0]) (C := rA) (T := tA) (N := 3) hx hb hA inA tyA tyA_ok hown (hA _ wi_48) (hA _ wi_254) (hA _ wi_12) hK hP hD hS hF rfl (fun j hj => by rcases (show j = 0 ∨ j = 1 ∨ j = 2 by omega) with rfl | rfl | rfl <;> rfl) (Nat.le_of_ble_eq_true rfl) (Nat.le_of_ble_eq_true rfl) dM_keep_32 (fun q32 H hP hD hS => ?_)
        have hP := hP.swap
        have hD := hD.swap
        have hP : va_P (dC, dI) vwCl ([(g0, .inr (0, [.ref gw, .ref go, .int n'])), (gw, .inl (cI, 48, .inl ws')), (go, .inl (cI, 48, .inl os')), (m0, .inr (2, [.ref aa, .int (nI k)])), (aa, .inl (cQ, 600, .inr (.inr (.inr (.inr (ar_f as)))))), (q32, .inr (1, [.null, .int 0, .int 0]))] ++ (ar_W cI as)) H := hP
        have hD : va_D A ([(g0, .inr (0, [.ref gw, .ref go, .int n'])), (gw, .inl (cI, 48, .inl ws')), (go, .inl (cI, 48, .inl os')), (m0, .inr (2, [.ref aa, .int (nI k)])), (aa, .inl (cQ, 600, .inr (.inr (.inr (.inr (ar_f as)))))), (q32, .inr (1, [.null, .int 0, .int 0]))] ++ (ar_W cI as)) := hD
        refine lv_dup hx hb dM_keep_35 rfl ?_
        have hPc := hP.sub (ws' := [(q32, .inr (1, [.null, .int 0, .int 0]))]) [5] rfl
        have hDc := hD.sub (ws' := [(q32, .inr (1, [.null, .int 0, .int 0]))]) [5] (by decide) rfl
        have hFc := va_free (wc := [(q32, .inr (1, [.null, .int 0, .int 0]))]) hD hS hF [5] rfl
        refine va_callv (va_runIN (As := []) (rest := [.ref q32]) ⟨hx, hb, hml, hown, hA⟩ (kA_init l dC dI cI cQ q32 _) ⟨va_cnB 0 hA (gd_I wi_256) rfl rfl rfl hG.2.2.2.1 (hA _ wi_12) (by decide +kernel) ⟨Nat.le_of_ble_eq_true rfl, Nat.le_of_ble_eq_true rfl⟩, rfl, (hA _ wi_255)⟩ ⟨sp_Pb, sp_Po hPc hK hG hDc⟩ rfl rfl hl.1 rfl (lv_room (Nat.le_of_ble_eq_true rfl)) dM_keep_36 ⟨Nat.le_of_ble_eq_true rfl, Nat.le_of_ble_eq_true rfl⟩) hS (fun q _ h => hFc q h) hFc (fun u_36 t H locs ht hvm hw hB hz1 hk1 hS => ?_)
        obtain ⟨qp36, qw36, qo36⟩ := u_36
        try dsimp only at hB
        obtain ⟨hP1, hD1⟩ := hB
        rw [ht] at hP1
        obtain ⟨hP, hD⟩ := va_joinQ (X := [(g0, .inr (0, [.ref gw, .ref go, .int n'])), (gw, .inl (cI, 48, .inl ws')), (go, .inl (cI, 48, .inl os')), (m0, .inr (2, [.ref aa, .int (nI k)])), (aa, .inl (cQ, 600, .inr (.inr (.inr (.inr (ar_f as)))))), (q32, .inr (1, [.null, .int 0, .int 0]))]) (wr := [(g0, .inr (0, [.ref gw, .ref go, .int n'])), (gw, .inl (cI, 48, .inl ws')), (go, .inl (cI, 48, .inl os')), (m0, .inr (2, [.ref aa, .int (nI k)])), (aa, .inl (cQ, 600, .inr (.inr (.inr (.inr (ar_f as))))))]) (w1 := [(q32, .inr (1, [.ref qp36, .int 0, .int 0])), (qp36, .inr (0, [.ref qw36, .ref qo36, .int 0])), (qw36, .inl (cI, 48, .inl (fun _ => 0))), (qo36, .inl (cI, 48, .inl (fun _ => 0)))]) (pl := (ar_W cI as)) hP hD [5] [0, 1, 2, 3, 4] rfl rfl (by decide) (by decide) hk1 hFc hP1 hD1
        have hP : va_P (dC, dI) vwCl ([(g0, .inr (0, [.ref gw, .ref go, .int n'])), (gw, .inl (cI, 48, .inl ws')), (go, .inl (cI, 48, .inl os')), (m0, .inr (2, [.ref aa, .int (nI k)])), (aa, .inl (cQ, 600, .inr (.inr (.inr (.inr (ar_f as)))))), (q32, .inr (1, [.ref qp36, .int 0, .int 0])), (qp36, .inr (0, [.ref qw36, .ref qo36, .int 0])), (qw36, .inl (cI, 48, .inl (fun _ => 0))), (qo36, .inl (cI, 48, .inl (fun _ => 0)))] ++ (ar_W cI as)) H := hP
        have hD : va_D A ([(g0, .inr (0, [.ref gw, .ref go, .int n'])), (gw, .inl (cI, 48, .inl ws')), (go, .inl (cI, 48, .inl os')), (m0, .inr (2, [.ref aa, .int (nI k)])), (aa, .inl (cQ, 600, .inr (.inr (.inr (.inr (ar_f as)))))), (q32, .inr (1, [.ref qp36, .int 0, .int 0])), (qp36, .inr (0, [.ref qw36, .ref qo36, .int 0])), (qw36, .inl (cI, 48, .inl (fun _ => 0))), (qo36, .inl (cI, 48, .inl (fun _ => 0)))] ++ (ar_W cI as)) := hD
        refine lv_astore_n (lv' := [(2, .ref q32), (0, .ref m0), (1, .ref g0)]) hx hb dM_keep_39 rfl hl (by decide) rfl (fun ls hl => ?_)
        refine lv_aload_n hx hb dM_keep_40 rfl (lv_at hl 1 rfl) ?_
        refine va_get (D := (dC, dI)) (ci := 2) (C := rM) (T := tM) (N := 2) hx hb hA inM hown hK hP 3 rfl rfl 0 (by decide) (hA _ wi_49) (fun _ h9 => h9) rfl dM_keep_41 ?_
        refine lv_aload_n hx hb dM_keep_44 rfl (lv_at hl 1 rfl) ?_
        refine va_get (D := (dC, dI)) (ci := 2) (C := rM) (T := tM) (N := 2) hx hb hA inM hown hK hP 3 rfl rfl 1 (by decide) (hA _ wi_50) (fun _ h9 => h9) rfl dM_keep_45 ?_
        refine lv_aload_n hx hb dM_keep_48 rfl (lv_at hl 0 rfl) ?_
        refine va_astq hx hb hK hP hD hS 4 1 5 1 rfl rfl rfl rfl (vp_in_nI hk6 (by decide)) dM_keep_49 (fun H locs hP hD hS => ?_)
        have hP : va_P (dC, dI) vwCl ([(g0, .inr (0, [.ref gw, .ref go, .int n'])), (gw, .inl (cI, 48, .inl ws')), (go, .inl (cI, 48, .inl os')), (m0, .inr (2, [.ref aa, .int (nI k)])), (aa, .inl (cQ, 600, .inr (.inr (.inr (.inr (va_up (ar_f as) (Int32.toNatClampNeg (nI k)) (some q32))))))), (q32, .inr (1, [.ref qp36, .int 0, .int 0])), (qp36, .inr (0, [.ref qw36, .ref qo36, .int 0])), (qw36, .inl (cI, 48, .inl (fun _ => 0))), (qo36, .inl (cI, 48, .inl (fun _ => 0)))] ++ (ar_W cI as)) H := hP
        have hD : va_D A ([(g0, .inr (0, [.ref gw, .ref go, .int n'])), (gw, .inl (cI, 48, .inl ws')), (go, .inl (cI, 48, .inl os')), (m0, .inr (2, [.ref aa, .int (nI k)])), (aa, .inl (cQ, 600, .inr (.inr (.inr (.inr (va_up (ar_f as) (Int32.toNatClampNeg (nI k)) (some q32))))))), (q32, .inr (1, [.ref qp36, .int 0, .int 0])), (qp36, .inr (0, [.ref qw36, .ref qo36, .int 0])), (qw36, .inl (cI, 48, .inl (fun _ => 0))), (qo36, .inl (cI, 48, .inl (fun _ => 0)))] ++ (ar_W cI as)) := hD
        refine lv_aload_n hx hb dM_keep_50 rfl (lv_at hl 0 rfl) ?_
        refine lv_aload_n hx hb dM_keep_51 rfl (lv_at hl 2 rfl) ?_
        have hPc := hP.sub (ws' := [(q32, .inr (1, [.ref qp36, .int 0, .int 0])), (qp36, .inr (0, [.ref qw36, .ref qo36, .int 0])), (qw36, .inl (cI, 48, .inl (fun _ => 0))), (qo36, .inl (cI, 48, .inl (fun _ => 0))), (g0, .inr (0, [.ref gw, .ref go, .int n'])), (gw, .inl (cI, 48, .inl ws')), (go, .inl (cI, 48, .inl os'))]) [5, 6, 7, 8, 0, 1, 2] rfl
        have hDc := hD.sub (ws' := [(q32, .inr (1, [.ref qp36, .int 0, .int 0])), (qp36, .inr (0, [.ref qw36, .ref qo36, .int 0])), (qw36, .inl (cI, 48, .inl (fun _ => 0))), (qo36, .inl (cI, 48, .inl (fun _ => 0))), (g0, .inr (0, [.ref gw, .ref go, .int n'])), (gw, .inl (cI, 48, .inl ws')), (go, .inl (cI, 48, .inl os'))]) [5, 6, 7, 8, 0, 1, 2] (by decide) rfl
        have hFc := va_free (wc := [(q32, .inr (1, [.ref qp36, .int 0, .int 0])), (qp36, .inr (0, [.ref qw36, .ref qo36, .int 0])), (qw36, .inl (cI, 48, .inl (fun _ => 0))), (qo36, .inl (cI, 48, .inl (fun _ => 0))), (g0, .inr (0, [.ref gw, .ref go, .int n'])), (gw, .inl (cI, 48, .inl ws')), (go, .inl (cI, 48, .inl os'))]) hD hS hF [5, 6, 7, 8, 0, 1, 2] rfl
        refine va_callv (va_runV (As := [.ref g0]) (rest := []) ⟨hx, hb, hml, hown, hA⟩ (kA_open l dC dI cI cQ q32 qp36 0 0 qw36 qo36 0 (fun _ => 0) (fun _ => 0) g0 gw go n' ws' os' _) (cwV 1 hA (gd_V wi_269 wi_270 wi_271 wi_12 wi_272) rfl rfl rfl (by decide +kernel) ⟨Nat.le_of_ble_eq_true rfl, Nat.le_of_ble_eq_true rfl⟩) ⟨sp_Pb, va_recv hK hP (ci := 1) (q0 := 5) rfl rfl, sp_Po hPc hK hG hDc⟩ rfl rfl hl.1 rfl (lv_room (Nat.le_of_ble_eq_true rfl)) dM_keep_52 ⟨Nat.le_of_ble_eq_true rfl, Nat.le_of_ble_eq_true rfl⟩) hS (fun q _ h => hFc q h) hFc (fun u_52 t H locs ht hvm hw hB hz1 hk1 hS => ?_)
        obtain ⟨hP1, hD1⟩ := hB
        rw [ht] at hP1
        obtain ⟨hP, hD⟩ := va_joinQ (X := [(g0, .inr (0, [.ref gw, .ref go, .int n'])), (gw, .inl (cI, 48, .inl ws')), (go, .inl (cI, 48, .inl os')), (m0, .inr (2, [.ref aa, .int (nI k)])), (aa, .inl (cQ, 600, .inr (.inr (.inr (.inr (va_up (ar_f as) (Int32.toNatClampNeg (nI k)) (some q32))))))), (q32, .inr (1, [.ref qp36, .int 0, .int 0])), (qp36, .inr (0, [.ref qw36, .ref qo36, .int 0])), (qw36, .inl (cI, 48, .inl (fun _ => 0))), (qo36, .inl (cI, 48, .inl (fun _ => 0)))]) (wr := [(m0, .inr (2, [.ref aa, .int (nI k)])), (aa, .inl (cQ, 600, .inr (.inr (.inr (.inr (va_up (ar_f as) (Int32.toNatClampNeg (nI k)) (some q32)))))))]) (w1 := [(q32, .inr (1, [.ref qp36, .int (pg_mark (pg_cp ws' (fun _ => 0) (pg_cpN n').toNatClampNeg) (pg_cpN n')), .int (-2)])), (qp36, .inr (0, [.ref qw36, .ref qo36, .int (pg_cpN n')])), (qw36, .inl (cI, 48, .inl (pg_cp ws' (fun _ => 0) (pg_cpN n').toNatClampNeg))), (qo36, .inl (cI, 48, .inl (pg_cp os' (fun _ => 0) (pg_cpN n').toNatClampNeg))), (g0, .inr (0, [.ref gw, .ref go, .int n'])), (gw, .inl (cI, 48, .inl ws')), (go, .inl (cI, 48, .inl os'))]) (pl := (ar_W cI as)) hP hD [5, 6, 7, 8, 0, 1, 2] [3, 4] rfl rfl (by decide) (by decide) hk1 hFc hP1 hD1
        have hP : va_P (dC, dI) vwCl ([(m0, .inr (2, [.ref aa, .int (nI k)])), (aa, .inl (cQ, 600, .inr (.inr (.inr (.inr (va_up (ar_f as) (Int32.toNatClampNeg (nI k)) (some q32))))))), (q32, .inr (1, [.ref qp36, .int (pg_mark (pg_cp ws' (fun _ => 0) (pg_cpN n').toNatClampNeg) (pg_cpN n')), .int (-2)])), (qp36, .inr (0, [.ref qw36, .ref qo36, .int (pg_cpN n')])), (qw36, .inl (cI, 48, .inl (pg_cp ws' (fun _ => 0) (pg_cpN n').toNatClampNeg))), (qo36, .inl (cI, 48, .inl (pg_cp os' (fun _ => 0) (pg_cpN n').toNatClampNeg))), (g0, .inr (0, [.ref gw, .ref go, .int n'])), (gw, .inl (cI, 48, .inl ws')), (go, .inl (cI, 48, .inl os'))] ++ (ar_W cI as)) H := hP
        have hD : va_D A ([(m0, .inr (2, [.ref aa, .int (nI k)])), (aa, .inl (cQ, 600, .inr (.inr (.inr (.inr (va_up (ar_f as) (Int32.toNatClampNeg (nI k)) (some q32))))))), (q32, .inr (1, [.ref qp36, .int (pg_mark (pg_cp ws' (fun _ => 0) (pg_cpN n').toNatClampNeg) (pg_cpN n')), .int (-2)])), (qp36, .inr (0, [.ref qw36, .ref qo36, .int (pg_cpN n')])), (qw36, .inl (cI, 48, .inl (pg_cp ws' (fun _ => 0) (pg_cpN n').toNatClampNeg))), (qo36, .inl (cI, 48, .inl (pg_cp os' (fun _ => 0) (pg_cpN n').toNatClampNeg))), (g0, .inr (0, [.ref gw, .ref go, .int n'])), (gw, .inl (cI, 48, .inl ws')), (go, .inl (cI, 48, .inl os'))] ++ (ar_W cI as)) := hD
        refine lv_aload_n hx hb dM_keep_55 rfl (lv_at hl 1 rfl) ?_
        refine lv_dup hx hb dM_keep_56 rfl ?_
        refine va_get (D := (dC, dI)) (ci := 2) (C := rM) (T := tM) (N := 2) hx hb hA inM hown hK hP 0 rfl rfl 1 (by decide) (hA _ wi_50) (fun _ h9 => h9) rfl dM_keep_57 ?_
        refine lv_iconst (v := 1) hx hb dM_keep_60 (by decide) ?_
        refine lv_iadd hx hb dM_keep_61 ?_
        refine va_put (D := (dC, dI)) (ci := 2) (v := .int ((nI k) + 1)) (ty := .int) (C := rM) (T := tM) (N := 2) hx hb hA inM tyM tyM_ok nmM hown hK hP hD hS 0 rfl rfl 1 (by decide) (hA _ wi_50) (fun _ h9 => h9) rfl (by decide +kernel) rfl rfl (Nat.le_of_ble_eq_true rfl) dM_keep_62 (fun H locs hP hD hS => ?_)
        have hP : va_P (dC, dI) vwCl ([(m0, .inr (2, [.ref aa, .int ((nI k) + 1)])), (aa, .inl (cQ, 600, .inr (.inr (.inr (.inr (va_up (ar_f as) (Int32.toNatClampNeg (nI k)) (some q32))))))), (q32, .inr (1, [.ref qp36, .int (pg_mark (pg_cp ws' (fun _ => 0) (pg_cpN n').toNatClampNeg) (pg_cpN n')), .int (-2)])), (qp36, .inr (0, [.ref qw36, .ref qo36, .int (pg_cpN n')])), (qw36, .inl (cI, 48, .inl (pg_cp ws' (fun _ => 0) (pg_cpN n').toNatClampNeg))), (qo36, .inl (cI, 48, .inl (pg_cp os' (fun _ => 0) (pg_cpN n').toNatClampNeg))), (g0, .inr (0, [.ref gw, .ref go, .int n'])), (gw, .inl (cI, 48, .inl ws')), (go, .inl (cI, 48, .inl os'))] ++ (ar_W cI as)) H := hP
        have hD : va_D A ([(m0, .inr (2, [.ref aa, .int ((nI k) + 1)])), (aa, .inl (cQ, 600, .inr (.inr (.inr (.inr (va_up (ar_f as) (Int32.toNatClampNeg (nI k)) (some q32))))))), (q32, .inr (1, [.ref qp36, .int (pg_mark (pg_cp ws' (fun _ => 0) (pg_cpN n').toNatClampNeg) (pg_cpN n')), .int (-2)])), (qp36, .inr (0, [.ref qw36, .ref qo36, .int (pg_cpN n')])), (qw36, .inl (cI, 48, .inl (pg_cp ws' (fun _ => 0) (pg_cpN n').toNatClampNeg))), (qo36, .inl (cI, 48, .inl (pg_cp os' (fun _ => 0) (pg_cpN n').toNatClampNeg))), (g0, .inr (0, [.ref gw, .ref go, .int n'])), (gw, .inl (cI, 48, .inl ws')), (go, .inl (cI, 48, .inl os'))] ++ (ar_W cI as)) := hD
        have efl : nI (mm_fl k) = nI k + 1 := by rw [mm_fl, if_pos hk6, nI_1]
        have hP := hP.part (cx := [(g0, .inr (0, [.ref gw, .ref go, .int n'])), (gw, .inl (cI, 48, .inl ws')), (go, .inl (cI, 48, .inl os')), (m0, .inr (2, [.ref aa, .int ((nI k) + 1)])), (aa, .inl (cQ, 600, .inr (.inr (.inr (.inr (va_up (ar_f as) (Int32.toNatClampNeg (nI k)) (some q32))))))), (q32, .inr (1, [.ref qp36, .int (pg_mark (pg_cp ws' (fun _ => 0) (pg_cpN n').toNatClampNeg) (pg_cpN n')), .int (-2)])), (qp36, .inr (0, [.ref qw36, .ref qo36, .int (pg_cpN n')])), (qw36, .inl (cI, 48, .inl (pg_cp ws' (fun _ => 0) (pg_cpN n').toNatClampNeg))), (qo36, .inl (cI, 48, .inl (pg_cp os' (fun _ => 0) (pg_cpN n').toNatClampNeg)))]) [6, 7, 8, 0, 1, 2, 3, 4, 5] rfl
        have hD := hD.part (cx := [(g0, .inr (0, [.ref gw, .ref go, .int n'])), (gw, .inl (cI, 48, .inl ws')), (go, .inl (cI, 48, .inl os')), (m0, .inr (2, [.ref aa, .int ((nI k) + 1)])), (aa, .inl (cQ, 600, .inr (.inr (.inr (.inr (va_up (ar_f as) (Int32.toNatClampNeg (nI k)) (some q32))))))), (q32, .inr (1, [.ref qp36, .int (pg_mark (pg_cp ws' (fun _ => 0) (pg_cpN n').toNatClampNeg) (pg_cpN n')), .int (-2)])), (qp36, .inr (0, [.ref qw36, .ref qo36, .int (pg_cpN n')])), (qw36, .inl (cI, 48, .inl (pg_cp ws' (fun _ => 0) (pg_cpN n').toNatClampNeg))), (qo36, .inl (cI, 48, .inl (pg_cp os' (fun _ => 0) (pg_cpN n').toNatClampNeg)))]) [6, 7, 8, 0, 1, 2, 3, 4, 5] (by decide) rfl
        obtain ⟨r', er⟩ : ∃ r' : AR, r' = ((q32, qp36, qw36, qo36), (pg_mark (pg_cp ws' (fun _ => 0) (pg_cpN n').toNatClampNeg) (pg_cpN n')), (-2), (pg_cpN n'), (pg_cp ws' (fun _ => 0) (pg_cpN n').toNatClampNeg), (pg_cp os' (fun _ => 0) (pg_cpN n').toNatClampNeg)) := ⟨_, rfl⟩
        have ec : ar_cells cI r' = [(q32, .inr (1, [.ref qp36, .int (pg_mark (pg_cp ws' (fun _ => 0) (pg_cpN n').toNatClampNeg) (pg_cpN n')), .int (-2)])), (qp36, .inr (0, [.ref qw36, .ref qo36, .int (pg_cpN n')])), (qw36, .inl (cI, 48, .inl (pg_cp ws' (fun _ => 0) (pg_cpN n').toNatClampNeg))), (qo36, .inl (cI, 48, .inl (pg_cp os' (fun _ => 0) (pg_cpN n').toNatClampNeg)))] := by rw [er]; rfl
        have ef : (va_up (ar_f as) (Int32.toNatClampNeg (nI k)) (some q32)) = ar_f (as ++ [r']) := by rw [nI_clamp (by omega), ek, show q32 = r'.1.1 by rw [er]]; exact ar_f_up as r'
        rw [ef] at hP hD
        have hP : va_P (dC, dI) vwCl (([(g0, .inr (0, [.ref gw, .ref go, .int n'])), (gw, .inl (cI, 48, .inl ws')), (go, .inl (cI, 48, .inl os')), (m0, .inr (2, [.ref aa, .int ((nI k) + 1)])), (aa, .inl (cQ, 600, .inr (.inr (.inr (.inr (ar_f (as ++ [r'])))))))] ++ ar_cells cI r') ++ ar_W cI as) H := by rw [ec]; exact hP
        have hD : va_D A (([(g0, .inr (0, [.ref gw, .ref go, .int n'])), (gw, .inl (cI, 48, .inl ws')), (go, .inl (cI, 48, .inl os')), (m0, .inr (2, [.ref aa, .int ((nI k) + 1)])), (aa, .inl (cQ, 600, .inr (.inr (.inr (.inr (ar_f (as ++ [r'])))))))] ++ ar_cells cI r') ++ ar_W cI as) := by rw [ec]; exact hD
        have hP := hP.swap
        have hD := hD.swap
        rw [List.append_assoc] at hP hD
        have eW : ar_W cI (as ++ [r']) = ar_W cI as ++ ar_cells cI r' := by rw [ar_app]; show _ ++ (_ ++ []) = _; rw [List.append_nil]
        have hPe : va_P (dC, dI) vwCl ([(g0, .inr (0, [.ref gw, .ref go, .int n'])), (gw, .inl (cI, 48, .inl ws')), (go, .inl (cI, 48, .inl os')), (m0, .inr (2, [.ref aa, .int (nI (mm_fl k))])), (aa, .inl (cQ, 600, .inr (.inr (.inr (.inr (ar_f (as ++ [r'])))))))] ++ ar_W cI (as ++ [r'])) H := by rw [efl, eW]; exact hP
        have hDe : va_D A ([(g0, .inr (0, [.ref gw, .ref go, .int n'])), (gw, .inl (cI, 48, .inl ws')), (go, .inl (cI, 48, .inl os')), (m0, .inr (2, [.ref aa, .int (nI (mm_fl k))])), (aa, .inl (cQ, 600, .inr (.inr (.inr (.inr (ar_f (as ++ [r'])))))))] ++ ar_W cI (as ++ [r'])) := by rw [efl, eW]; exact hD
        refine W.widen (k := 4) (n := 102) (by omega) (by omega) ?_
        exact W.vret hx hb hr (fun t ht _ => ⟨⟨(as ++ [r']), rfl, mm_kept_app ek hk6 er, by rw [ht]; exact hPe, hDe⟩, hS.F ht⟩) hS.2.2 dM_keep_65
      · refine W.eq (g2 := F0 m 27 ls [.ref r.1.1]) rfl ?_
        obtain ⟨l1, l2, eas, elen, eW⟩ := ar_split (cI := cI) hq
        rw [eW] at hP hD
        have hP := va_P_perm hP (pm_out _ _ _ _)
        have hD := va_D_perm hD (pm_out _ _ _ _)
        have hP : va_P (dC, dI) vwCl ([(g0, .inr (0, [.ref gw, .ref go, .int n'])), (gw, .inl (cI, 48, .inl ws')), (go, .inl (cI, 48, .inl os')), (m0, .inr (2, [.ref aa, .int (nI k)])), (aa, .inl (cQ, 600, .inr (.inr (.inr (.inr (ar_f as)))))), (r.1.1, .inr (1, [.ref r.1.2.1, .int r.2.1, .int r.2.2.1])), (r.1.2.1, .inr (0, [.ref r.1.2.2.1, .ref r.1.2.2.2, .int r.2.2.2.1])), (r.1.2.2.1, .inl (cI, 48, .inl r.2.2.2.2.1)), (r.1.2.2.2, .inl (cI, 48, .inl r.2.2.2.2.2))] ++ (ar_W cI l1 ++ ar_W cI l2)) s.heap := hP
        have hD : va_D A ([(g0, .inr (0, [.ref gw, .ref go, .int n'])), (gw, .inl (cI, 48, .inl ws')), (go, .inl (cI, 48, .inl os')), (m0, .inr (2, [.ref aa, .int (nI k)])), (aa, .inl (cQ, 600, .inr (.inr (.inr (.inr (ar_f as)))))), (r.1.1, .inr (1, [.ref r.1.2.1, .int r.2.1, .int r.2.2.1])), (r.1.2.1, .inr (0, [.ref r.1.2.2.1, .ref r.1.2.2.2, .int r.2.2.2.1])), (r.1.2.2.1, .inl (cI, 48, .inl r.2.2.2.2.1)), (r.1.2.2.2, .inl (cI, 48, .inl r.2.2.2.2.2))] ++ (ar_W cI l1 ++ ar_W cI l2)) := hD
        refine lv_astore_n (lv' := [(2, .ref r.1.1), (0, .ref m0), (1, .ref g0)]) hx hb dM_keep_27 rfl hl (by decide) rfl (fun ls hl => ?_)
        refine lv_aload_n hx hb dM_keep_28 rfl (lv_at hl 0 rfl) ?_
        refine lv_ifnonnull (tgt := 50) hx hb dM_keep_29 (by decide) ?_
        refine lv_aload_n hx hb dM_keep_50 rfl (lv_at hl 0 rfl) ?_
        refine lv_aload_n hx hb dM_keep_51 rfl (lv_at hl 2 rfl) ?_
        have hPc := hP.sub (ws' := [(r.1.1, .inr (1, [.ref r.1.2.1, .int r.2.1, .int r.2.2.1])), (r.1.2.1, .inr (0, [.ref r.1.2.2.1, .ref r.1.2.2.2, .int r.2.2.2.1])), (r.1.2.2.1, .inl (cI, 48, .inl r.2.2.2.2.1)), (r.1.2.2.2, .inl (cI, 48, .inl r.2.2.2.2.2)), (g0, .inr (0, [.ref gw, .ref go, .int n'])), (gw, .inl (cI, 48, .inl ws')), (go, .inl (cI, 48, .inl os'))]) [5, 6, 7, 8, 0, 1, 2] rfl
        have hDc := hD.sub (ws' := [(r.1.1, .inr (1, [.ref r.1.2.1, .int r.2.1, .int r.2.2.1])), (r.1.2.1, .inr (0, [.ref r.1.2.2.1, .ref r.1.2.2.2, .int r.2.2.2.1])), (r.1.2.2.1, .inl (cI, 48, .inl r.2.2.2.2.1)), (r.1.2.2.2, .inl (cI, 48, .inl r.2.2.2.2.2)), (g0, .inr (0, [.ref gw, .ref go, .int n'])), (gw, .inl (cI, 48, .inl ws')), (go, .inl (cI, 48, .inl os'))]) [5, 6, 7, 8, 0, 1, 2] (by decide) rfl
        have hFc := va_free (wc := [(r.1.1, .inr (1, [.ref r.1.2.1, .int r.2.1, .int r.2.2.1])), (r.1.2.1, .inr (0, [.ref r.1.2.2.1, .ref r.1.2.2.2, .int r.2.2.2.1])), (r.1.2.2.1, .inl (cI, 48, .inl r.2.2.2.2.1)), (r.1.2.2.2, .inl (cI, 48, .inl r.2.2.2.2.2)), (g0, .inr (0, [.ref gw, .ref go, .int n'])), (gw, .inl (cI, 48, .inl ws')), (go, .inl (cI, 48, .inl os'))]) hD hS hF [5, 6, 7, 8, 0, 1, 2] rfl
        refine va_callv (va_runV (As := [.ref g0]) (rest := []) ⟨hx, hb, hml, hown, hA⟩ (kA_open l dC dI cI cQ r.1.1 r.1.2.1 r.2.1 r.2.2.1 r.1.2.2.1 r.1.2.2.2 r.2.2.2.1 r.2.2.2.2.1 r.2.2.2.2.2 g0 gw go n' ws' os' _) (cwV 1 hA (gd_V wi_269 wi_270 wi_271 wi_12 wi_272) rfl rfl rfl (by decide +kernel) ⟨Nat.le_of_ble_eq_true rfl, Nat.le_of_ble_eq_true rfl⟩) ⟨sp_Pb, va_recv hK hP (ci := 1) (q0 := 5) rfl rfl, sp_Po hPc hK hG hDc⟩ rfl rfl hl.1 rfl (lv_room (Nat.le_of_ble_eq_true rfl)) dM_keep_52 ⟨Nat.le_of_ble_eq_true rfl, Nat.le_of_ble_eq_true rfl⟩) hS (fun q _ h => hFc q h) hFc (fun u_52 t H locs ht hvm hw hB hz1 hk1 hS => ?_)
        obtain ⟨hP1, hD1⟩ := hB
        rw [ht] at hP1
        obtain ⟨hP, hD⟩ := va_joinQ (X := [(g0, .inr (0, [.ref gw, .ref go, .int n'])), (gw, .inl (cI, 48, .inl ws')), (go, .inl (cI, 48, .inl os')), (m0, .inr (2, [.ref aa, .int (nI k)])), (aa, .inl (cQ, 600, .inr (.inr (.inr (.inr (ar_f as)))))), (r.1.1, .inr (1, [.ref r.1.2.1, .int r.2.1, .int r.2.2.1])), (r.1.2.1, .inr (0, [.ref r.1.2.2.1, .ref r.1.2.2.2, .int r.2.2.2.1])), (r.1.2.2.1, .inl (cI, 48, .inl r.2.2.2.2.1)), (r.1.2.2.2, .inl (cI, 48, .inl r.2.2.2.2.2))]) (wr := [(m0, .inr (2, [.ref aa, .int (nI k)])), (aa, .inl (cQ, 600, .inr (.inr (.inr (.inr (ar_f as))))))]) (w1 := [(r.1.1, .inr (1, [.ref r.1.2.1, .int (pg_mark (pg_cp ws' r.2.2.2.2.1 (pg_cpN n').toNatClampNeg) (pg_cpN n')), .int (-2)])), (r.1.2.1, .inr (0, [.ref r.1.2.2.1, .ref r.1.2.2.2, .int (pg_cpN n')])), (r.1.2.2.1, .inl (cI, 48, .inl (pg_cp ws' r.2.2.2.2.1 (pg_cpN n').toNatClampNeg))), (r.1.2.2.2, .inl (cI, 48, .inl (pg_cp os' r.2.2.2.2.2 (pg_cpN n').toNatClampNeg))), (g0, .inr (0, [.ref gw, .ref go, .int n'])), (gw, .inl (cI, 48, .inl ws')), (go, .inl (cI, 48, .inl os'))]) (pl := (ar_W cI l1 ++ ar_W cI l2)) hP hD [5, 6, 7, 8, 0, 1, 2] [3, 4] rfl rfl (by decide) (by decide) hk1 hFc hP1 hD1
        have hP : va_P (dC, dI) vwCl ([(m0, .inr (2, [.ref aa, .int (nI k)])), (aa, .inl (cQ, 600, .inr (.inr (.inr (.inr (ar_f as)))))), (r.1.1, .inr (1, [.ref r.1.2.1, .int (pg_mark (pg_cp ws' r.2.2.2.2.1 (pg_cpN n').toNatClampNeg) (pg_cpN n')), .int (-2)])), (r.1.2.1, .inr (0, [.ref r.1.2.2.1, .ref r.1.2.2.2, .int (pg_cpN n')])), (r.1.2.2.1, .inl (cI, 48, .inl (pg_cp ws' r.2.2.2.2.1 (pg_cpN n').toNatClampNeg))), (r.1.2.2.2, .inl (cI, 48, .inl (pg_cp os' r.2.2.2.2.2 (pg_cpN n').toNatClampNeg))), (g0, .inr (0, [.ref gw, .ref go, .int n'])), (gw, .inl (cI, 48, .inl ws')), (go, .inl (cI, 48, .inl os'))] ++ (ar_W cI l1 ++ ar_W cI l2)) H := hP
        have hD : va_D A ([(m0, .inr (2, [.ref aa, .int (nI k)])), (aa, .inl (cQ, 600, .inr (.inr (.inr (.inr (ar_f as)))))), (r.1.1, .inr (1, [.ref r.1.2.1, .int (pg_mark (pg_cp ws' r.2.2.2.2.1 (pg_cpN n').toNatClampNeg) (pg_cpN n')), .int (-2)])), (r.1.2.1, .inr (0, [.ref r.1.2.2.1, .ref r.1.2.2.2, .int (pg_cpN n')])), (r.1.2.2.1, .inl (cI, 48, .inl (pg_cp ws' r.2.2.2.2.1 (pg_cpN n').toNatClampNeg))), (r.1.2.2.2, .inl (cI, 48, .inl (pg_cp os' r.2.2.2.2.2 (pg_cpN n').toNatClampNeg))), (g0, .inr (0, [.ref gw, .ref go, .int n'])), (gw, .inl (cI, 48, .inl ws')), (go, .inl (cI, 48, .inl os'))] ++ (ar_W cI l1 ++ ar_W cI l2)) := hD
        refine lv_aload_n hx hb dM_keep_55 rfl (lv_at hl 1 rfl) ?_
        refine lv_dup hx hb dM_keep_56 rfl ?_
        refine va_get (D := (dC, dI)) (ci := 2) (C := rM) (T := tM) (N := 2) hx hb hA inM hown hK hP 0 rfl rfl 1 (by decide) (hA _ wi_50) (fun _ h9 => h9) rfl dM_keep_57 ?_
        refine lv_iconst (v := 1) hx hb dM_keep_60 (by decide) ?_
        refine lv_iadd hx hb dM_keep_61 ?_
        refine va_put (D := (dC, dI)) (ci := 2) (v := .int ((nI k) + 1)) (ty := .int) (C := rM) (T := tM) (N := 2) hx hb hA inM tyM tyM_ok nmM hown hK hP hD hS 0 rfl rfl 1 (by decide) (hA _ wi_50) (fun _ h9 => h9) rfl (by decide +kernel) rfl rfl (Nat.le_of_ble_eq_true rfl) dM_keep_62 (fun H locs hP hD hS => ?_)
        have hP : va_P (dC, dI) vwCl ([(m0, .inr (2, [.ref aa, .int ((nI k) + 1)])), (aa, .inl (cQ, 600, .inr (.inr (.inr (.inr (ar_f as)))))), (r.1.1, .inr (1, [.ref r.1.2.1, .int (pg_mark (pg_cp ws' r.2.2.2.2.1 (pg_cpN n').toNatClampNeg) (pg_cpN n')), .int (-2)])), (r.1.2.1, .inr (0, [.ref r.1.2.2.1, .ref r.1.2.2.2, .int (pg_cpN n')])), (r.1.2.2.1, .inl (cI, 48, .inl (pg_cp ws' r.2.2.2.2.1 (pg_cpN n').toNatClampNeg))), (r.1.2.2.2, .inl (cI, 48, .inl (pg_cp os' r.2.2.2.2.2 (pg_cpN n').toNatClampNeg))), (g0, .inr (0, [.ref gw, .ref go, .int n'])), (gw, .inl (cI, 48, .inl ws')), (go, .inl (cI, 48, .inl os'))] ++ (ar_W cI l1 ++ ar_W cI l2)) H := hP
        have hD : va_D A ([(m0, .inr (2, [.ref aa, .int ((nI k) + 1)])), (aa, .inl (cQ, 600, .inr (.inr (.inr (.inr (ar_f as)))))), (r.1.1, .inr (1, [.ref r.1.2.1, .int (pg_mark (pg_cp ws' r.2.2.2.2.1 (pg_cpN n').toNatClampNeg) (pg_cpN n')), .int (-2)])), (r.1.2.1, .inr (0, [.ref r.1.2.2.1, .ref r.1.2.2.2, .int (pg_cpN n')])), (r.1.2.2.1, .inl (cI, 48, .inl (pg_cp ws' r.2.2.2.2.1 (pg_cpN n').toNatClampNeg))), (r.1.2.2.2, .inl (cI, 48, .inl (pg_cp os' r.2.2.2.2.2 (pg_cpN n').toNatClampNeg))), (g0, .inr (0, [.ref gw, .ref go, .int n'])), (gw, .inl (cI, 48, .inl ws')), (go, .inl (cI, 48, .inl os'))] ++ (ar_W cI l1 ++ ar_W cI l2)) := hD
        have efl : nI (mm_fl k) = nI k + 1 := by rw [mm_fl, if_pos hk6, nI_1]
        have hP := hP.part (cx := [(g0, .inr (0, [.ref gw, .ref go, .int n'])), (gw, .inl (cI, 48, .inl ws')), (go, .inl (cI, 48, .inl os')), (m0, .inr (2, [.ref aa, .int ((nI k) + 1)])), (aa, .inl (cQ, 600, .inr (.inr (.inr (.inr (ar_f as)))))), (r.1.1, .inr (1, [.ref r.1.2.1, .int (pg_mark (pg_cp ws' r.2.2.2.2.1 (pg_cpN n').toNatClampNeg) (pg_cpN n')), .int (-2)])), (r.1.2.1, .inr (0, [.ref r.1.2.2.1, .ref r.1.2.2.2, .int (pg_cpN n')])), (r.1.2.2.1, .inl (cI, 48, .inl (pg_cp ws' r.2.2.2.2.1 (pg_cpN n').toNatClampNeg))), (r.1.2.2.2, .inl (cI, 48, .inl (pg_cp os' r.2.2.2.2.2 (pg_cpN n').toNatClampNeg)))]) [6, 7, 8, 0, 1, 2, 3, 4, 5] rfl
        have hD := hD.part (cx := [(g0, .inr (0, [.ref gw, .ref go, .int n'])), (gw, .inl (cI, 48, .inl ws')), (go, .inl (cI, 48, .inl os')), (m0, .inr (2, [.ref aa, .int ((nI k) + 1)])), (aa, .inl (cQ, 600, .inr (.inr (.inr (.inr (ar_f as)))))), (r.1.1, .inr (1, [.ref r.1.2.1, .int (pg_mark (pg_cp ws' r.2.2.2.2.1 (pg_cpN n').toNatClampNeg) (pg_cpN n')), .int (-2)])), (r.1.2.1, .inr (0, [.ref r.1.2.2.1, .ref r.1.2.2.2, .int (pg_cpN n')])), (r.1.2.2.1, .inl (cI, 48, .inl (pg_cp ws' r.2.2.2.2.1 (pg_cpN n').toNatClampNeg))), (r.1.2.2.2, .inl (cI, 48, .inl (pg_cp os' r.2.2.2.2.2 (pg_cpN n').toNatClampNeg)))]) [6, 7, 8, 0, 1, 2, 3, 4, 5] (by decide) rfl
        obtain ⟨r', er⟩ : ∃ r' : AR, r' = ((r.1.1, r.1.2.1, r.1.2.2.1, r.1.2.2.2), (pg_mark (pg_cp ws' r.2.2.2.2.1 (pg_cpN n').toNatClampNeg) (pg_cpN n')), (-2), (pg_cpN n'), (pg_cp ws' r.2.2.2.2.1 (pg_cpN n').toNatClampNeg), (pg_cp os' r.2.2.2.2.2 (pg_cpN n').toNatClampNeg)) := ⟨_, rfl⟩
        have ec : ar_cells cI r' = [(r.1.1, .inr (1, [.ref r.1.2.1, .int (pg_mark (pg_cp ws' r.2.2.2.2.1 (pg_cpN n').toNatClampNeg) (pg_cpN n')), .int (-2)])), (r.1.2.1, .inr (0, [.ref r.1.2.2.1, .ref r.1.2.2.2, .int (pg_cpN n')])), (r.1.2.2.1, .inl (cI, 48, .inl (pg_cp ws' r.2.2.2.2.1 (pg_cpN n').toNatClampNeg))), (r.1.2.2.2, .inl (cI, 48, .inl (pg_cp os' r.2.2.2.2.2 (pg_cpN n').toNatClampNeg)))] := by rw [er]; rfl
        have hP : va_P (dC, dI) vwCl (([(g0, .inr (0, [.ref gw, .ref go, .int n'])), (gw, .inl (cI, 48, .inl ws')), (go, .inl (cI, 48, .inl os')), (m0, .inr (2, [.ref aa, .int ((nI k) + 1)])), (aa, .inl (cQ, 600, .inr (.inr (.inr (.inr (ar_f as))))))] ++ ar_cells cI r') ++ (ar_W cI l1 ++ ar_W cI l2)) H := by rw [ec]; exact hP
        have hD : va_D A (([(g0, .inr (0, [.ref gw, .ref go, .int n'])), (gw, .inl (cI, 48, .inl ws')), (go, .inl (cI, 48, .inl os')), (m0, .inr (2, [.ref aa, .int ((nI k) + 1)])), (aa, .inl (cQ, 600, .inr (.inr (.inr (.inr (ar_f as))))))] ++ ar_cells cI r') ++ (ar_W cI l1 ++ ar_W cI l2)) := by rw [ec]; exact hD
        have hP := va_P_perm hP (pm_out _ _ _ _).symm
        have hD := va_D_perm hD (pm_out _ _ _ _).symm
        rw [← ar_W1] at hP hD
        have ef : ar_f (l1 ++ r' :: l2) = ar_f as := by rw [eas, er]; exact ar_f_set rfl
        have hPe : va_P (dC, dI) vwCl ([(g0, .inr (0, [.ref gw, .ref go, .int n'])), (gw, .inl (cI, 48, .inl ws')), (go, .inl (cI, 48, .inl os')), (m0, .inr (2, [.ref aa, .int (nI (mm_fl k))])), (aa, .inl (cQ, 600, .inr (.inr (.inr (.inr (ar_f (l1 ++ r' :: l2)))))))] ++ ar_W cI (l1 ++ r' :: l2)) H := by rw [efl, ef]; exact hP
        have hDe : va_D A ([(g0, .inr (0, [.ref gw, .ref go, .int n'])), (gw, .inl (cI, 48, .inl ws')), (go, .inl (cI, 48, .inl os')), (m0, .inr (2, [.ref aa, .int (nI (mm_fl k))])), (aa, .inl (cQ, 600, .inr (.inr (.inr (.inr (ar_f (l1 ++ r' :: l2)))))))] ++ ar_W cI (l1 ++ r' :: l2)) := by rw [efl, ef]; exact hD
        refine W.widen (k := 4) (n := 102) (by omega) (by omega) ?_
        exact W.vret hx hb hr (fun t ht _ => ⟨⟨(l1 ++ r' :: l2), rfl, mm_kept_set eas elen hlen hk6 er, by rw [ht]; exact hPe, hDe⟩, hS.F ht⟩) hS.2.2 dM_keep_65
    · have hk6 : ¬ k < 600 := fun h => c_14 ((nI_ltI (a := k) (b := 600) (by omega) (by decide)).mpr h)
      have efl : mm_fl k = k := if_neg hk6
      have hPe : va_P (dC, dI) vwCl ([(g0, .inr (0, [.ref gw, .ref go, .int n'])), (gw, .inl (cI, 48, .inl ws')), (go, .inl (cI, 48, .inl os')), (m0, .inr (2, [.ref aa, .int (nI (mm_fl k))])), (aa, .inl (cQ, 600, .inr (.inr (.inr (.inr (ar_f as))))))] ++ ar_W cI as) s.heap := by rw [efl]; exact hP
      have hDe : va_D A ([(g0, .inr (0, [.ref gw, .ref go, .int n'])), (gw, .inl (cI, 48, .inl ws')), (go, .inl (cI, 48, .inl os')), (m0, .inr (2, [.ref aa, .int (nI (mm_fl k))])), (aa, .inl (cQ, 600, .inr (.inr (.inr (.inr (ar_f as))))))] ++ ar_W cI as) := by rw [efl]; exact hD
      refine W.widen (k := 4) (n := 102) (by omega) (by omega) ?_
      exact W.vret hx hb hr (fun t ht _ => ⟨⟨as, rfl, ⟨fun h => absurd h hk6, fun _ => rfl⟩, by rw [ht]; exact hPe, hDe⟩, hS.F ht⟩) hS.2.2 dM_keep_17
