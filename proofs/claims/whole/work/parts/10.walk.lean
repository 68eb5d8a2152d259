-- Walk: contracts (by wip/gen/walkc.py)
set_option maxHeartbeats 4000000 in
set_option maxRecDepth 100000 in
theorem kW_times (l : Launch) (dC : Nat → ClassId) (dI : Nat → Nat → Nat) (cI cQ : ClassId) (h0 : Nat) (w : Nat → Int32)  : Met l yW_timesLeaving (.code yW_timesLeaving cW_timesLeaving 1 (some .int) :: wA) ({ frames := 0, cells := 0, slots := 0, locals := 0 }) (sp_R (dC, dI) (kT cI cQ) [.ref h0] [(h0, .inr (3, [.int (w 0), .int (w 1), .int (w 2), .int (w 3), .int (w 4), .int (w 5), .int (w 6), .int (w 7)]))]) (sp_QRi (w 7)) 0 0 (fun _ => False) := by
  refine Met.ofW (cc := cW_timesLeaving) (maxL := 1) (ret := (some .int)) (by decide) rfl ?_
  intro p e s m args below meth c s₁ B hml hv
  obtain ⟨rfl, hP, hK, hG⟩ := hv
  have hx := B.exec
  have hb := B.bytes
  have hr := B.returns
  have hA := sp_hA (atoms_spec (ws := (.code yW_timesLeaving cW_timesLeaving 1 (some .int) :: wA)) B.pre)
  have hown : s.vm.findClass rW = some m.cls := findClass_of_methodNamed B.named
  have hlocks := B.notSynchronized
  have hS : va_S (fun _ => False) s.heap s.heap [] := va_S.rf
  have hl := lv_entry ([.ref h0]) (n := 1) (Nat.le_of_ble_eq_true rfl)
  rw [lg_entry_eq]
  generalize (lg_sl ([.ref h0]) ++ List.replicate (1 - (lg_sl ([.ref h0])).length) Slot.unset).toArray = ls at hl ⊢
  have hl : lv_has ls 1 [(0, .ref h0)] := hl
  refine lv_aload_n hx hb dW_timesLeaving_0 rfl (lv_at hl 0 rfl) ?_
  refine va_get (D := (dC, dI)) (ci := 3) (C := rW) (T := tW) (N := 8) hx hb hA inW hown hK hP 0 rfl rfl 7 (by decide) (hA _ wi_68) (fun _ h9 => h9) rfl dW_timesLeaving_1 ?_
  exact W.iret hx hb hr (sp_eRi (rfl) hS) hS.2.2 dW_timesLeaving_4
set_option maxHeartbeats 4000000 in
set_option maxRecDepth 100000 in
theorem kW_low (l : Launch) (dC : Nat → ClassId) (dI : Nat → Nat → Nat) (cI cQ : ClassId) (h0 : Nat) (w : Nat → Int32)  : Met l yW_isLowering (.code yW_isLowering cW_isLowering 1 (some .boolean) :: wA) ({ frames := 0, cells := 0, slots := 0, locals := 0 }) (sp_R (dC, dI) (kT cI cQ) [.ref h0] [(h0, .inr (3, [.int (w 0), .int (w 1), .int (w 2), .int (w 3), .int (w 4), .int (w 5), .int (w 6), .int (w 7)]))]) (sp_QRi (wk_low w)) 0 0 (fun _ => False) := by
  refine Met.ofW (cc := cW_isLowering) (maxL := 1) (ret := (some .boolean)) (by decide) rfl ?_
  intro p e s m args below meth c s₁ B hml hv
  obtain ⟨rfl, hP, hK, hG⟩ := hv
  have hx := B.exec
  have hb := B.bytes
  have hr := B.returns
  have hA := sp_hA (atoms_spec (ws := (.code yW_isLowering cW_isLowering 1 (some .boolean) :: wA)) B.pre)
  have hown : s.vm.findClass rW = some m.cls := findClass_of_methodNamed B.named
  have hlocks := B.notSynchronized
  have hS : va_S (fun _ => False) s.heap s.heap [] := va_S.rf
  have hl := lv_entry ([.ref h0]) (n := 1) (Nat.le_of_ble_eq_true rfl)
  rw [lg_entry_eq]
  generalize (lg_sl ([.ref h0]) ++ List.replicate (1 - (lg_sl ([.ref h0])).length) Slot.unset).toArray = ls at hl ⊢
  have hl : lv_has ls 1 [(0, .ref h0)] := hl
  refine lv_aload_n hx hb dW_isLowering_0 rfl (lv_at hl 0 rfl) ?_
  refine va_get (D := (dC, dI)) (ci := 3) (C := rW) (T := tW) (N := 8) hx hb hA inW hown hK hP 0 rfl rfl 0 (by decide) (hA _ wi_61) (fun _ h9 => h9) rfl dW_isLowering_1 ?_
  refine lv_if_eq (tgt := 11) hx hb dW_isLowering_4 (by decide) (fun c_4 => ?_) (fun c_4 => ?_)
  · refine lv_iconst (v := 0) hx hb dW_isLowering_11 (by decide) ?_
    exact W.zret hx hb hr rfl (sp_eRi (by simp [wk_low, c_4]) hS) hS.2.2 dW_isLowering_12
  · refine lv_iconst (v := 1) hx hb dW_isLowering_7 (by decide) ?_
    refine lv_goto (tgt := 12) hx hb dW_isLowering_8 (by decide) ?_
    exact W.zret hx hb hr rfl (sp_eRi (by simp [wk_low, c_4]) hS) hS.2.2 dW_isLowering_12
set_option maxHeartbeats 4000000 in
set_option maxRecDepth 100000 in
theorem kW_clear (l : Launch) (dC : Nat → ClassId) (dI : Nat → Nat → Nat) (cI cQ : ClassId) (h0 : Nat) (w : Nat → Int32) (sz : Nat)  : Met l yW_clear (.code yW_clear cW_clear 1 none :: wA) ({ frames := 0, cells := 0, slots := 0, locals := 0 }) (sp_P (dC, dI) (kT cI cQ) [.ref h0] [(h0, .inr (3, [.int (w 0), .int (w 1), .int (w 2), .int (w 3), .int (w 4), .int (w 5), .int (w 6), .int (w 7)]))] sz) (sp_QWv (dC, dI) [(h0, .inr (3, [.int ((upd (upd w 0 0) 7 0) 0), .int ((upd (upd w 0 0) 7 0) 1), .int ((upd (upd w 0 0) 7 0) 2), .int ((upd (upd w 0 0) 7 0) 3), .int ((upd (upd w 0 0) 7 0) 4), .int ((upd (upd w 0 0) 7 0) 5), .int ((upd (upd w 0 0) 7 0) 6), .int ((upd (upd w 0 0) 7 0) 7)]))] (va_A [(h0, .inr (3, [.int (w 0), .int (w 1), .int (w 2), .int (w 3), .int (w 4), .int (w 5), .int (w 6), .int (w 7)]))] sz)) 0 0 (va_A [(h0, .inr (3, [.int (w 0), .int (w 1), .int (w 2), .int (w 3), .int (w 4), .int (w 5), .int (w 6), .int (w 7)]))] sz) := by
  refine Met.ofW (cc := cW_clear) (maxL := 1) (ret := none) (by decide) rfl ?_
  intro p e s m args below meth c s₁ B hml hv
  obtain ⟨rfl, hsz, hP, hK, hD0, hG⟩ := hv
  have hx := B.exec
  have hb := B.bytes
  have hr := B.returns
  have hA := sp_hA (atoms_spec (ws := (.code yW_clear cW_clear 1 none :: wA)) B.pre)
  have hown : s.vm.findClass rW = some m.cls := findClass_of_methodNamed B.named
  have hlocks := B.notSynchronized
  subst hsz
  have hD := hD0.self (sz := s.heap.size)
  generalize hAe : va_A [(h0, .inr (3, [.int (w 0), .int (w 1), .int (w 2), .int (w 3), .int (w 4), .int (w 5), .int (w 6), .int (w 7)]))] s.heap.size = A at hD ⊢
  have hF : ∀ q : Nat, s.heap.size ≤ q → A q := fun q h => by rw [← hAe]; exact Or.inr h
  have hS : va_S A s.heap s.heap [] := va_S.rf
  have hl := lv_entry ([.ref h0]) (n := 1) (Nat.le_of_ble_eq_true rfl)
  rw [lg_entry_eq]
  generalize (lg_sl ([.ref h0]) ++ List.replicate (1 - (lg_sl ([.ref h0])).length) Slot.unset).toArray = ls at hl ⊢
  have hl : lv_has ls 1 [(0, .ref h0)] := hl
  refine lv_aload_n hx hb dW_clear_0 rfl (lv_at hl 0 rfl) ?_
  refine lv_iconst (v := 0) hx hb dW_clear_1 (by decide) ?_
  refine va_put (D := (dC, dI)) (ci := 3) (v := .int 0) (ty := .int) (C := rW) (T := tW) (N := 8) hx hb hA inW tyW tyW_ok nmW hown hK hP hD hS 0 rfl rfl 0 (by decide) (hA _ wi_61) (fun _ h9 => h9) rfl (by decide +kernel) rfl rfl (Nat.le_of_ble_eq_true rfl) dW_clear_2 (fun H locs hP hD hS => ?_)
  have hP : va_P (dC, dI) vwCl [(h0, .inr (3, [.int 0, .int (w 1), .int (w 2), .int (w 3), .int (w 4), .int (w 5), .int (w 6), .int (w 7)]))] H := hP
  have hD : va_D A [(h0, .inr (3, [.int 0, .int (w 1), .int (w 2), .int (w 3), .int (w 4), .int (w 5), .int (w 6), .int (w 7)]))] := hD
  refine lv_aload_n hx hb dW_clear_5 rfl (lv_at hl 0 rfl) ?_
  refine lv_iconst (v := 0) hx hb dW_clear_6 (by decide) ?_
  refine va_put (D := (dC, dI)) (ci := 3) (v := .int 0) (ty := .int) (C := rW) (T := tW) (N := 8) hx hb hA inW tyW tyW_ok nmW hown hK hP hD hS 0 rfl rfl 7 (by decide) (hA _ wi_68) (fun _ h9 => h9) rfl (by decide +kernel) rfl rfl (Nat.le_of_ble_eq_true rfl) dW_clear_7 (fun H locs hP hD hS => ?_)
  have hP : va_P (dC, dI) vwCl [(h0, .inr (3, [.int 0, .int (w 1), .int (w 2), .int (w 3), .int (w 4), .int (w 5), .int (w 6), .int 0]))] H := hP
  have hD : va_D A [(h0, .inr (3, [.int 0, .int (w 1), .int (w 2), .int (w 3), .int (w 4), .int (w 5), .int (w 6), .int 0]))] := hD
  have hPe : va_P (dC, dI) vwCl [(h0, .inr (3, [.int ((upd (upd w 0 0) 7 0) 0), .int ((upd (upd w 0 0) 7 0) 1), .int ((upd (upd w 0 0) 7 0) 2), .int ((upd (upd w 0 0) 7 0) 3), .int ((upd (upd w 0 0) 7 0) 4), .int ((upd (upd w 0 0) 7 0) 5), .int ((upd (upd w 0 0) 7 0) 6), .int ((upd (upd w 0 0) 7 0) 7)]))] H := by exact hP
  have hDe : va_D A [(h0, .inr (3, [.int ((upd (upd w 0 0) 7 0) 0), .int ((upd (upd w 0 0) 7 0) 1), .int ((upd (upd w 0 0) 7 0) 2), .int ((upd (upd w 0 0) 7 0) 3), .int ((upd (upd w 0 0) 7 0) 4), .int ((upd (upd w 0 0) 7 0) 5), .int ((upd (upd w 0 0) 7 0) 6), .int ((upd (upd w 0 0) 7 0) 7)]))] := sp_Dc hD rfl
  exact W.vret hx hb hr (sp_eWv hPe hDe hS) hS.2.2 dW_clear_10
set_option maxHeartbeats 4000000 in
set_option maxRecDepth 100000 in
theorem kW_sgt (l : Launch) (dC : Nat → ClassId) (dI : Nat → Nat → Nat) (cI cQ : ClassId) (h0 : Nat) (w : Nat → Int32) (x : Int32) (sz : Nat)  : Met l yW_startGoingThrough (.code yW_startGoingThrough cW_startGoingThrough 2 none :: wA) ({ frames := 0, cells := 0, slots := 0, locals := 0 }) (sp_P (dC, dI) (kT cI cQ) [.ref h0, .int x] [(h0, .inr (3, [.int (w 0), .int (w 1), .int (w 2), .int (w 3), .int (w 4), .int (w 5), .int (w 6), .int (w 7)]))] sz) (sp_QWv (dC, dI) [(h0, .inr (3, [.int ((wk_sgt w x) 0), .int ((wk_sgt w x) 1), .int ((wk_sgt w x) 2), .int ((wk_sgt w x) 3), .int ((wk_sgt w x) 4), .int ((wk_sgt w x) 5), .int ((wk_sgt w x) 6), .int ((wk_sgt w x) 7)]))] (va_A [(h0, .inr (3, [.int (w 0), .int (w 1), .int (w 2), .int (w 3), .int (w 4), .int (w 5), .int (w 6), .int (w 7)]))] sz)) 0 0 (va_A [(h0, .inr (3, [.int (w 0), .int (w 1), .int (w 2), .int (w 3), .int (w 4), .int (w 5), .int (w 6), .int (w 7)]))] sz) := by
  refine Met.ofW (cc := cW_startGoingThrough) (maxL := 2) (ret := none) (by decide) rfl ?_
  intro p e s m args below meth c s₁ B hml hv
  obtain ⟨rfl, hsz, hP, hK, hD0, hG⟩ := hv
  have hx := B.exec
  have hb := B.bytes
  have hr := B.returns
  have hA := sp_hA (atoms_spec (ws := (.code yW_startGoingThrough cW_startGoingThrough 2 none :: wA)) B.pre)
  have hown : s.vm.findClass rW = some m.cls := findClass_of_methodNamed B.named
  have hlocks := B.notSynchronized
  subst hsz
  have hD := hD0.self (sz := s.heap.size)
  generalize hAe : va_A [(h0, .inr (3, [.int (w 0), .int (w 1), .int (w 2), .int (w 3), .int (w 4), .int (w 5), .int (w 6), .int (w 7)]))] s.heap.size = A at hD ⊢
  have hF : ∀ q : Nat, s.heap.size ≤ q → A q := fun q h => by rw [← hAe]; exact Or.inr h
  have hS : va_S A s.heap s.heap [] := va_S.rf
  have hl := lv_entry ([.ref h0, .int x]) (n := 2) (Nat.le_of_ble_eq_true rfl)
  rw [lg_entry_eq]
  generalize (lg_sl ([.ref h0, .int x]) ++ List.replicate (2 - (lg_sl ([.ref h0, .int x])).length) Slot.unset).toArray = ls at hl ⊢
  have hl : lv_has ls 2 [(0, .ref h0), (1, .int x)] := hl
  refine lv_aload_n hx hb dW_startGoingThrough_0 rfl (lv_at hl 0 rfl) ?_
  refine lv_iload_n hx hb dW_startGoingThrough_1 rfl (lv_at hl 1 rfl) ?_
  refine va_put (D := (dC, dI)) (ci := 3) (v := .int x) (ty := .int) (C := rW) (T := tW) (N := 8) hx hb hA inW tyW tyW_ok nmW hown hK hP hD hS 0 rfl rfl 1 (by decide) (hA _ wi_62) (fun _ h9 => h9) rfl (by decide +kernel) rfl rfl (Nat.le_of_ble_eq_true rfl) dW_startGoingThrough_2 (fun H locs hP hD hS => ?_)
  have hP : va_P (dC, dI) vwCl [(h0, .inr (3, [.int (w 0), .int x, .int (w 2), .int (w 3), .int (w 4), .int (w 5), .int (w 6), .int (w 7)]))] H := hP
  have hD : va_D A [(h0, .inr (3, [.int (w 0), .int x, .int (w 2), .int (w 3), .int (w 4), .int (w 5), .int (w 6), .int (w 7)]))] := hD
  refine lv_aload_n hx hb dW_startGoingThrough_5 rfl (lv_at hl 0 rfl) ?_
  refine lv_iconst (v := 0) hx hb dW_startGoingThrough_6 (by decide) ?_
  refine va_put (D := (dC, dI)) (ci := 3) (v := .int 0) (ty := .int) (C := rW) (T := tW) (N := 8) hx hb hA inW tyW tyW_ok nmW hown hK hP hD hS 0 rfl rfl 2 (by decide) (hA _ wi_63) (fun _ h9 => h9) rfl (by decide +kernel) rfl rfl (Nat.le_of_ble_eq_true rfl) dW_startGoingThrough_7 (fun H locs hP hD hS => ?_)
  have hP : va_P (dC, dI) vwCl [(h0, .inr (3, [.int (w 0), .int x, .int 0, .int (w 3), .int (w 4), .int (w 5), .int (w 6), .int (w 7)]))] H := hP
  have hD : va_D A [(h0, .inr (3, [.int (w 0), .int x, .int 0, .int (w 3), .int (w 4), .int (w 5), .int (w 6), .int (w 7)]))] := hD
  refine lv_aload_n hx hb dW_startGoingThrough_10 rfl (lv_at hl 0 rfl) ?_
  refine lv_iconst (v := 0) hx hb dW_startGoingThrough_11 (by decide) ?_
  refine va_put (D := (dC, dI)) (ci := 3) (v := .int 0) (ty := .boolean) (C := rW) (T := tW) (N := 8) hx hb hA inW tyW tyW_ok nmW hown hK hP hD hS 0 rfl rfl 3 (by decide) (hA _ wi_64) (fun _ h9 => h9) rfl (by decide +kernel) rfl rfl (Nat.le_of_ble_eq_true rfl) dW_startGoingThrough_12 (fun H locs hP hD hS => ?_)
  have hP : va_P (dC, dI) vwCl [(h0, .inr (3, [.int (w 0), .int x, .int 0, .int 0, .int (w 4), .int (w 5), .int (w 6), .int (w 7)]))] H := hP
  have hD : va_D A [(h0, .inr (3, [.int (w 0), .int x, .int 0, .int 0, .int (w 4), .int (w 5), .int (w 6), .int (w 7)]))] := hD
  have hPe : va_P (dC, dI) vwCl [(h0, .inr (3, [.int ((wk_sgt w x) 0), .int ((wk_sgt w x) 1), .int ((wk_sgt w x) 2), .int ((wk_sgt w x) 3), .int ((wk_sgt w x) 4), .int ((wk_sgt w x) 5), .int ((wk_sgt w x) 6), .int ((wk_sgt w x) 7)]))] H := by exact hP
  have hDe : va_D A [(h0, .inr (3, [.int ((wk_sgt w x) 0), .int ((wk_sgt w x) 1), .int ((wk_sgt w x) 2), .int ((wk_sgt w x) 3), .int ((wk_sgt w x) 4), .int ((wk_sgt w x) 5), .int ((wk_sgt w x) 6), .int ((wk_sgt w x) 7)]))] := sp_Dc hD rfl
  exact W.vret hx hb hr (sp_eWv hPe hDe hS) hS.2.2 dW_startGoingThrough_15
set_option maxHeartbeats 4000000 in
set_option maxRecDepth 100000 in
theorem kW_slow (l : Launch) (dC : Nat → ClassId) (dI : Nat → Nat → Nat) (cI cQ : ClassId) (h0 : Nat) (w : Nat → Int32) (sz : Nat)  : Met l yW_startLowering (.code yW_startLowering cW_startLowering 1 none :: wA) ({ frames := 0, cells := 0, slots := 0, locals := 0 }) (sp_P (dC, dI) (kT cI cQ) [.ref h0] [(h0, .inr (3, [.int (w 0), .int (w 1), .int (w 2), .int (w 3), .int (w 4), .int (w 5), .int (w 6), .int (w 7)]))] sz) (sp_QWv (dC, dI) [(h0, .inr (3, [.int ((wk_slow w) 0), .int ((wk_slow w) 1), .int ((wk_slow w) 2), .int ((wk_slow w) 3), .int ((wk_slow w) 4), .int ((wk_slow w) 5), .int ((wk_slow w) 6), .int ((wk_slow w) 7)]))] (va_A [(h0, .inr (3, [.int (w 0), .int (w 1), .int (w 2), .int (w 3), .int (w 4), .int (w 5), .int (w 6), .int (w 7)]))] sz)) 0 0 (va_A [(h0, .inr (3, [.int (w 0), .int (w 1), .int (w 2), .int (w 3), .int (w 4), .int (w 5), .int (w 6), .int (w 7)]))] sz) := by
  refine Met.ofW (cc := cW_startLowering) (maxL := 1) (ret := none) (by decide) rfl ?_
  intro p e s m args below meth c s₁ B hml hv
  obtain ⟨rfl, hsz, hP, hK, hD0, hG⟩ := hv
  have hx := B.exec
  have hb := B.bytes
  have hr := B.returns
  have hA := sp_hA (atoms_spec (ws := (.code yW_startLowering cW_startLowering 1 none :: wA)) B.pre)
  have hown : s.vm.findClass rW = some m.cls := findClass_of_methodNamed B.named
  have hlocks := B.notSynchronized
  subst hsz
  have hD := hD0.self (sz := s.heap.size)
  generalize hAe : va_A [(h0, .inr (3, [.int (w 0), .int (w 1), .int (w 2), .int (w 3), .int (w 4), .int (w 5), .int (w 6), .int (w 7)]))] s.heap.size = A at hD ⊢
  have hF : ∀ q : Nat, s.heap.size ≤ q → A q := fun q h => by rw [← hAe]; exact Or.inr h
  have hS : va_S A s.heap s.heap [] := va_S.rf
  have hl := lv_entry ([.ref h0]) (n := 1) (Nat.le_of_ble_eq_true rfl)
  rw [lg_entry_eq]
  generalize (lg_sl ([.ref h0]) ++ List.replicate (1 - (lg_sl ([.ref h0])).length) Slot.unset).toArray = ls at hl ⊢
  have hl : lv_has ls 1 [(0, .ref h0)] := hl
  refine lv_aload_n hx hb dW_startLowering_0 rfl (lv_at hl 0 rfl) ?_
  refine lv_iconst (v := 1) hx hb dW_startLowering_1 (by decide) ?_
  refine va_put (D := (dC, dI)) (ci := 3) (v := .int 1) (ty := .int) (C := rW) (T := tW) (N := 8) hx hb hA inW tyW tyW_ok nmW hown hK hP hD hS 0 rfl rfl 0 (by decide) (hA _ wi_61) (fun _ h9 => h9) rfl (by decide +kernel) rfl rfl (Nat.le_of_ble_eq_true rfl) dW_startLowering_2 (fun H locs hP hD hS => ?_)
  have hP : va_P (dC, dI) vwCl [(h0, .inr (3, [.int 1, .int (w 1), .int (w 2), .int (w 3), .int (w 4), .int (w 5), .int (w 6), .int (w 7)]))] H := hP
  have hD : va_D A [(h0, .inr (3, [.int 1, .int (w 1), .int (w 2), .int (w 3), .int (w 4), .int (w 5), .int (w 6), .int (w 7)]))] := hD
  refine lv_aload_n hx hb dW_startLowering_5 rfl (lv_at hl 0 rfl) ?_
  refine lv_iconst (v := 0) hx hb dW_startLowering_6 (by decide) ?_
  refine va_put (D := (dC, dI)) (ci := 3) (v := .int 0) (ty := .int) (C := rW) (T := tW) (N := 8) hx hb hA inW tyW tyW_ok nmW hown hK hP hD hS 0 rfl rfl 4 (by decide) (hA _ wi_65) (fun _ h9 => h9) rfl (by decide +kernel) rfl rfl (Nat.le_of_ble_eq_true rfl) dW_startLowering_7 (fun H locs hP hD hS => ?_)
  have hP : va_P (dC, dI) vwCl [(h0, .inr (3, [.int 1, .int (w 1), .int (w 2), .int (w 3), .int 0, .int (w 5), .int (w 6), .int (w 7)]))] H := hP
  have hD : va_D A [(h0, .inr (3, [.int 1, .int (w 1), .int (w 2), .int (w 3), .int 0, .int (w 5), .int (w 6), .int (w 7)]))] := hD
  refine lv_aload_n hx hb dW_startLowering_10 rfl (lv_at hl 0 rfl) ?_
  refine lv_iconst (v := 0) hx hb dW_startLowering_11 (by decide) ?_
  refine va_put (D := (dC, dI)) (ci := 3) (v := .int 0) (ty := .int) (C := rW) (T := tW) (N := 8) hx hb hA inW tyW tyW_ok nmW hown hK hP hD hS 0 rfl rfl 5 (by decide) (hA _ wi_66) (fun _ h9 => h9) rfl (by decide +kernel) rfl rfl (Nat.le_of_ble_eq_true rfl) dW_startLowering_12 (fun H locs hP hD hS => ?_)
  have hP : va_P (dC, dI) vwCl [(h0, .inr (3, [.int 1, .int (w 1), .int (w 2), .int (w 3), .int 0, .int 0, .int (w 6), .int (w 7)]))] H := hP
  have hD : va_D A [(h0, .inr (3, [.int 1, .int (w 1), .int (w 2), .int (w 3), .int 0, .int 0, .int (w 6), .int (w 7)]))] := hD
  refine lv_aload_n hx hb dW_startLowering_15 rfl (lv_at hl 0 rfl) ?_
  refine lv_iconst (v := 0) hx hb dW_startLowering_16 (by decide) ?_
  refine va_put (D := (dC, dI)) (ci := 3) (v := .int 0) (ty := .boolean) (C := rW) (T := tW) (N := 8) hx hb hA inW tyW tyW_ok nmW hown hK hP hD hS 0 rfl rfl 6 (by decide) (hA _ wi_67) (fun _ h9 => h9) rfl (by decide +kernel) rfl rfl (Nat.le_of_ble_eq_true rfl) dW_startLowering_17 (fun H locs hP hD hS => ?_)
  have hP : va_P (dC, dI) vwCl [(h0, .inr (3, [.int 1, .int (w 1), .int (w 2), .int (w 3), .int 0, .int 0, .int 0, .int (w 7)]))] H := hP
  have hD : va_D A [(h0, .inr (3, [.int 1, .int (w 1), .int (w 2), .int (w 3), .int 0, .int 0, .int 0, .int (w 7)]))] := hD
  have hPe : va_P (dC, dI) vwCl [(h0, .inr (3, [.int ((wk_slow w) 0), .int ((wk_slow w) 1), .int ((wk_slow w) 2), .int ((wk_slow w) 3), .int ((wk_slow w) 4), .int ((wk_slow w) 5), .int ((wk_slow w) 6), .int ((wk_slow w) 7)]))] H := by exact hP
  have hDe : va_D A [(h0, .inr (3, [.int ((wk_slow w) 0), .int ((wk_slow w) 1), .int ((wk_slow w) 2), .int ((wk_slow w) 3), .int ((wk_slow w) 4), .int ((wk_slow w) 5), .int ((wk_slow w) 6), .int ((wk_slow w) 7)]))] := sp_Dc hD rfl
  exact W.vret hx hb hr (sp_eWv hPe hDe hS) hS.2.2 dW_startLowering_20
set_option maxHeartbeats 4000000 in
set_option maxRecDepth 100000 in
theorem kW_sl (l : Launch) (dC : Nat → ClassId) (dI : Nat → Nat → Nat) (cI cQ : ClassId) (h0 : Nat) (w : Nat → Int32) (x : Int32) (sz : Nat)  : Met l yW_startLeaving (.code yW_startLeaving cW_startLeaving 2 none :: wA) ({ frames := 1, cells := 0, slots := 0, locals := 21 }) (sp_P (dC, dI) (kT cI cQ) [.ref h0, .int x] [(h0, .inr (3, [.int (w 0), .int (w 1), .int (w 2), .int (w 3), .int (w 4), .int (w 5), .int (w 6), .int (w 7)]))] sz) (sp_QWv (dC, dI) [(h0, .inr (3, [.int ((wk_sl w x) 0), .int ((wk_sl w x) 1), .int ((wk_sl w x) 2), .int ((wk_sl w x) 3), .int ((wk_sl w x) 4), .int ((wk_sl w x) 5), .int ((wk_sl w x) 6), .int ((wk_sl w x) 7)]))] (va_A [(h0, .inr (3, [.int (w 0), .int (w 1), .int (w 2), .int (w 3), .int (w 4), .int (w 5), .int (w 6), .int (w 7)]))] sz)) 0 0 (va_A [(h0, .inr (3, [.int (w 0), .int (w 1), .int (w 2), .int (w 3), .int (w 4), .int (w 5), .int (w 6), .int (w 7)]))] sz) := by
  refine Met.ofW (cc := cW_startLeaving) (maxL := 2) (ret := none) (by decide) rfl ?_
  intro p e s m args below meth c s₁ B hml hv
  obtain ⟨rfl, hsz, hP, hK, hD0, hG⟩ := hv
  have hx := B.exec
  have hb := B.bytes
  have hr := B.returns
  have hA := sp_hA (atoms_spec (ws := (.code yW_startLeaving cW_startLeaving 2 none :: wA)) B.pre)
  have hown : s.vm.findClass rW = some m.cls := findClass_of_methodNamed B.named
  have hlocks := B.notSynchronized
  subst hsz
  have hD := hD0.self (sz := s.heap.size)
  generalize hAe : va_A [(h0, .inr (3, [.int (w 0), .int (w 1), .int (w 2), .int (w 3), .int (w 4), .int (w 5), .int (w 6), .int (w 7)]))] s.heap.size = A at hD ⊢
  have hF : ∀ q : Nat, s.heap.size ≤ q → A q := fun q h => by rw [← hAe]; exact Or.inr h
  have hS : va_S A s.heap s.heap [] := va_S.rf
  have hl := lv_entry ([.ref h0, .int x]) (n := 2) (Nat.le_of_ble_eq_true rfl)
  rw [lg_entry_eq]
  generalize (lg_sl ([.ref h0, .int x]) ++ List.replicate (2 - (lg_sl ([.ref h0, .int x])).length) Slot.unset).toArray = ls at hl ⊢
  have hl : lv_has ls 2 [(0, .ref h0), (1, .int x)] := hl
  refine lv_aload_n hx hb dW_startLeaving_0 rfl (lv_at hl 0 rfl) ?_
  refine lv_dup hx hb dW_startLeaving_1 rfl ?_
  refine va_get (D := (dC, dI)) (ci := 3) (C := rW) (T := tW) (N := 8) hx hb hA inW hown hK hP 0 rfl rfl 7 (by decide) (hA _ wi_68) (fun _ h9 => h9) rfl dW_startLeaving_2 ?_
  refine lv_iconst (v := 1) hx hb dW_startLeaving_5 (by decide) ?_
  refine lv_iadd hx hb dW_startLeaving_6 ?_
  refine va_put (D := (dC, dI)) (ci := 3) (v := .int ((w 7) + 1)) (ty := .int) (C := rW) (T := tW) (N := 8) hx hb hA inW tyW tyW_ok nmW hown hK hP hD hS 0 rfl rfl 7 (by decide) (hA _ wi_68) (fun _ h9 => h9) rfl (by decide +kernel) rfl rfl (Nat.le_of_ble_eq_true rfl) dW_startLeaving_7 (fun H locs hP hD hS => ?_)
  have hP : va_P (dC, dI) vwCl [(h0, .inr (3, [.int (w 0), .int (w 1), .int (w 2), .int (w 3), .int (w 4), .int (w 5), .int (w 6), .int ((w 7) + 1)]))] H := hP
  have hD : va_D A [(h0, .inr (3, [.int (w 0), .int (w 1), .int (w 2), .int (w 3), .int (w 4), .int (w 5), .int (w 6), .int ((w 7) + 1)]))] := hD
  refine lv_aload_n hx hb dW_startLeaving_10 rfl (lv_at hl 0 rfl) ?_
  refine lv_iconst (v := 0) hx hb dW_startLeaving_11 (by decide) ?_
  refine va_put (D := (dC, dI)) (ci := 3) (v := .int 0) (ty := .int) (C := rW) (T := tW) (N := 8) hx hb hA inW tyW tyW_ok nmW hown hK hP hD hS 0 rfl rfl 0 (by decide) (hA _ wi_61) (fun _ h9 => h9) rfl (by decide +kernel) rfl rfl (Nat.le_of_ble_eq_true rfl) dW_startLeaving_12 (fun H locs hP hD hS => ?_)
  have hP : va_P (dC, dI) vwCl [(h0, .inr (3, [.int 0, .int (w 1), .int (w 2), .int (w 3), .int (w 4), .int (w 5), .int (w 6), .int ((w 7) + 1)]))] H := hP
  have hD : va_D A [(h0, .inr (3, [.int 0, .int (w 1), .int (w 2), .int (w 3), .int (w 4), .int (w 5), .int (w 6), .int ((w 7) + 1)]))] := hD
  refine lv_aload_n hx hb dW_startLeaving_15 rfl (lv_at hl 0 rfl) ?_
  refine lv_iload_n hx hb dW_startLeaving_16 rfl (lv_at hl 1 rfl) ?_
  have hP : va_P (dC, dI) vwCl [(h0, .inr (3, [.int ((upd (upd w 7 ((w 7) + 1)) 0 0) 0), .int ((upd (upd w 7 ((w 7) + 1)) 0 0) 1), .int ((upd (upd w 7 ((w 7) + 1)) 0 0) 2), .int ((upd (upd w 7 ((w 7) + 1)) 0 0) 3), .int ((upd (upd w 7 ((w 7) + 1)) 0 0) 4), .int ((upd (upd w 7 ((w 7) + 1)) 0 0) 5), .int ((upd (upd w 7 ((w 7) + 1)) 0 0) 6), .int ((upd (upd w 7 ((w 7) + 1)) 0 0) 7)]))] H := hP
  have hD : va_D A [(h0, .inr (3, [.int ((upd (upd w 7 ((w 7) + 1)) 0 0) 0), .int ((upd (upd w 7 ((w 7) + 1)) 0 0) 1), .int ((upd (upd w 7 ((w 7) + 1)) 0 0) 2), .int ((upd (upd w 7 ((w 7) + 1)) 0 0) 3), .int ((upd (upd w 7 ((w 7) + 1)) 0 0) 4), .int ((upd (upd w 7 ((w 7) + 1)) 0 0) 5), .int ((upd (upd w 7 ((w 7) + 1)) 0 0) 6), .int ((upd (upd w 7 ((w 7) + 1)) 0 0) 7)]))] := hD
  have hPc := hP.sub (ws' := [(h0, .inr (3, [.int ((upd (upd w 7 ((w 7) + 1)) 0 0) 0), .int ((upd (upd w 7 ((w 7) + 1)) 0 0) 1), .int ((upd (upd w 7 ((w 7) + 1)) 0 0) 2), .int ((upd (upd w 7 ((w 7) + 1)) 0 0) 3), .int ((upd (upd w 7 ((w 7) + 1)) 0 0) 4), .int ((upd (upd w 7 ((w 7) + 1)) 0 0) 5), .int ((upd (upd w 7 ((w 7) + 1)) 0 0) 6), .int ((upd (upd w 7 ((w 7) + 1)) 0 0) 7)]))]) [0] rfl
  have hDc := hD.sub (ws' := [(h0, .inr (3, [.int ((upd (upd w 7 ((w 7) + 1)) 0 0) 0), .int ((upd (upd w 7 ((w 7) + 1)) 0 0) 1), .int ((upd (upd w 7 ((w 7) + 1)) 0 0) 2), .int ((upd (upd w 7 ((w 7) + 1)) 0 0) 3), .int ((upd (upd w 7 ((w 7) + 1)) 0 0) 4), .int ((upd (upd w 7 ((w 7) + 1)) 0 0) 5), .int ((upd (upd w 7 ((w 7) + 1)) 0 0) 6), .int ((upd (upd w 7 ((w 7) + 1)) 0 0) 7)]))]) [0] (by decide) rfl
  have hFc := va_free (wc := [(h0, .inr (3, [.int ((upd (upd w 7 ((w 7) + 1)) 0 0) 0), .int ((upd (upd w 7 ((w 7) + 1)) 0 0) 1), .int ((upd (upd w 7 ((w 7) + 1)) 0 0) 2), .int ((upd (upd w 7 ((w 7) + 1)) 0 0) 3), .int ((upd (upd w 7 ((w 7) + 1)) 0 0) 4), .int ((upd (upd w 7 ((w 7) + 1)) 0 0) 5), .int ((upd (upd w 7 ((w 7) + 1)) 0 0) 6), .int ((upd (upd w 7 ((w 7) + 1)) 0 0) 7)]))]) hD hS hF [0] rfl
  refine va_callv (va_runV (As := [.int x]) (rest := []) ⟨hx, hb, hml, hown, hA⟩ (kW_sgt l dC dI cI cQ h0 (upd (upd w 7 ((w 7) + 1)) 0 0) x _) (cwV 1 hA (gd_V wi_369 wi_370 wi_670 wi_5 wi_371) rfl rfl rfl (by decide +kernel) ⟨Nat.le_of_ble_eq_true rfl, Nat.le_of_ble_eq_true rfl⟩) ⟨sp_Pb, va_recv hK hP (ci := 3) (q0 := 0) rfl rfl, sp_Po hPc hK hG hDc⟩ rfl rfl hl.1 rfl (lv_room (Nat.le_of_ble_eq_true rfl)) dW_startLeaving_17 ⟨Nat.le_of_ble_eq_true rfl, Nat.le_of_ble_eq_true rfl⟩) hS (fun q _ h => hFc q h) hFc (fun u_17 t H locs ht hvm hw hB hz1 hk1 hS => ?_)
  obtain ⟨hP1, hD1⟩ := hB
  rw [ht] at hP1
  obtain ⟨hP, hD⟩ := va_join (wr := []) (w1 := [(h0, .inr (3, [.int ((wk_sgt (upd (upd w 7 ((w 7) + 1)) 0 0) x) 0), .int ((wk_sgt (upd (upd w 7 ((w 7) + 1)) 0 0) x) 1), .int ((wk_sgt (upd (upd w 7 ((w 7) + 1)) 0 0) x) 2), .int ((wk_sgt (upd (upd w 7 ((w 7) + 1)) 0 0) x) 3), .int ((wk_sgt (upd (upd w 7 ((w 7) + 1)) 0 0) x) 4), .int ((wk_sgt (upd (upd w 7 ((w 7) + 1)) 0 0) x) 5), .int ((wk_sgt (upd (upd w 7 ((w 7) + 1)) 0 0) x) 6), .int ((wk_sgt (upd (upd w 7 ((w 7) + 1)) 0 0) x) 7)]))]) hP hD [0] [] rfl rfl (by decide) (by decide) hk1 hFc hP1 hD1
  have hP : va_P (dC, dI) vwCl [(h0, .inr (3, [.int ((wk_sgt (upd (upd w 7 ((w 7) + 1)) 0 0) x) 0), .int ((wk_sgt (upd (upd w 7 ((w 7) + 1)) 0 0) x) 1), .int ((wk_sgt (upd (upd w 7 ((w 7) + 1)) 0 0) x) 2), .int ((wk_sgt (upd (upd w 7 ((w 7) + 1)) 0 0) x) 3), .int ((wk_sgt (upd (upd w 7 ((w 7) + 1)) 0 0) x) 4), .int ((wk_sgt (upd (upd w 7 ((w 7) + 1)) 0 0) x) 5), .int ((wk_sgt (upd (upd w 7 ((w 7) + 1)) 0 0) x) 6), .int ((wk_sgt (upd (upd w 7 ((w 7) + 1)) 0 0) x) 7)]))] H := hP.sub [0] rfl
  have hD : va_D A [(h0, .inr (3, [.int ((wk_sgt (upd (upd w 7 ((w 7) + 1)) 0 0) x) 0), .int ((wk_sgt (upd (upd w 7 ((w 7) + 1)) 0 0) x) 1), .int ((wk_sgt (upd (upd w 7 ((w 7) + 1)) 0 0) x) 2), .int ((wk_sgt (upd (upd w 7 ((w 7) + 1)) 0 0) x) 3), .int ((wk_sgt (upd (upd w 7 ((w 7) + 1)) 0 0) x) 4), .int ((wk_sgt (upd (upd w 7 ((w 7) + 1)) 0 0) x) 5), .int ((wk_sgt (upd (upd w 7 ((w 7) + 1)) 0 0) x) 6), .int ((wk_sgt (upd (upd w 7 ((w 7) + 1)) 0 0) x) 7)]))] := hD.sub [0] (by decide) rfl
  have hPe : va_P (dC, dI) vwCl [(h0, .inr (3, [.int ((wk_sl w x) 0), .int ((wk_sl w x) 1), .int ((wk_sl w x) 2), .int ((wk_sl w x) 3), .int ((wk_sl w x) 4), .int ((wk_sl w x) 5), .int ((wk_sl w x) 6), .int ((wk_sl w x) 7)]))] H := by exact hP
  have hDe : va_D A [(h0, .inr (3, [.int ((wk_sl w x) 0), .int ((wk_sl w x) 1), .int ((wk_sl w x) 2), .int ((wk_sl w x) 3), .int ((wk_sl w x) 4), .int ((wk_sl w x) 5), .int ((wk_sl w x) 6), .int ((wk_sl w x) 7)]))] := sp_Dc hD rfl
  exact W.vret hx hb hr (sp_eWv hPe hDe hS) hS.2.2 dW_startLeaving_20
set_option maxHeartbeats 4000000 in
set_option maxRecDepth 100000 in
theorem kW_next (l : Launch) (dC : Nat → ClassId) (dI : Nat → Nat → Nat) (cI cQ : ClassId) (h0 : Nat) (w : Nat → Int32) (sz : Nat)  : Met l yW_nextByte (.code yW_nextByte cW_nextByte 1 none :: wA) ({ frames := 0, cells := 0, slots := 0, locals := 0 }) (sp_P (dC, dI) (kT cI cQ) [.ref h0] [(h0, .inr (3, [.int (w 0), .int (w 1), .int (w 2), .int (w 3), .int (w 4), .int (w 5), .int (w 6), .int (w 7)]))] sz) (sp_QWv (dC, dI) [(h0, .inr (3, [.int ((wk_next w) 0), .int ((wk_next w) 1), .int ((wk_next w) 2), .int ((wk_next w) 3), .int ((wk_next w) 4), .int ((wk_next w) 5), .int ((wk_next w) 6), .int ((wk_next w) 7)]))] (va_A [(h0, .inr (3, [.int (w 0), .int (w 1), .int (w 2), .int (w 3), .int (w 4), .int (w 5), .int (w 6), .int (w 7)]))] sz)) 0 0 (va_A [(h0, .inr (3, [.int (w 0), .int (w 1), .int (w 2), .int (w 3), .int (w 4), .int (w 5), .int (w 6), .int (w 7)]))] sz) := by
  refine Met.ofW (cc := cW_nextByte) (maxL := 1) (ret := none) (by decide) rfl ?_
  intro p e s m args below meth c s₁ B hml hv
  obtain ⟨rfl, hsz, hP, hK, hD0, hG⟩ := hv
  have hx := B.exec
  have hb := B.bytes
  have hr := B.returns
  have hA := sp_hA (atoms_spec (ws := (.code yW_nextByte cW_nextByte 1 none :: wA)) B.pre)
  have hown : s.vm.findClass rW = some m.cls := findClass_of_methodNamed B.named
  have hlocks := B.notSynchronized
  subst hsz
  have hD := hD0.self (sz := s.heap.size)
  generalize hAe : va_A [(h0, .inr (3, [.int (w 0), .int (w 1), .int (w 2), .int (w 3), .int (w 4), .int (w 5), .int (w 6), .int (w 7)]))] s.heap.size = A at hD ⊢
  have hF : ∀ q : Nat, s.heap.size ≤ q → A q := fun q h => by rw [← hAe]; exact Or.inr h
  have hS : va_S A s.heap s.heap [] := va_S.rf
  have hl := lv_entry ([.ref h0]) (n := 1) (Nat.le_of_ble_eq_true rfl)
  rw [lg_entry_eq]
  generalize (lg_sl ([.ref h0]) ++ List.replicate (1 - (lg_sl ([.ref h0])).length) Slot.unset).toArray = ls at hl ⊢
  have hl : lv_has ls 1 [(0, .ref h0)] := hl
  refine lv_aload_n hx hb dW_nextByte_0 rfl (lv_at hl 0 rfl) ?_
  refine lv_iconst (v := 1) hx hb dW_nextByte_1 (by decide) ?_
  refine va_put (D := (dC, dI)) (ci := 3) (v := .int 1) (ty := .int) (C := rW) (T := tW) (N := 8) hx hb hA inW tyW tyW_ok nmW hown hK hP hD hS 0 rfl rfl 0 (by decide) (hA _ wi_61) (fun _ h9 => h9) rfl (by decide +kernel) rfl rfl (Nat.le_of_ble_eq_true rfl) dW_nextByte_2 (fun H locs hP hD hS => ?_)
  have hP : va_P (dC, dI) vwCl [(h0, .inr (3, [.int 1, .int (w 1), .int (w 2), .int (w 3), .int (w 4), .int (w 5), .int (w 6), .int (w 7)]))] H := hP
  have hD : va_D A [(h0, .inr (3, [.int 1, .int (w 1), .int (w 2), .int (w 3), .int (w 4), .int (w 5), .int (w 6), .int (w 7)]))] := hD
  refine lv_aload_n hx hb dW_nextByte_5 rfl (lv_at hl 0 rfl) ?_
  refine lv_dup hx hb dW_nextByte_6 rfl ?_
  refine va_get (D := (dC, dI)) (ci := 3) (C := rW) (T := tW) (N := 8) hx hb hA inW hown hK hP 0 rfl rfl 5 (by decide) (hA _ wi_66) (fun _ h9 => h9) rfl dW_nextByte_7 ?_
  refine lv_iconst (v := 1) hx hb dW_nextByte_10 (by decide) ?_
  refine lv_iadd hx hb dW_nextByte_11 ?_
  refine va_put (D := (dC, dI)) (ci := 3) (v := .int ((w 5) + 1)) (ty := .int) (C := rW) (T := tW) (N := 8) hx hb hA inW tyW tyW_ok nmW hown hK hP hD hS 0 rfl rfl 5 (by decide) (hA _ wi_66) (fun _ h9 => h9) rfl (by decide +kernel) rfl rfl (Nat.le_of_ble_eq_true rfl) dW_nextByte_12 (fun H locs hP hD hS => ?_)
  have hP : va_P (dC, dI) vwCl [(h0, .inr (3, [.int 1, .int (w 1), .int (w 2), .int (w 3), .int (w 4), .int ((w 5) + 1), .int (w 6), .int (w 7)]))] H := hP
  have hD : va_D A [(h0, .inr (3, [.int 1, .int (w 1), .int (w 2), .int (w 3), .int (w 4), .int ((w 5) + 1), .int (w 6), .int (w 7)]))] := hD
  refine lv_aload_n hx hb dW_nextByte_15 rfl (lv_at hl 0 rfl) ?_
  refine va_get (D := (dC, dI)) (ci := 3) (C := rW) (T := tW) (N := 8) hx hb hA inW hown hK hP 0 rfl rfl 5 (by decide) (hA _ wi_66) (fun _ h9 => h9) rfl dW_nextByte_16 ?_
  refine lv_iconst (v := 4) hx hb dW_nextByte_19 (by decide) ?_
  refine lv_icmp_lt (tgt := 38) hx hb dW_nextByte_20 (by decide) (fun c_20 => ?_) (fun c_20 => ?_)
  · have hPe : va_P (dC, dI) vwCl [(h0, .inr (3, [.int ((wk_next w) 0), .int ((wk_next w) 1), .int ((wk_next w) 2), .int ((wk_next w) 3), .int ((wk_next w) 4), .int ((wk_next w) 5), .int ((wk_next w) 6), .int ((wk_next w) 7)]))] H := by simp only [wk_next, c_20, if_true, if_false, ↓reduceIte]; exact hP
    have hDe : va_D A [(h0, .inr (3, [.int ((wk_next w) 0), .int ((wk_next w) 1), .int ((wk_next w) 2), .int ((wk_next w) 3), .int ((wk_next w) 4), .int ((wk_next w) 5), .int ((wk_next w) 6), .int ((wk_next w) 7)]))] := sp_Dc hD rfl
    exact W.vret hx hb hr (sp_eWv hPe hDe hS) hS.2.2 dW_nextByte_38
  · refine lv_aload_n hx hb dW_nextByte_23 rfl (lv_at hl 0 rfl) ?_
    refine lv_iconst (v := 0) hx hb dW_nextByte_24 (by decide) ?_
    refine va_put (D := (dC, dI)) (ci := 3) (v := .int 0) (ty := .int) (C := rW) (T := tW) (N := 8) hx hb hA inW tyW tyW_ok nmW hown hK hP hD hS 0 rfl rfl 5 (by decide) (hA _ wi_66) (fun _ h9 => h9) rfl (by decide +kernel) rfl rfl (Nat.le_of_ble_eq_true rfl) dW_nextByte_25 (fun H locs hP hD hS => ?_)
    have hP : va_P (dC, dI) vwCl [(h0, .inr (3, [.int 1, .int (w 1), .int (w 2), .int (w 3), .int (w 4), .int 0, .int (w 6), .int (w 7)]))] H := hP
    have hD : va_D A [(h0, .inr (3, [.int 1, .int (w 1), .int (w 2), .int (w 3), .int (w 4), .int 0, .int (w 6), .int (w 7)]))] := hD
    refine lv_aload_n hx hb dW_nextByte_28 rfl (lv_at hl 0 rfl) ?_
    refine lv_dup hx hb dW_nextByte_29 rfl ?_
    refine va_get (D := (dC, dI)) (ci := 3) (C := rW) (T := tW) (N := 8) hx hb hA inW hown hK hP 0 rfl rfl 4 (by decide) (hA _ wi_65) (fun _ h9 => h9) rfl dW_nextByte_30 ?_
    refine lv_iconst (v := 1) hx hb dW_nextByte_33 (by decide) ?_
    refine lv_iadd hx hb dW_nextByte_34 ?_
    refine va_put (D := (dC, dI)) (ci := 3) (v := .int ((w 4) + 1)) (ty := .int) (C := rW) (T := tW) (N := 8) hx hb hA inW tyW tyW_ok nmW hown hK hP hD hS 0 rfl rfl 4 (by decide) (hA _ wi_65) (fun _ h9 => h9) rfl (by decide +kernel) rfl rfl (Nat.le_of_ble_eq_true rfl) dW_nextByte_35 (fun H locs hP hD hS => ?_)
    have hP : va_P (dC, dI) vwCl [(h0, .inr (3, [.int 1, .int (w 1), .int (w 2), .int (w 3), .int ((w 4) + 1), .int 0, .int (w 6), .int (w 7)]))] H := hP
    have hD : va_D A [(h0, .inr (3, [.int 1, .int (w 1), .int (w 2), .int (w 3), .int ((w 4) + 1), .int 0, .int (w 6), .int (w 7)]))] := hD
    have hPe : va_P (dC, dI) vwCl [(h0, .inr (3, [.int ((wk_next w) 0), .int ((wk_next w) 1), .int ((wk_next w) 2), .int ((wk_next w) 3), .int ((wk_next w) 4), .int ((wk_next w) 5), .int ((wk_next w) 6), .int ((wk_next w) 7)]))] H := by simp only [wk_next, c_20, if_true, if_false, ↓reduceIte]; exact hP
    have hDe : va_D A [(h0, .inr (3, [.int ((wk_next w) 0), .int ((wk_next w) 1), .int ((wk_next w) 2), .int ((wk_next w) 3), .int ((wk_next w) 4), .int ((wk_next w) 5), .int ((wk_next w) 6), .int ((wk_next w) 7)]))] := sp_Dc hD rfl
    exact W.vret hx hb hr (sp_eWv hPe hDe hS) hS.2.2 dW_nextByte_38
set_option maxHeartbeats 4000000 in
set_option maxRecDepth 100000 in
theorem kW_pass (l : Launch) (dC : Nat → ClassId) (dI : Nat → Nat → Nat) (cI cQ : ClassId) (h0 : Nat) (w : Nat → Int32) (sz : Nat)  : Met l yW_passOver (.code yW_passOver cW_passOver 1 none :: wA) ({ frames := 1, cells := 0, slots := 0, locals := 20 }) (sp_P (dC, dI) (kT cI cQ) [.ref h0] [(h0, .inr (3, [.int (w 0), .int (w 1), .int (w 2), .int (w 3), .int (w 4), .int (w 5), .int (w 6), .int (w 7)]))] sz) (sp_QWv (dC, dI) [(h0, .inr (3, [.int ((wk_pass w) 0), .int ((wk_pass w) 1), .int ((wk_pass w) 2), .int ((wk_pass w) 3), .int ((wk_pass w) 4), .int ((wk_pass w) 5), .int ((wk_pass w) 6), .int ((wk_pass w) 7)]))] (va_A [(h0, .inr (3, [.int (w 0), .int (w 1), .int (w 2), .int (w 3), .int (w 4), .int (w 5), .int (w 6), .int (w 7)]))] sz)) 0 0 (va_A [(h0, .inr (3, [.int (w 0), .int (w 1), .int (w 2), .int (w 3), .int (w 4), .int (w 5), .int (w 6), .int (w 7)]))] sz) := by
  refine Met.ofW (cc := cW_passOver) (maxL := 1) (ret := none) (by decide) rfl ?_
  intro p e s m args below meth c s₁ B hml hv
  obtain ⟨rfl, hsz, hP, hK, hD0, hG⟩ := hv
  have hx := B.exec
  have hb := B.bytes
  have hr := B.returns
  have hA := sp_hA (atoms_spec (ws := (.code yW_passOver cW_passOver 1 none :: wA)) B.pre)
  have hown : s.vm.findClass rW = some m.cls := findClass_of_methodNamed B.named
  have hlocks := B.notSynchronized
  subst hsz
  have hD := hD0.self (sz := s.heap.size)
  generalize hAe : va_A [(h0, .inr (3, [.int (w 0), .int (w 1), .int (w 2), .int (w 3), .int (w 4), .int (w 5), .int (w 6), .int (w 7)]))] s.heap.size = A at hD ⊢
  have hF : ∀ q : Nat, s.heap.size ≤ q → A q := fun q h => by rw [← hAe]; exact Or.inr h
  have hS : va_S A s.heap s.heap [] := va_S.rf
  have hl := lv_entry ([.ref h0]) (n := 1) (Nat.le_of_ble_eq_true rfl)
  rw [lg_entry_eq]
  generalize (lg_sl ([.ref h0]) ++ List.replicate (1 - (lg_sl ([.ref h0])).length) Slot.unset).toArray = ls at hl ⊢
  have hl : lv_has ls 1 [(0, .ref h0)] := hl
  refine lv_aload_n hx hb dW_passOver_0 rfl (lv_at hl 0 rfl) ?_
  refine va_get (D := (dC, dI)) (ci := 3) (C := rW) (T := tW) (N := 8) hx hb hA inW hown hK hP 0 rfl rfl 0 (by decide) (hA _ wi_61) (fun _ h9 => h9) rfl dW_passOver_1 ?_
  refine lv_if_ne (tgt := 23) hx hb dW_passOver_4 (by decide) (fun c_4 => ?_) (fun c_4 => ?_)
  · refine lv_aload_n hx hb dW_passOver_23 rfl (lv_at hl 0 rfl) ?_
    refine va_get (D := (dC, dI)) (ci := 3) (C := rW) (T := tW) (N := 8) hx hb hA inW hown hK hP 0 rfl rfl 0 (by decide) (hA _ wi_61) (fun _ h9 => h9) rfl dW_passOver_24 ?_
    refine lv_iconst (v := 1) hx hb dW_passOver_27 (by decide) ?_
    refine lv_icmp_ne (tgt := 39) hx hb dW_passOver_28 (by decide) (fun c_28 => ?_) (fun c_28 => ?_)
    · refine lv_aload_n hx hb dW_passOver_39 rfl (lv_at hl 0 rfl) ?_
      refine va_get (D := (dC, dI)) (ci := 3) (C := rW) (T := tW) (N := 8) hx hb hA inW hown hK hP 0 rfl rfl 0 (by decide) (hA _ wi_61) (fun _ h9 => h9) rfl dW_passOver_40 ?_
      refine lv_iconst (v := 2) hx hb dW_passOver_43 (by decide) ?_
      refine lv_icmp_ne (tgt := 55) hx hb dW_passOver_44 (by decide) (fun c_44 => ?_) (fun c_44 => ?_)
      · refine lv_aload_n hx hb dW_passOver_55 rfl (lv_at hl 0 rfl) ?_
        have hPc := hP.sub (ws' := [(h0, .inr (3, [.int (w 0), .int (w 1), .int (w 2), .int (w 3), .int (w 4), .int (w 5), .int (w 6), .int (w 7)]))]) [0] rfl
        have hDc := hD.sub (ws' := [(h0, .inr (3, [.int (w 0), .int (w 1), .int (w 2), .int (w 3), .int (w 4), .int (w 5), .int (w 6), .int (w 7)]))]) [0] (by decide) rfl
        have hFc := va_free (wc := [(h0, .inr (3, [.int (w 0), .int (w 1), .int (w 2), .int (w 3), .int (w 4), .int (w 5), .int (w 6), .int (w 7)]))]) hD hS hF [0] rfl
        refine va_callv (va_runV (As := []) (rest := []) ⟨hx, hb, hml, hown, hA⟩ (kW_next l dC dI cI cQ h0 w _) (cwV 0 hA (gd_V wi_379 wi_380 wi_672 wi_5 wi_381) rfl rfl rfl (by decide +kernel) ⟨Nat.le_of_ble_eq_true rfl, Nat.le_of_ble_eq_true rfl⟩) ⟨sp_Pb, va_recv hK hP (ci := 3) (q0 := 0) rfl rfl, sp_Po hPc hK hG hDc⟩ rfl rfl hl.1 rfl (lv_room (Nat.le_of_ble_eq_true rfl)) dW_passOver_56 ⟨Nat.le_of_ble_eq_true rfl, Nat.le_of_ble_eq_true rfl⟩) hS (fun q _ h => hFc q h) hFc (fun u_56 t H locs ht hvm hw hB hz1 hk1 hS => ?_)
        obtain ⟨hP1, hD1⟩ := hB
        rw [ht] at hP1
        obtain ⟨hP, hD⟩ := va_join (wr := []) (w1 := [(h0, .inr (3, [.int ((wk_next w) 0), .int ((wk_next w) 1), .int ((wk_next w) 2), .int ((wk_next w) 3), .int ((wk_next w) 4), .int ((wk_next w) 5), .int ((wk_next w) 6), .int ((wk_next w) 7)]))]) hP hD [0] [] rfl rfl (by decide) (by decide) hk1 hFc hP1 hD1
        have hP : va_P (dC, dI) vwCl [(h0, .inr (3, [.int ((wk_next w) 0), .int ((wk_next w) 1), .int ((wk_next w) 2), .int ((wk_next w) 3), .int ((wk_next w) 4), .int ((wk_next w) 5), .int ((wk_next w) 6), .int ((wk_next w) 7)]))] H := hP.sub [0] rfl
        have hD : va_D A [(h0, .inr (3, [.int ((wk_next w) 0), .int ((wk_next w) 1), .int ((wk_next w) 2), .int ((wk_next w) 3), .int ((wk_next w) 4), .int ((wk_next w) 5), .int ((wk_next w) 6), .int ((wk_next w) 7)]))] := hD.sub [0] (by decide) rfl
        have hPe : va_P (dC, dI) vwCl [(h0, .inr (3, [.int ((wk_pass w) 0), .int ((wk_pass w) 1), .int ((wk_pass w) 2), .int ((wk_pass w) 3), .int ((wk_pass w) 4), .int ((wk_pass w) 5), .int ((wk_pass w) 6), .int ((wk_pass w) 7)]))] H := by simp only [wk_pass, c_4, c_28, c_44, if_true, if_false, ↓reduceIte]; exact hP
        have hDe : va_D A [(h0, .inr (3, [.int ((wk_pass w) 0), .int ((wk_pass w) 1), .int ((wk_pass w) 2), .int ((wk_pass w) 3), .int ((wk_pass w) 4), .int ((wk_pass w) 5), .int ((wk_pass w) 6), .int ((wk_pass w) 7)]))] := sp_Dc hD rfl
        exact W.vret hx hb hr (sp_eWv hPe hDe hS) hS.2.2 dW_passOver_59
      · refine lv_aload_n hx hb dW_passOver_47 rfl (lv_at hl 0 rfl) ?_
        refine lv_iconst (v := 3) hx hb dW_passOver_48 (by decide) ?_
        refine va_put (D := (dC, dI)) (ci := 3) (v := .int 3) (ty := .int) (C := rW) (T := tW) (N := 8) hx hb hA inW tyW tyW_ok nmW hown hK hP hD hS 0 rfl rfl 0 (by decide) (hA _ wi_61) (fun _ h9 => h9) rfl (by decide +kernel) rfl rfl (Nat.le_of_ble_eq_true rfl) dW_passOver_49 (fun H locs hP hD hS => ?_)
        have hP : va_P (dC, dI) vwCl [(h0, .inr (3, [.int 3, .int (w 1), .int (w 2), .int (w 3), .int (w 4), .int (w 5), .int (w 6), .int (w 7)]))] H := hP
        have hD : va_D A [(h0, .inr (3, [.int 3, .int (w 1), .int (w 2), .int (w 3), .int (w 4), .int (w 5), .int (w 6), .int (w 7)]))] := hD
        refine lv_goto (tgt := 59) hx hb dW_passOver_52 (by decide) ?_
        have hPe : va_P (dC, dI) vwCl [(h0, .inr (3, [.int ((wk_pass w) 0), .int ((wk_pass w) 1), .int ((wk_pass w) 2), .int ((wk_pass w) 3), .int ((wk_pass w) 4), .int ((wk_pass w) 5), .int ((wk_pass w) 6), .int ((wk_pass w) 7)]))] H := by simp only [wk_pass, c_4, c_28, c_44, if_true, if_false, ↓reduceIte]; exact hP
        have hDe : va_D A [(h0, .inr (3, [.int ((wk_pass w) 0), .int ((wk_pass w) 1), .int ((wk_pass w) 2), .int ((wk_pass w) 3), .int ((wk_pass w) 4), .int ((wk_pass w) 5), .int ((wk_pass w) 6), .int ((wk_pass w) 7)]))] := sp_Dc hD rfl
        exact W.vret hx hb hr (sp_eWv hPe hDe hS) hS.2.2 dW_passOver_59
    · refine lv_aload_n hx hb dW_passOver_31 rfl (lv_at hl 0 rfl) ?_
      refine lv_iconst (v := 2) hx hb dW_passOver_32 (by decide) ?_
      refine va_put (D := (dC, dI)) (ci := 3) (v := .int 2) (ty := .int) (C := rW) (T := tW) (N := 8) hx hb hA inW tyW tyW_ok nmW hown hK hP hD hS 0 rfl rfl 0 (by decide) (hA _ wi_61) (fun _ h9 => h9) rfl (by decide +kernel) rfl rfl (Nat.le_of_ble_eq_true rfl) dW_passOver_33 (fun H locs hP hD hS => ?_)
      have hP : va_P (dC, dI) vwCl [(h0, .inr (3, [.int 2, .int (w 1), .int (w 2), .int (w 3), .int (w 4), .int (w 5), .int (w 6), .int (w 7)]))] H := hP
      have hD : va_D A [(h0, .inr (3, [.int 2, .int (w 1), .int (w 2), .int (w 3), .int (w 4), .int (w 5), .int (w 6), .int (w 7)]))] := hD
      refine lv_goto (tgt := 59) hx hb dW_passOver_36 (by decide) ?_
      have hPe : va_P (dC, dI) vwCl [(h0, .inr (3, [.int ((wk_pass w) 0), .int ((wk_pass w) 1), .int ((wk_pass w) 2), .int ((wk_pass w) 3), .int ((wk_pass w) 4), .int ((wk_pass w) 5), .int ((wk_pass w) 6), .int ((wk_pass w) 7)]))] H := by simp only [wk_pass, c_4, c_28, if_true, if_false, ↓reduceIte]; exact hP
      have hDe : va_D A [(h0, .inr (3, [.int ((wk_pass w) 0), .int ((wk_pass w) 1), .int ((wk_pass w) 2), .int ((wk_pass w) 3), .int ((wk_pass w) 4), .int ((wk_pass w) 5), .int ((wk_pass w) 6), .int ((wk_pass w) 7)]))] := sp_Dc hD rfl
      exact W.vret hx hb hr (sp_eWv hPe hDe hS) hS.2.2 dW_passOver_59
  · refine lv_aload_n hx hb dW_passOver_7 rfl (lv_at hl 0 rfl) ?_
    refine lv_dup hx hb dW_passOver_8 rfl ?_
    refine va_get (D := (dC, dI)) (ci := 3) (C := rW) (T := tW) (N := 8) hx hb hA inW hown hK hP 0 rfl rfl 2 (by decide) (hA _ wi_63) (fun _ h9 => h9) rfl dW_passOver_9 ?_
    refine lv_aload_n hx hb dW_passOver_12 rfl (lv_at hl 0 rfl) ?_
    refine va_get (D := (dC, dI)) (ci := 3) (C := rW) (T := tW) (N := 8) hx hb hA inW hown hK hP 0 rfl rfl 1 (by decide) (hA _ wi_62) (fun _ h9 => h9) rfl dW_passOver_13 ?_
    refine lv_iadd hx hb dW_passOver_16 ?_
    refine va_put (D := (dC, dI)) (ci := 3) (v := .int ((w 2) + (w 1))) (ty := .int) (C := rW) (T := tW) (N := 8) hx hb hA inW tyW tyW_ok nmW hown hK hP hD hS 0 rfl rfl 2 (by decide) (hA _ wi_63) (fun _ h9 => h9) rfl (by decide +kernel) rfl rfl (Nat.le_of_ble_eq_true rfl) dW_passOver_17 (fun H locs hP hD hS => ?_)
    have hP : va_P (dC, dI) vwCl [(h0, .inr (3, [.int (w 0), .int (w 1), .int ((w 2) + (w 1)), .int (w 3), .int (w 4), .int (w 5), .int (w 6), .int (w 7)]))] H := hP
    have hD : va_D A [(h0, .inr (3, [.int (w 0), .int (w 1), .int ((w 2) + (w 1)), .int (w 3), .int (w 4), .int (w 5), .int (w 6), .int (w 7)]))] := hD
    refine lv_goto (tgt := 59) hx hb dW_passOver_20 (by decide) ?_
    have hPe : va_P (dC, dI) vwCl [(h0, .inr (3, [.int ((wk_pass w) 0), .int ((wk_pass w) 1), .int ((wk_pass w) 2), .int ((wk_pass w) 3), .int ((wk_pass w) 4), .int ((wk_pass w) 5), .int ((wk_pass w) 6), .int ((wk_pass w) 7)]))] H := by simp only [wk_pass, c_4, if_true, if_false, ↓reduceIte]; exact hP
    have hDe : va_D A [(h0, .inr (3, [.int ((wk_pass w) 0), .int ((wk_pass w) 1), .int ((wk_pass w) 2), .int ((wk_pass w) 3), .int ((wk_pass w) 4), .int ((wk_pass w) 5), .int ((wk_pass w) 6), .int ((wk_pass w) 7)]))] := sp_Dc hD rfl
    exact W.vret hx hb hr (sp_eWv hPe hDe hS) hS.2.2 dW_passOver_59
set_option maxHeartbeats 4000000 in
set_option maxRecDepth 100000 in
theorem kW_go (l : Launch) (dC : Nat → ClassId) (dI : Nat → Nat → Nat) (cI cQ : ClassId) (h0 : Nat) (w : Nat → Int32) (sz : Nat)  : Met l yW_goOn (.code yW_goOn cW_goOn 1 none :: wA) ({ frames := 1, cells := 0, slots := 0, locals := 20 }) (sp_P (dC, dI) (kT cI cQ) [.ref h0] [(h0, .inr (3, [.int (w 0), .int (w 1), .int (w 2), .int (w 3), .int (w 4), .int (w 5), .int (w 6), .int (w 7)]))] sz) (sp_QWv (dC, dI) [(h0, .inr (3, [.int ((wk_go w) 0), .int ((wk_go w) 1), .int ((wk_go w) 2), .int ((wk_go w) 3), .int ((wk_go w) 4), .int ((wk_go w) 5), .int ((wk_go w) 6), .int ((wk_go w) 7)]))] (va_A [(h0, .inr (3, [.int (w 0), .int (w 1), .int (w 2), .int (w 3), .int (w 4), .int (w 5), .int (w 6), .int (w 7)]))] sz)) 0 0 (va_A [(h0, .inr (3, [.int (w 0), .int (w 1), .int (w 2), .int (w 3), .int (w 4), .int (w 5), .int (w 6), .int (w 7)]))] sz) := by
  refine Met.ofW (cc := cW_goOn) (maxL := 1) (ret := none) (by decide) rfl ?_
  intro p e s m args below meth c s₁ B hml hv
  obtain ⟨rfl, hsz, hP, hK, hD0, hG⟩ := hv
  have hx := B.exec
  have hb := B.bytes
  have hr := B.returns
  have hA := sp_hA (atoms_spec (ws := (.code yW_goOn cW_goOn 1 none :: wA)) B.pre)
  have hown : s.vm.findClass rW = some m.cls := findClass_of_methodNamed B.named
  have hlocks := B.notSynchronized
  subst hsz
  have hD := hD0.self (sz := s.heap.size)
  generalize hAe : va_A [(h0, .inr (3, [.int (w 0), .int (w 1), .int (w 2), .int (w 3), .int (w 4), .int (w 5), .int (w 6), .int (w 7)]))] s.heap.size = A at hD ⊢
  have hF : ∀ q : Nat, s.heap.size ≤ q → A q := fun q h => by rw [← hAe]; exact Or.inr h
  have hS : va_S A s.heap s.heap [] := va_S.rf
  have hl := lv_entry ([.ref h0]) (n := 1) (Nat.le_of_ble_eq_true rfl)
  rw [lg_entry_eq]
  generalize (lg_sl ([.ref h0]) ++ List.replicate (1 - (lg_sl ([.ref h0])).length) Slot.unset).toArray = ls at hl ⊢
  have hl : lv_has ls 1 [(0, .ref h0)] := hl
  refine lv_aload_n hx hb dW_goOn_0 rfl (lv_at hl 0 rfl) ?_
  refine va_get (D := (dC, dI)) (ci := 3) (C := rW) (T := tW) (N := 8) hx hb hA inW hown hK hP 0 rfl rfl 0 (by decide) (hA _ wi_61) (fun _ h9 => h9) rfl dW_goOn_1 ?_
  refine lv_if_ne (tgt := 13) hx hb dW_goOn_4 (by decide) (fun c_4 => ?_) (fun c_4 => ?_)
  · refine lv_aload_n hx hb dW_goOn_13 rfl (lv_at hl 0 rfl) ?_
    refine lv_iconst (v := 1) hx hb dW_goOn_14 (by decide) ?_
    refine va_put (D := (dC, dI)) (ci := 3) (v := .int 1) (ty := .boolean) (C := rW) (T := tW) (N := 8) hx hb hA inW tyW tyW_ok nmW hown hK hP hD hS 0 rfl rfl 6 (by decide) (hA _ wi_67) (fun _ h9 => h9) rfl (by decide +kernel) rfl rfl (Nat.le_of_ble_eq_true rfl) dW_goOn_15 (fun H locs hP hD hS => ?_)
    have hP : va_P (dC, dI) vwCl [(h0, .inr (3, [.int (w 0), .int (w 1), .int (w 2), .int (w 3), .int (w 4), .int (w 5), .int 1, .int (w 7)]))] H := hP
    have hD : va_D A [(h0, .inr (3, [.int (w 0), .int (w 1), .int (w 2), .int (w 3), .int (w 4), .int (w 5), .int 1, .int (w 7)]))] := hD
    refine lv_aload_n hx hb dW_goOn_18 rfl (lv_at hl 0 rfl) ?_
    refine va_get (D := (dC, dI)) (ci := 3) (C := rW) (T := tW) (N := 8) hx hb hA inW hown hK hP 0 rfl rfl 0 (by decide) (hA _ wi_61) (fun _ h9 => h9) rfl dW_goOn_19 ?_
    refine lv_iconst (v := 1) hx hb dW_goOn_22 (by decide) ?_
    refine lv_icmp_ne (tgt := 30) hx hb dW_goOn_23 (by decide) (fun c_23 => ?_) (fun c_23 => ?_)
    · have hPe : va_P (dC, dI) vwCl [(h0, .inr (3, [.int ((wk_go w) 0), .int ((wk_go w) 1), .int ((wk_go w) 2), .int ((wk_go w) 3), .int ((wk_go w) 4), .int ((wk_go w) 5), .int ((wk_go w) 6), .int ((wk_go w) 7)]))] H := by simp only [wk_go, c_4, c_23, if_true, if_false, ↓reduceIte]; exact hP
      have hDe : va_D A [(h0, .inr (3, [.int ((wk_go w) 0), .int ((wk_go w) 1), .int ((wk_go w) 2), .int ((wk_go w) 3), .int ((wk_go w) 4), .int ((wk_go w) 5), .int ((wk_go w) 6), .int ((wk_go w) 7)]))] := sp_Dc hD rfl
      exact W.vret hx hb hr (sp_eWv hPe hDe hS) hS.2.2 dW_goOn_30
    · refine lv_aload_n hx hb dW_goOn_26 rfl (lv_at hl 0 rfl) ?_
      have hP : va_P (dC, dI) vwCl [(h0, .inr (3, [.int ((upd w 6 1) 0), .int ((upd w 6 1) 1), .int ((upd w 6 1) 2), .int ((upd w 6 1) 3), .int ((upd w 6 1) 4), .int ((upd w 6 1) 5), .int ((upd w 6 1) 6), .int ((upd w 6 1) 7)]))] H := hP
      have hD : va_D A [(h0, .inr (3, [.int ((upd w 6 1) 0), .int ((upd w 6 1) 1), .int ((upd w 6 1) 2), .int ((upd w 6 1) 3), .int ((upd w 6 1) 4), .int ((upd w 6 1) 5), .int ((upd w 6 1) 6), .int ((upd w 6 1) 7)]))] := hD
      have hPc := hP.sub (ws' := [(h0, .inr (3, [.int ((upd w 6 1) 0), .int ((upd w 6 1) 1), .int ((upd w 6 1) 2), .int ((upd w 6 1) 3), .int ((upd w 6 1) 4), .int ((upd w 6 1) 5), .int ((upd w 6 1) 6), .int ((upd w 6 1) 7)]))]) [0] rfl
      have hDc := hD.sub (ws' := [(h0, .inr (3, [.int ((upd w 6 1) 0), .int ((upd w 6 1) 1), .int ((upd w 6 1) 2), .int ((upd w 6 1) 3), .int ((upd w 6 1) 4), .int ((upd w 6 1) 5), .int ((upd w 6 1) 6), .int ((upd w 6 1) 7)]))]) [0] (by decide) rfl
      have hFc := va_free (wc := [(h0, .inr (3, [.int ((upd w 6 1) 0), .int ((upd w 6 1) 1), .int ((upd w 6 1) 2), .int ((upd w 6 1) 3), .int ((upd w 6 1) 4), .int ((upd w 6 1) 5), .int ((upd w 6 1) 6), .int ((upd w 6 1) 7)]))]) hD hS hF [0] rfl
      refine va_callv (va_runV (As := []) (rest := []) ⟨hx, hb, hml, hown, hA⟩ (kW_next l dC dI cI cQ h0 (upd w 6 1) _) (cwV 0 hA (gd_V wi_379 wi_380 wi_672 wi_5 wi_381) rfl rfl rfl (by decide +kernel) ⟨Nat.le_of_ble_eq_true rfl, Nat.le_of_ble_eq_true rfl⟩) ⟨sp_Pb, va_recv hK hP (ci := 3) (q0 := 0) rfl rfl, sp_Po hPc hK hG hDc⟩ rfl rfl hl.1 rfl (lv_room (Nat.le_of_ble_eq_true rfl)) dW_goOn_27 ⟨Nat.le_of_ble_eq_true rfl, Nat.le_of_ble_eq_true rfl⟩) hS (fun q _ h => hFc q h) hFc (fun u_27 t H locs ht hvm hw hB hz1 hk1 hS => ?_)
      obtain ⟨hP1, hD1⟩ := hB
      rw [ht] at hP1
      obtain ⟨hP, hD⟩ := va_join (wr := []) (w1 := [(h0, .inr (3, [.int ((wk_next (upd w 6 1)) 0), .int ((wk_next (upd w 6 1)) 1), .int ((wk_next (upd w 6 1)) 2), .int ((wk_next (upd w 6 1)) 3), .int ((wk_next (upd w 6 1)) 4), .int ((wk_next (upd w 6 1)) 5), .int ((wk_next (upd w 6 1)) 6), .int ((wk_next (upd w 6 1)) 7)]))]) hP hD [0] [] rfl rfl (by decide) (by decide) hk1 hFc hP1 hD1
      have hP : va_P (dC, dI) vwCl [(h0, .inr (3, [.int ((wk_next (upd w 6 1)) 0), .int ((wk_next (upd w 6 1)) 1), .int ((wk_next (upd w 6 1)) 2), .int ((wk_next (upd w 6 1)) 3), .int ((wk_next (upd w 6 1)) 4), .int ((wk_next (upd w 6 1)) 5), .int ((wk_next (upd w 6 1)) 6), .int ((wk_next (upd w 6 1)) 7)]))] H := hP.sub [0] rfl
      have hD : va_D A [(h0, .inr (3, [.int ((wk_next (upd w 6 1)) 0), .int ((wk_next (upd w 6 1)) 1), .int ((wk_next (upd w 6 1)) 2), .int ((wk_next (upd w 6 1)) 3), .int ((wk_next (upd w 6 1)) 4), .int ((wk_next (upd w 6 1)) 5), .int ((wk_next (upd w 6 1)) 6), .int ((wk_next (upd w 6 1)) 7)]))] := hD.sub [0] (by decide) rfl
      have hPe : va_P (dC, dI) vwCl [(h0, .inr (3, [.int ((wk_go w) 0), .int ((wk_go w) 1), .int ((wk_go w) 2), .int ((wk_go w) 3), .int ((wk_go w) 4), .int ((wk_go w) 5), .int ((wk_go w) 6), .int ((wk_go w) 7)]))] H := by simp only [wk_go, c_4, c_23, if_true, if_false, ↓reduceIte]; exact hP
      have hDe : va_D A [(h0, .inr (3, [.int ((wk_go w) 0), .int ((wk_go w) 1), .int ((wk_go w) 2), .int ((wk_go w) 3), .int ((wk_go w) 4), .int ((wk_go w) 5), .int ((wk_go w) 6), .int ((wk_go w) 7)]))] := sp_Dc hD rfl
      exact W.vret hx hb hr (sp_eWv hPe hDe hS) hS.2.2 dW_goOn_30
  · refine lv_aload_n hx hb dW_goOn_7 rfl (lv_at hl 0 rfl) ?_
    refine lv_iconst (v := 1) hx hb dW_goOn_8 (by decide) ?_
    refine va_put (D := (dC, dI)) (ci := 3) (v := .int 1) (ty := .boolean) (C := rW) (T := tW) (N := 8) hx hb hA inW tyW tyW_ok nmW hown hK hP hD hS 0 rfl rfl 3 (by decide) (hA _ wi_64) (fun _ h9 => h9) rfl (by decide +kernel) rfl rfl (Nat.le_of_ble_eq_true rfl) dW_goOn_9 (fun H locs hP hD hS => ?_)
    have hP : va_P (dC, dI) vwCl [(h0, .inr (3, [.int (w 0), .int (w 1), .int (w 2), .int 1, .int (w 4), .int (w 5), .int (w 6), .int (w 7)]))] H := hP
    have hD : va_D A [(h0, .inr (3, [.int (w 0), .int (w 1), .int (w 2), .int 1, .int (w 4), .int (w 5), .int (w 6), .int (w 7)]))] := hD
    have hPe : va_P (dC, dI) vwCl [(h0, .inr (3, [.int ((wk_go w) 0), .int ((wk_go w) 1), .int ((wk_go w) 2), .int ((wk_go w) 3), .int ((wk_go w) 4), .int ((wk_go w) 5), .int ((wk_go w) 6), .int ((wk_go w) 7)]))] H := by simp only [wk_go, c_4, if_true, if_false, ↓reduceIte]; exact hP
    have hDe : va_D A [(h0, .inr (3, [.int ((wk_go w) 0), .int ((wk_go w) 1), .int ((wk_go w) 2), .int ((wk_go w) 3), .int ((wk_go w) 4), .int ((wk_go w) 5), .int ((wk_go w) 6), .int ((wk_go w) 7)]))] := sp_Dc hD rfl
    exact W.vret hx hb hr (sp_eWv hPe hDe hS) hS.2.2 dW_goOn_12
set_option maxHeartbeats 4000000 in
set_option maxRecDepth 100000 in
theorem kW_end (l : Launch) (dC : Nat → ClassId) (dI : Nat → Nat → Nat) (cI cQ : ClassId) (h0 : Nat) (w : Nat → Int32) (sz : Nat)  : Met l yW_endGoingThrough (.code yW_endGoingThrough cW_endGoingThrough 1 none :: wA) ({ frames := 1, cells := 0, slots := 0, locals := 21 }) (sp_P (dC, dI) (kT cI cQ) [.ref h0] [(h0, .inr (3, [.int (w 0), .int (w 1), .int (w 2), .int (w 3), .int (w 4), .int (w 5), .int (w 6), .int (w 7)]))] sz) (sp_QWv (dC, dI) [(h0, .inr (3, [.int ((wk_end w) 0), .int ((wk_end w) 1), .int ((wk_end w) 2), .int ((wk_end w) 3), .int ((wk_end w) 4), .int ((wk_end w) 5), .int ((wk_end w) 6), .int ((wk_end w) 7)]))] (va_A [(h0, .inr (3, [.int (w 0), .int (w 1), .int (w 2), .int (w 3), .int (w 4), .int (w 5), .int (w 6), .int (w 7)]))] sz)) 0 0 (va_A [(h0, .inr (3, [.int (w 0), .int (w 1), .int (w 2), .int (w 3), .int (w 4), .int (w 5), .int (w 6), .int (w 7)]))] sz) := by
  refine Met.ofW (cc := cW_endGoingThrough) (maxL := 1) (ret := none) (by decide) rfl ?_
  intro p e s m args below meth c s₁ B hml hv
  obtain ⟨rfl, hsz, hP, hK, hD0, hG⟩ := hv
  have hx := B.exec
  have hb := B.bytes
  have hr := B.returns
  have hA := sp_hA (atoms_spec (ws := (.code yW_endGoingThrough cW_endGoingThrough 1 none :: wA)) B.pre)
  have hown : s.vm.findClass rW = some m.cls := findClass_of_methodNamed B.named
  have hlocks := B.notSynchronized
  subst hsz
  have hD := hD0.self (sz := s.heap.size)
  generalize hAe : va_A [(h0, .inr (3, [.int (w 0), .int (w 1), .int (w 2), .int (w 3), .int (w 4), .int (w 5), .int (w 6), .int (w 7)]))] s.heap.size = A at hD ⊢
  have hF : ∀ q : Nat, s.heap.size ≤ q → A q := fun q h => by rw [← hAe]; exact Or.inr h
  have hS : va_S A s.heap s.heap [] := va_S.rf
  have hl := lv_entry ([.ref h0]) (n := 1) (Nat.le_of_ble_eq_true rfl)
  rw [lg_entry_eq]
  generalize (lg_sl ([.ref h0]) ++ List.replicate (1 - (lg_sl ([.ref h0])).length) Slot.unset).toArray = ls at hl ⊢
  have hl : lv_has ls 1 [(0, .ref h0)] := hl
  refine lv_aload_n hx hb dW_endGoingThrough_0 rfl (lv_at hl 0 rfl) ?_
  refine va_get (D := (dC, dI)) (ci := 3) (C := rW) (T := tW) (N := 8) hx hb hA inW hown hK hP 0 rfl rfl 1 (by decide) (hA _ wi_62) (fun _ h9 => h9) rfl dW_endGoingThrough_1 ?_
  refine lv_iconst (v := 1) hx hb dW_endGoingThrough_4 (by decide) ?_
  refine lv_icmp_le (tgt := 21) hx hb dW_endGoingThrough_5 (by decide) (fun c_5 => ?_) (fun c_5 => ?_)
  · refine lv_aload_n hx hb dW_endGoingThrough_21 rfl (lv_at hl 0 rfl) ?_
    refine va_get (D := (dC, dI)) (ci := 3) (C := rW) (T := tW) (N := 8) hx hb hA inW hown hK hP 0 rfl rfl 3 (by decide) (hA _ wi_64) (fun _ h9 => h9) rfl dW_endGoingThrough_22 ?_
    refine lv_if_eq (tgt := 36) hx hb dW_endGoingThrough_25 (by decide) (fun c_25 => ?_) (fun c_25 => ?_)
    · refine lv_aload_n hx hb dW_endGoingThrough_36 rfl (lv_at hl 0 rfl) ?_
      have hPc := hP.sub (ws' := [(h0, .inr (3, [.int (w 0), .int (w 1), .int (w 2), .int (w 3), .int (w 4), .int (w 5), .int (w 6), .int (w 7)]))]) [0] rfl
      have hDc := hD.sub (ws' := [(h0, .inr (3, [.int (w 0), .int (w 1), .int (w 2), .int (w 3), .int (w 4), .int (w 5), .int (w 6), .int (w 7)]))]) [0] (by decide) rfl
      have hFc := va_free (wc := [(h0, .inr (3, [.int (w 0), .int (w 1), .int (w 2), .int (w 3), .int (w 4), .int (w 5), .int (w 6), .int (w 7)]))]) hD hS hF [0] rfl
      refine va_callv (va_runV (As := []) (rest := []) ⟨hx, hb, hml, hown, hA⟩ (kW_slow l dC dI cI cQ h0 w _) (cwV 0 hA (gd_V wi_426 wi_427 wi_676 wi_5 wi_428) rfl rfl rfl (by decide +kernel) ⟨Nat.le_of_ble_eq_true rfl, Nat.le_of_ble_eq_true rfl⟩) ⟨sp_Pb, va_recv hK hP (ci := 3) (q0 := 0) rfl rfl, sp_Po hPc hK hG hDc⟩ rfl rfl hl.1 rfl (lv_room (Nat.le_of_ble_eq_true rfl)) dW_endGoingThrough_37 ⟨Nat.le_of_ble_eq_true rfl, Nat.le_of_ble_eq_true rfl⟩) hS (fun q _ h => hFc q h) hFc (fun u_37 t H locs ht hvm hw hB hz1 hk1 hS => ?_)
      obtain ⟨hP1, hD1⟩ := hB
      rw [ht] at hP1
      obtain ⟨hP, hD⟩ := va_join (wr := []) (w1 := [(h0, .inr (3, [.int ((wk_slow w) 0), .int ((wk_slow w) 1), .int ((wk_slow w) 2), .int ((wk_slow w) 3), .int ((wk_slow w) 4), .int ((wk_slow w) 5), .int ((wk_slow w) 6), .int ((wk_slow w) 7)]))]) hP hD [0] [] rfl rfl (by decide) (by decide) hk1 hFc hP1 hD1
      have hP : va_P (dC, dI) vwCl [(h0, .inr (3, [.int ((wk_slow w) 0), .int ((wk_slow w) 1), .int ((wk_slow w) 2), .int ((wk_slow w) 3), .int ((wk_slow w) 4), .int ((wk_slow w) 5), .int ((wk_slow w) 6), .int ((wk_slow w) 7)]))] H := hP.sub [0] rfl
      have hD : va_D A [(h0, .inr (3, [.int ((wk_slow w) 0), .int ((wk_slow w) 1), .int ((wk_slow w) 2), .int ((wk_slow w) 3), .int ((wk_slow w) 4), .int ((wk_slow w) 5), .int ((wk_slow w) 6), .int ((wk_slow w) 7)]))] := hD.sub [0] (by decide) rfl
      have hPe : va_P (dC, dI) vwCl [(h0, .inr (3, [.int ((wk_end w) 0), .int ((wk_end w) 1), .int ((wk_end w) 2), .int ((wk_end w) 3), .int ((wk_end w) 4), .int ((wk_end w) 5), .int ((wk_end w) 6), .int ((wk_end w) 7)]))] H := by simp only [wk_end, c_5, c_25, if_true, if_false, ↓reduceIte]; exact hP
      have hDe : va_D A [(h0, .inr (3, [.int ((wk_end w) 0), .int ((wk_end w) 1), .int ((wk_end w) 2), .int ((wk_end w) 3), .int ((wk_end w) 4), .int ((wk_end w) 5), .int ((wk_end w) 6), .int ((wk_end w) 7)]))] := sp_Dc hD rfl
      exact W.vret hx hb hr (sp_eWv hPe hDe hS) hS.2.2 dW_endGoingThrough_40
    · refine lv_aload_n hx hb dW_endGoingThrough_28 rfl (lv_at hl 0 rfl) ?_
      refine lv_iconst (v := 1) hx hb dW_endGoingThrough_29 (by decide) ?_
      have hPc := hP.sub (ws' := [(h0, .inr (3, [.int (w 0), .int (w 1), .int (w 2), .int (w 3), .int (w 4), .int (w 5), .int (w 6), .int (w 7)]))]) [0] rfl
      have hDc := hD.sub (ws' := [(h0, .inr (3, [.int (w 0), .int (w 1), .int (w 2), .int (w 3), .int (w 4), .int (w 5), .int (w 6), .int (w 7)]))]) [0] (by decide) rfl
      have hFc := va_free (wc := [(h0, .inr (3, [.int (w 0), .int (w 1), .int (w 2), .int (w 3), .int (w 4), .int (w 5), .int (w 6), .int (w 7)]))]) hD hS hF [0] rfl
      refine va_callv (va_runV (As := [.int 1]) (rest := []) ⟨hx, hb, hml, hown, hA⟩ (kW_sgt l dC dI cI cQ h0 w 1 _) (cwV 1 hA (gd_V wi_369 wi_370 wi_670 wi_5 wi_371) rfl rfl rfl (by decide +kernel) ⟨Nat.le_of_ble_eq_true rfl, Nat.le_of_ble_eq_true rfl⟩) ⟨sp_Pb, va_recv hK hP (ci := 3) (q0 := 0) rfl rfl, sp_Po hPc hK hG hDc⟩ rfl rfl hl.1 rfl (lv_room (Nat.le_of_ble_eq_true rfl)) dW_endGoingThrough_30 ⟨Nat.le_of_ble_eq_true rfl, Nat.le_of_ble_eq_true rfl⟩) hS (fun q _ h => hFc q h) hFc (fun u_30 t H locs ht hvm hw hB hz1 hk1 hS => ?_)
      obtain ⟨hP1, hD1⟩ := hB
      rw [ht] at hP1
      obtain ⟨hP, hD⟩ := va_join (wr := []) (w1 := [(h0, .inr (3, [.int ((wk_sgt w 1) 0), .int ((wk_sgt w 1) 1), .int ((wk_sgt w 1) 2), .int ((wk_sgt w 1) 3), .int ((wk_sgt w 1) 4), .int ((wk_sgt w 1) 5), .int ((wk_sgt w 1) 6), .int ((wk_sgt w 1) 7)]))]) hP hD [0] [] rfl rfl (by decide) (by decide) hk1 hFc hP1 hD1
      have hP : va_P (dC, dI) vwCl [(h0, .inr (3, [.int ((wk_sgt w 1) 0), .int ((wk_sgt w 1) 1), .int ((wk_sgt w 1) 2), .int ((wk_sgt w 1) 3), .int ((wk_sgt w 1) 4), .int ((wk_sgt w 1) 5), .int ((wk_sgt w 1) 6), .int ((wk_sgt w 1) 7)]))] H := hP.sub [0] rfl
      have hD : va_D A [(h0, .inr (3, [.int ((wk_sgt w 1) 0), .int ((wk_sgt w 1) 1), .int ((wk_sgt w 1) 2), .int ((wk_sgt w 1) 3), .int ((wk_sgt w 1) 4), .int ((wk_sgt w 1) 5), .int ((wk_sgt w 1) 6), .int ((wk_sgt w 1) 7)]))] := hD.sub [0] (by decide) rfl
      refine lv_goto (tgt := 40) hx hb dW_endGoingThrough_33 (by decide) ?_
      have hPe : va_P (dC, dI) vwCl [(h0, .inr (3, [.int ((wk_end w) 0), .int ((wk_end w) 1), .int ((wk_end w) 2), .int ((wk_end w) 3), .int ((wk_end w) 4), .int ((wk_end w) 5), .int ((wk_end w) 6), .int ((wk_end w) 7)]))] H := by simp only [wk_end, c_5, c_25, if_true, if_false, ↓reduceIte]; exact hP
      have hDe : va_D A [(h0, .inr (3, [.int ((wk_end w) 0), .int ((wk_end w) 1), .int ((wk_end w) 2), .int ((wk_end w) 3), .int ((wk_end w) 4), .int ((wk_end w) 5), .int ((wk_end w) 6), .int ((wk_end w) 7)]))] := sp_Dc hD rfl
      exact W.vret hx hb hr (sp_eWv hPe hDe hS) hS.2.2 dW_endGoingThrough_40
  · refine lv_aload_n hx hb dW_endGoingThrough_8 rfl (lv_at hl 0 rfl) ?_
    refine lv_aload_n hx hb dW_endGoingThrough_9 rfl (lv_at hl 0 rfl) ?_
    refine va_get (D := (dC, dI)) (ci := 3) (C := rW) (T := tW) (N := 8) hx hb hA inW hown hK hP 0 rfl rfl 1 (by decide) (hA _ wi_62) (fun _ h9 => h9) rfl dW_endGoingThrough_10 ?_
    refine lv_iconst (v := 2) hx hb dW_endGoingThrough_13 (by decide) ?_
    refine lv_idiv hx hb dW_endGoingThrough_14 (by decide) ?_
    have hPc := hP.sub (ws' := [(h0, .inr (3, [.int (w 0), .int (w 1), .int (w 2), .int (w 3), .int (w 4), .int (w 5), .int (w 6), .int (w 7)]))]) [0] rfl
    have hDc := hD.sub (ws' := [(h0, .inr (3, [.int (w 0), .int (w 1), .int (w 2), .int (w 3), .int (w 4), .int (w 5), .int (w 6), .int (w 7)]))]) [0] (by decide) rfl
    have hFc := va_free (wc := [(h0, .inr (3, [.int (w 0), .int (w 1), .int (w 2), .int (w 3), .int (w 4), .int (w 5), .int (w 6), .int (w 7)]))]) hD hS hF [0] rfl
    refine va_callv (va_runV (As := [.int ((w 1) / 2)]) (rest := []) ⟨hx, hb, hml, hown, hA⟩ (kW_sgt l dC dI cI cQ h0 w ((w 1) / 2) _) (cwV 1 hA (gd_V wi_369 wi_370 wi_670 wi_5 wi_371) rfl rfl rfl (by decide +kernel) ⟨Nat.le_of_ble_eq_true rfl, Nat.le_of_ble_eq_true rfl⟩) ⟨sp_Pb, va_recv hK hP (ci := 3) (q0 := 0) rfl rfl, sp_Po hPc hK hG hDc⟩ rfl rfl hl.1 rfl (lv_room (Nat.le_of_ble_eq_true rfl)) dW_endGoingThrough_15 ⟨Nat.le_of_ble_eq_true rfl, Nat.le_of_ble_eq_true rfl⟩) hS (fun q _ h => hFc q h) hFc (fun u_15 t H locs ht hvm hw hB hz1 hk1 hS => ?_)
    obtain ⟨hP1, hD1⟩ := hB
    rw [ht] at hP1
    obtain ⟨hP, hD⟩ := va_join (wr := []) (w1 := [(h0, .inr (3, [.int ((wk_sgt w ((w 1) / 2)) 0), .int ((wk_sgt w ((w 1) / 2)) 1), .int ((wk_sgt w ((w 1) / 2)) 2), .int ((wk_sgt w ((w 1) / 2)) 3), .int ((wk_sgt w ((w 1) / 2)) 4), .int ((wk_sgt w ((w 1) / 2)) 5), .int ((wk_sgt w ((w 1) / 2)) 6), .int ((wk_sgt w ((w 1) / 2)) 7)]))]) hP hD [0] [] rfl rfl (by decide) (by decide) hk1 hFc hP1 hD1
    have hP : va_P (dC, dI) vwCl [(h0, .inr (3, [.int ((wk_sgt w ((w 1) / 2)) 0), .int ((wk_sgt w ((w 1) / 2)) 1), .int ((wk_sgt w ((w 1) / 2)) 2), .int ((wk_sgt w ((w 1) / 2)) 3), .int ((wk_sgt w ((w 1) / 2)) 4), .int ((wk_sgt w ((w 1) / 2)) 5), .int ((wk_sgt w ((w 1) / 2)) 6), .int ((wk_sgt w ((w 1) / 2)) 7)]))] H := hP.sub [0] rfl
    have hD : va_D A [(h0, .inr (3, [.int ((wk_sgt w ((w 1) / 2)) 0), .int ((wk_sgt w ((w 1) / 2)) 1), .int ((wk_sgt w ((w 1) / 2)) 2), .int ((wk_sgt w ((w 1) / 2)) 3), .int ((wk_sgt w ((w 1) / 2)) 4), .int ((wk_sgt w ((w 1) / 2)) 5), .int ((wk_sgt w ((w 1) / 2)) 6), .int ((wk_sgt w ((w 1) / 2)) 7)]))] := hD.sub [0] (by decide) rfl
    refine lv_goto (tgt := 40) hx hb dW_endGoingThrough_18 (by decide) ?_
    have hPe : va_P (dC, dI) vwCl [(h0, .inr (3, [.int ((wk_end w) 0), .int ((wk_end w) 1), .int ((wk_end w) 2), .int ((wk_end w) 3), .int ((wk_end w) 4), .int ((wk_end w) 5), .int ((wk_end w) 6), .int ((wk_end w) 7)]))] H := by simp only [wk_end, c_5, if_true, if_false, ↓reduceIte]; exact hP
    have hDe : va_D A [(h0, .inr (3, [.int ((wk_end w) 0), .int ((wk_end w) 1), .int ((wk_end w) 2), .int ((wk_end w) 3), .int ((wk_end w) 4), .int ((wk_end w) 5), .int ((wk_end w) 6), .int ((wk_end w) 7)]))] := sp_Dc hD rfl
    exact W.vret hx hb hr (sp_eWv hPe hDe hS) hS.2.2 dW_endGoingThrough_40
set_option maxHeartbeats 4000000 in
set_option maxRecDepth 100000 in
theorem kW_lv (l : Launch) (dC : Nat → ClassId) (dI : Nat → Nat → Nat) (cI cQ : ClassId) (h0 : Nat) (w : Nat → Int32) (v : Int32)  : Met l yW_lowerValue (.code yW_lowerValue cW_lowerValue 2 (some .int) :: wA) ({ frames := 0, cells := 0, slots := 0, locals := 0 }) (sp_R (dC, dI) (kT cI cQ) [.ref h0, .int v] [(h0, .inr (3, [.int (w 0), .int (w 1), .int (w 2), .int (w 3), .int (w 4), .int (w 5), .int (w 6), .int (w 7)]))]) (sp_QRi (wk_lv w v)) 0 0 (fun _ => False) := by
  refine Met.ofW (cc := cW_lowerValue) (maxL := 2) (ret := (some .int)) (by decide) rfl ?_
  intro p e s m args below meth c s₁ B hml hv
  obtain ⟨rfl, hP, hK, hG⟩ := hv
  have hx := B.exec
  have hb := B.bytes
  have hr := B.returns
  have hA := sp_hA (atoms_spec (ws := (.code yW_lowerValue cW_lowerValue 2 (some .int) :: wA)) B.pre)
  have hown : s.vm.findClass rW = some m.cls := findClass_of_methodNamed B.named
  have hlocks := B.notSynchronized
  have hS : va_S (fun _ => False) s.heap s.heap [] := va_S.rf
  have hl := lv_entry ([.ref h0, .int v]) (n := 2) (Nat.le_of_ble_eq_true rfl)
  rw [lg_entry_eq]
  generalize (lg_sl ([.ref h0, .int v]) ++ List.replicate (2 - (lg_sl ([.ref h0, .int v])).length) Slot.unset).toArray = ls at hl ⊢
  have hl : lv_has ls 2 [(0, .ref h0), (1, .int v)] := hl
  refine lv_aload_n hx hb dW_lowerValue_0 rfl (lv_at hl 0 rfl) ?_
  refine va_get (D := (dC, dI)) (ci := 3) (C := rW) (T := tW) (N := 8) hx hb hA inW hown hK hP 0 rfl rfl 0 (by decide) (hA _ wi_61) (fun _ h9 => h9) rfl dW_lowerValue_1 ?_
  refine lv_iconst (v := 1) hx hb dW_lowerValue_4 (by decide) ?_
  refine lv_icmp_ne (tgt := 10) hx hb dW_lowerValue_5 (by decide) (fun c_5 => ?_) (fun c_5 => ?_)
  · refine lv_aload_n hx hb dW_lowerValue_10 rfl (lv_at hl 0 rfl) ?_
    refine va_get (D := (dC, dI)) (ci := 3) (C := rW) (T := tW) (N := 8) hx hb hA inW hown hK hP 0 rfl rfl 0 (by decide) (hA _ wi_61) (fun _ h9 => h9) rfl dW_lowerValue_11 ?_
    refine lv_iconst (v := 2) hx hb dW_lowerValue_14 (by decide) ?_
    refine lv_icmp_ne (tgt := 24) hx hb dW_lowerValue_15 (by decide) (fun c_15 => ?_) (fun c_15 => ?_)
    · refine lv_iload_n hx hb dW_lowerValue_24 rfl (lv_at hl 1 rfl) ?_
      refine lv_iconst (v := 1) hx hb dW_lowerValue_25 (by decide) ?_
      refine lv_isub hx hb dW_lowerValue_26 ?_
      exact W.iret hx hb hr (sp_eRi (by simp [wk_lv, c_5, c_15]) hS) hS.2.2 dW_lowerValue_27
    · refine lv_iload_n hx hb dW_lowerValue_18 rfl (lv_at hl 1 rfl) ?_
      refine lv_iconst (v := 2) hx hb dW_lowerValue_19 (by decide) ?_
      refine lv_idiv hx hb dW_lowerValue_20 (by decide) ?_
      refine lv_goto (tgt := 27) hx hb dW_lowerValue_21 (by decide) ?_
      exact W.iret hx hb hr (sp_eRi (by simp [wk_lv, c_5, c_15]) hS) hS.2.2 dW_lowerValue_27
  · refine lv_iconst (v := 0) hx hb dW_lowerValue_8 (by decide) ?_
    exact W.iret hx hb hr (sp_eRi (by simp [wk_lv, c_5]) hS) hS.2.2 dW_lowerValue_9
set_option maxHeartbeats 4000000 in
set_option maxRecDepth 100000 in
theorem kW_can (l : Launch) (dC : Nat → ClassId) (dI : Nat → Nat → Nat) (cI cQ : ClassId) (h0 : Nat) (w : Nat → Int32) (v : Int32)  : Met l yW_canLower (.code yW_canLower cW_canLower 2 (some .boolean) :: wA) ({ frames := 1, cells := 0, slots := 0, locals := 21 }) (sp_R (dC, dI) (kT cI cQ) [.ref h0, .int v] [(h0, .inr (3, [.int (w 0), .int (w 1), .int (w 2), .int (w 3), .int (w 4), .int (w 5), .int (w 6), .int (w 7)]))]) (sp_QRi (wk_can w v)) 0 0 (fun _ => False) := by
  refine Met.ofW (cc := cW_canLower) (maxL := 2) (ret := (some .boolean)) (by decide) rfl ?_
  intro p e s m args below meth c s₁ B hml hv
  obtain ⟨rfl, hP, hK, hG⟩ := hv
  have hx := B.exec
  have hb := B.bytes
  have hr := B.returns
  have hA := sp_hA (atoms_spec (ws := (.code yW_canLower cW_canLower 2 (some .boolean) :: wA)) B.pre)
  have hown : s.vm.findClass rW = some m.cls := findClass_of_methodNamed B.named
  have hlocks := B.notSynchronized
  have hS : va_S (fun _ => False) s.heap s.heap [] := va_S.rf
  have hl := lv_entry ([.ref h0, .int v]) (n := 2) (Nat.le_of_ble_eq_true rfl)
  rw [lg_entry_eq]
  generalize (lg_sl ([.ref h0, .int v]) ++ List.replicate (2 - (lg_sl ([.ref h0, .int v])).length) Slot.unset).toArray = ls at hl ⊢
  have hl : lv_has ls 2 [(0, .ref h0), (1, .int v)] := hl
  refine lv_aload_n hx hb dW_canLower_0 rfl (lv_at hl 0 rfl) ?_
  refine va_get (D := (dC, dI)) (ci := 3) (C := rW) (T := tW) (N := 8) hx hb hA inW hown hK hP 0 rfl rfl 0 (by decide) (hA _ wi_61) (fun _ h9 => h9) rfl dW_canLower_1 ?_
  refine lv_iconst (v := 1) hx hb dW_canLower_4 (by decide) ?_
  refine lv_icmp_ne (tgt := 20) hx hb dW_canLower_5 (by decide) (fun c_5 => ?_) (fun c_5 => ?_)
  · refine lv_aload_n hx hb dW_canLower_20 rfl (lv_at hl 0 rfl) ?_
    refine lv_iload_n hx hb dW_canLower_21 rfl (lv_at hl 1 rfl) ?_
    refine va_calli (va_runV (As := [.int v]) (rest := []) ⟨hx, hb, hml, hown, hA⟩ (kW_lv l dC dI cI cQ h0 w v) (cwV 1 hA (gd_V wi_398 wi_399 wi_673 wi_5 wi_400) rfl rfl rfl (by decide +kernel) ⟨Nat.le_of_ble_eq_true rfl, Nat.le_of_ble_eq_true rfl⟩) ⟨sp_Rb, va_recv hK hP (ci := 3) (q0 := 0) rfl rfl, sp_Ro (hP.sub [0] rfl) hK hG⟩ rfl rfl hl.1 rfl (lv_room (Nat.le_of_ble_eq_true rfl)) dW_canLower_22 ⟨Nat.le_of_ble_eq_true rfl, Nat.le_of_ble_eq_true rfl⟩) hS (fun _ _ h => h.elim) (fun _ h => h.elim) (fun r_22 u_22 t H locs ht hvm hw hB hz1 hk1 hS => ?_)
    rw [hw]
    have hP := sp_kp hP hk1
    refine lv_if_le (tgt := 32) hx hb dW_canLower_25 (by decide) (fun c_25 => ?_) (fun c_25 => ?_)
    · refine lv_iconst (v := 0) hx hb dW_canLower_32 (by decide) ?_
      exact W.zret hx hb hr rfl (sp_eRi (by simp [wk_can, c_5, c_25]) hS) hS.2.2 dW_canLower_33
    · refine lv_iconst (v := 1) hx hb dW_canLower_28 (by decide) ?_
      refine lv_goto (tgt := 33) hx hb dW_canLower_29 (by decide) ?_
      exact W.zret hx hb hr rfl (sp_eRi (by simp [wk_can, c_5, c_25]) hS) hS.2.2 dW_canLower_33
  · refine lv_iload_n hx hb dW_canLower_8 rfl (lv_at hl 1 rfl) ?_
    refine lv_if_le (tgt := 16) hx hb dW_canLower_9 (by decide) (fun c_9 => ?_) (fun c_9 => ?_)
    · refine lv_iconst (v := 0) hx hb dW_canLower_16 (by decide) ?_
      refine lv_goto (tgt := 33) hx hb dW_canLower_17 (by decide) ?_
      exact W.zret hx hb hr rfl (sp_eRi (by simp [wk_can, c_5, c_9]) hS) hS.2.2 dW_canLower_33
    · refine lv_iconst (v := 1) hx hb dW_canLower_12 (by decide) ?_
      refine lv_goto (tgt := 33) hx hb dW_canLower_13 (by decide) ?_
      exact W.zret hx hb hr rfl (sp_eRi (by simp [wk_can, c_5, c_9]) hS) hS.2.2 dW_canLower_33
set_option maxHeartbeats 4000000 in
set_option maxRecDepth 100000 in
theorem kW_init (l : Launch) (dC : Nat → ClassId) (dI : Nat → Nat → Nat) (cI cQ : ClassId) (h0 : Nat) (sz : Nat)  : Met l yW_init (.code yW_init cW_init 1 none :: wA) ({ frames := 1, cells := 0, slots := 0, locals := 12 }) (sp_P (dC, dI) (kT cI cQ) [.ref h0] [(h0, .inr (3, [.int ((fun _ => 0) 0), .int ((fun _ => 0) 1), .int ((fun _ => 0) 2), .int ((fun _ => 0) 3), .int ((fun _ => 0) 4), .int ((fun _ => 0) 5), .int ((fun _ => 0) 6), .int ((fun _ => 0) 7)]))] sz) (sp_QWv (dC, dI) [(h0, .inr (3, [.int ((fun _ => 0) 0), .int ((fun _ => 0) 1), .int ((fun _ => 0) 2), .int ((fun _ => 0) 3), .int ((fun _ => 0) 4), .int ((fun _ => 0) 5), .int ((fun _ => 0) 6), .int ((fun _ => 0) 7)]))] (va_A [(h0, .inr (3, [.int ((fun _ => 0) 0), .int ((fun _ => 0) 1), .int ((fun _ => 0) 2), .int ((fun _ => 0) 3), .int ((fun _ => 0) 4), .int ((fun _ => 0) 5), .int ((fun _ => 0) 6), .int ((fun _ => 0) 7)]))] sz)) 0 0 (va_A [(h0, .inr (3, [.int ((fun _ => 0) 0), .int ((fun _ => 0) 1), .int ((fun _ => 0) 2), .int ((fun _ => 0) 3), .int ((fun _ => 0) 4), .int ((fun _ => 0) 5), .int ((fun _ => 0) 6), .int ((fun _ => 0) 7)]))] sz) := by
  refine Met.ofW (cc := cW_init) (maxL := 1) (ret := none) (by decide) rfl ?_
  intro p e s m args below meth c s₁ B hml hv
  obtain ⟨rfl, hsz, hP, hK, hD0, hG⟩ := hv
  have hx := B.exec
  have hb := B.bytes
  have hr := B.returns
  have hA := sp_hA (atoms_spec (ws := (.code yW_init cW_init 1 none :: wA)) B.pre)
  have hown : s.vm.findClass rW = some m.cls := findClass_of_methodNamed B.named
  have hlocks := B.notSynchronized
  have hin : meth.name = "<init>" := (name_of_methodNamed B.named B.method).1
  subst hsz
  have hD := hD0.self (sz := s.heap.size)
  generalize hAe : va_A [(h0, .inr (3, [.int ((fun _ => 0) 0), .int ((fun _ => 0) 1), .int ((fun _ => 0) 2), .int ((fun _ => 0) 3), .int ((fun _ => 0) 4), .int ((fun _ => 0) 5), .int ((fun _ => 0) 6), .int ((fun _ => 0) 7)]))] s.heap.size = A at hD ⊢
  have hF : ∀ q : Nat, s.heap.size ≤ q → A q := fun q h => by rw [← hAe]; exact Or.inr h
  have hS : va_S A s.heap s.heap [] := va_S.rf
  have hl := lv_entry ([.ref h0]) (n := 1) (Nat.le_of_ble_eq_true rfl)
  rw [lg_entry_eq]
  generalize (lg_sl ([.ref h0]) ++ List.replicate (1 - (lg_sl ([.ref h0])).length) Slot.unset).toArray = ls at hl ⊢
  have hl : lv_has ls 1 [(0, .ref h0)] := hl
  refine lv_aload_n hx hb dW_init_0 rfl (lv_at hl 0 rfl) ?_
  refine W.objInit hx hb hown (hA _ wi_60) (hA _ wi_21) (hA _ wi_22) rfl (by rw [hml]; exact hl.1) rfl dW_init_1 (Nat.le_of_ble_eq_true rfl) (Nat.le_of_ble_eq_true rfl) ?_
  refine W.eq (g2 := F0 m 4 ls []) rfl ?_
  have hPe : va_P (dC, dI) vwCl [(h0, .inr (3, [.int ((fun _ => 0) 0), .int ((fun _ => 0) 1), .int ((fun _ => 0) 2), .int ((fun _ => 0) 3), .int ((fun _ => 0) 4), .int ((fun _ => 0) 5), .int ((fun _ => 0) 6), .int ((fun _ => 0) 7)]))] s.heap := by exact hP
  have hDe : va_D A [(h0, .inr (3, [.int ((fun _ => 0) 0), .int ((fun _ => 0) 1), .int ((fun _ => 0) 2), .int ((fun _ => 0) 3), .int ((fun _ => 0) 4), .int ((fun _ => 0) 5), .int ((fun _ => 0) 6), .int ((fun _ => 0) 7)]))] := sp_Dc hD rfl
  exact W.vret hx hb hr (sp_eWv hPe hDe hS) hS.2.2 dW_init_4
set_option maxHeartbeats 4000000 in
set_option maxRecDepth 100000 in
theorem kW_change (l : Launch) (dC : Nat → ClassId) (dI : Nat → Nat → Nat) (cI cQ : ClassId) (h0 : Nat) (w : Nat → Int32) (g0 gw go : Nat) (n : Int32) (ws os : Nat → Int32) (sz : Nat)  : Met l yW_change (.code yW_change cW_change 3 none :: wA) ({ frames := 3, cells := 0, slots := 0, locals := 64 }) (sp_P (dC, dI) (kT cI cQ) [.ref h0, .ref g0] [(h0, .inr (3, [.int (w 0), .int (w 1), .int (w 2), .int (w 3), .int (w 4), .int (w 5), .int (w 6), .int (w 7)])), (g0, .inr (0, [.ref gw, .ref go, .int n])), (gw, .inl (cI, 48, .inl ws)), (go, .inl (cI, 48, .inl os))] sz) (sp_QWv (dC, dI) [(h0, .inr (3, [.int (w 0), .int (w 1), .int (w 2), .int (w 3), .int (w 4), .int (w 5), .int (w 6), .int (w 7)])), (g0, .inr (0, [.ref gw, .ref go, .int (ch_N ws os n w)])), (gw, .inl (cI, 48, .inl (ch_W ws os n w))), (go, .inl (cI, 48, .inl (ch_O ws os n w)))] (va_A [(h0, .inr (3, [.int (w 0), .int (w 1), .int (w 2), .int (w 3), .int (w 4), .int (w 5), .int (w 6), .int (w 7)])), (g0, .inr (0, [.ref gw, .ref go, .int n])), (gw, .inl (cI, 48, .inl ws)), (go, .inl (cI, 48, .inl os))] sz)) 0 0 (va_A [(h0, .inr (3, [.int (w 0), .int (w 1), .int (w 2), .int (w 3), .int (w 4), .int (w 5), .int (w 6), .int (w 7)])), (g0, .inr (0, [.ref gw, .ref go, .int n])), (gw, .inl (cI, 48, .inl ws)), (go, .inl (cI, 48, .inl os))] sz) := by
  refine Met.ofW (cc := cW_change) (maxL := 3) (ret := none) (by decide) rfl ?_
  intro p e s m args below meth c s₁ B hml hv
  obtain ⟨rfl, hsz, hP, hK, hD0, hG⟩ := hv
  have hx := B.exec
  have hb := B.bytes
  have hr := B.returns
  have hA := sp_hA (atoms_spec (ws := (.code yW_change cW_change 3 none :: wA)) B.pre)
  have hown : s.vm.findClass rW = some m.cls := findClass_of_methodNamed B.named
  have hlocks := B.notSynchronized
  subst hsz
  have hD := hD0.self (sz := s.heap.size)
  generalize hAe : va_A [(h0, .inr (3, [.int (w 0), .int (w 1), .int (w 2), .int (w 3), .int (w 4), .int (w 5), .int (w 6), .int (w 7)])), (g0, .inr (0, [.ref gw, .ref go, .int n])), (gw, .inl (cI, 48, .inl ws)), (go, .inl (cI, 48, .inl os))] s.heap.size = A at hD ⊢
  have hF : ∀ q : Nat, s.heap.size ≤ q → A q := fun q h => by rw [← hAe]; exact Or.inr h
  have hS : va_S A s.heap s.heap [] := va_S.rf
  have hl := lv_entry ([.ref h0, .ref g0]) (n := 3) (Nat.le_of_ble_eq_true rfl)
  rw [lg_entry_eq]
  generalize (lg_sl ([.ref h0, .ref g0]) ++ List.replicate (3 - (lg_sl ([.ref h0, .ref g0])).length) Slot.unset).toArray = ls at hl ⊢
  have hl : lv_has ls 3 [(0, .ref h0), (1, .ref g0)] := hl
  refine lv_aload_n hx hb dW_change_0 rfl (lv_at hl 0 rfl) ?_
  refine va_get (D := (dC, dI)) (ci := 3) (C := rW) (T := tW) (N := 8) hx hb hA inW hown hK hP 0 rfl rfl 0 (by decide) (hA _ wi_61) (fun _ h9 => h9) rfl dW_change_1 ?_
  refine lv_if_ne (tgt := 22) hx hb dW_change_4 (by decide) (fun c_4 => ?_) (fun c_4 => ?_)
  · refine lv_aload_n hx hb dW_change_22 rfl (lv_at hl 1 rfl) ?_
    refine lv_aload_n hx hb dW_change_23 rfl (lv_at hl 0 rfl) ?_
    refine va_get (D := (dC, dI)) (ci := 3) (C := rW) (T := tW) (N := 8) hx hb hA inW hown hK hP 0 rfl rfl 4 (by decide) (hA _ wi_65) (fun _ h9 => h9) rfl dW_change_24 ?_
    refine lv_aload_n hx hb dW_change_27 rfl (lv_at hl 0 rfl) ?_
    refine va_get (D := (dC, dI)) (ci := 3) (C := rW) (T := tW) (N := 8) hx hb hA inW hown hK hP 0 rfl rfl 5 (by decide) (hA _ wi_66) (fun _ h9 => h9) rfl dW_change_28 ?_
    refine va_calli (va_runV (As := [.int (w 4), .int (w 5)]) (rest := []) ⟨hx, hb, hml, hown, hA⟩ (kP_byteOf l dC dI cI cQ g0 gw go n ws (w 4) (w 5)) (cwV 2 hA (gd_V wi_390 wi_391 wi_392 wi_3 wi_393) rfl rfl rfl (by decide +kernel) ⟨Nat.le_of_ble_eq_true rfl, Nat.le_of_ble_eq_true rfl⟩) ⟨sp_Rb, va_recv hK hP (ci := 0) (q0 := 1) rfl rfl, sp_Ro (hP.sub [1, 2] rfl) hK hG⟩ rfl rfl hl.1 rfl (lv_room (Nat.le_of_ble_eq_true rfl)) dW_change_31 ⟨Nat.le_of_ble_eq_true rfl, Nat.le_of_ble_eq_true rfl⟩) hS (fun _ _ h => h.elim) (fun _ h => h.elim) (fun r_31 u_31 t H locs ht hvm hw hB hz1 hk1 hS => ?_)
    rw [hw]
    have hP := sp_kp hP hk1
    refine lv_istore_n (lv' := [(2, .int (pg_byte ws n (w 4) (w 5))), (0, .ref h0), (1, .ref g0)]) hx hb dW_change_34 rfl hl (by decide) rfl (fun ls hl => ?_)
    refine lv_aload_n hx hb dW_change_35 rfl (lv_at hl 2 rfl) ?_
    refine lv_aload_n hx hb dW_change_36 rfl (lv_at hl 1 rfl) ?_
    refine va_get (D := (dC, dI)) (ci := 3) (C := rW) (T := tW) (N := 8) hx hb hA inW hown hK hP 0 rfl rfl 4 (by decide) (hA _ wi_65) (fun _ h9 => h9) rfl dW_change_37 ?_
    refine lv_aload_n hx hb dW_change_40 rfl (lv_at hl 1 rfl) ?_
    refine va_get (D := (dC, dI)) (ci := 3) (C := rW) (T := tW) (N := 8) hx hb hA inW hown hK hP 0 rfl rfl 5 (by decide) (hA _ wi_66) (fun _ h9 => h9) rfl dW_change_41 ?_
    refine lv_aload_n hx hb dW_change_44 rfl (lv_at hl 1 rfl) ?_
    refine lv_iload_n hx hb dW_change_45 rfl (lv_at hl 0 rfl) ?_
    refine va_calli (va_runV (As := [.int (pg_byte ws n (w 4) (w 5))]) (rest := [.int (w 5), .int (w 4), .ref g0]) ⟨hx, hb, hml, hown, hA⟩ (kW_lv l dC dI cI cQ h0 w (pg_byte ws n (w 4) (w 5))) (cwV 1 hA (gd_V wi_398 wi_399 wi_673 wi_5 wi_400) rfl rfl rfl (by decide +kernel) ⟨Nat.le_of_ble_eq_true rfl, Nat.le_of_ble_eq_true rfl⟩) ⟨sp_Rb, va_recv hK hP (ci := 3) (q0 := 0) rfl rfl, sp_Ro (hP.sub [0] rfl) hK hG⟩ rfl rfl hl.1 rfl (lv_room (Nat.le_of_ble_eq_true rfl)) dW_change_46 ⟨Nat.le_of_ble_eq_true rfl, Nat.le_of_ble_eq_true rfl⟩) hS (fun _ _ h => h.elim) (fun _ h => h.elim) (fun r_46 u_46 t H locs ht hvm hw hB hz1 hk1 hS => ?_)
    rw [hw]
    have hP := sp_kp hP hk1
    have hPc := hP.sub (ws' := [(g0, .inr (0, [.ref gw, .ref go, .int n])), (gw, .inl (cI, 48, .inl ws)), (go, .inl (cI, 48, .inl os))]) [1, 2, 3] rfl
    have hDc := hD.sub (ws' := [(g0, .inr (0, [.ref gw, .ref go, .int n])), (gw, .inl (cI, 48, .inl ws)), (go, .inl (cI, 48, .inl os))]) [1, 2, 3] (by decide) rfl
    have hFc := va_free (wc := [(g0, .inr (0, [.ref gw, .ref go, .int n])), (gw, .inl (cI, 48, .inl ws)), (go, .inl (cI, 48, .inl os))]) hD hS hF [1, 2, 3] rfl
    refine va_callv (va_runV (As := [.int (w 4), .int (w 5), .int (wk_lv w (pg_byte ws n (w 4) (w 5)))]) (rest := []) ⟨hx, hb, hml, hown, hA⟩ (kP_setByte l dC dI cI cQ g0 gw go n ws os (w 4) (w 5) (wk_lv w (pg_byte ws n (w 4) (w 5))) _) (cwV 3 hA (gd_V wi_401 wi_402 wi_403 wi_3 wi_404) rfl rfl rfl (by decide +kernel) ⟨Nat.le_of_ble_eq_true rfl, Nat.le_of_ble_eq_true rfl⟩) ⟨sp_Pb, va_recv hK hP (ci := 0) (q0 := 1) rfl rfl, sp_Po hPc hK hG hDc⟩ rfl rfl hl.1 rfl (lv_room (Nat.le_of_ble_eq_true rfl)) dW_change_49 ⟨Nat.le_of_ble_eq_true rfl, Nat.le_of_ble_eq_true rfl⟩) hS (fun q _ h => hFc q h) hFc (fun u_49 t H locs ht hvm hw hB hz1 hk1 hS => ?_)
    obtain ⟨hP1, hD1⟩ := hB
    rw [ht] at hP1
    obtain ⟨hP, hD⟩ := va_join (wr := [(h0, .inr (3, [.int (w 0), .int (w 1), .int (w 2), .int (w 3), .int (w 4), .int (w 5), .int (w 6), .int (w 7)]))]) (w1 := [(g0, .inr (0, [.ref gw, .ref go, .int n])), (gw, .inl (cI, 48, .inl (pg_sbW ws n (w 4) (w 5) (wk_lv w (pg_byte ws n (w 4) (w 5)))))), (go, .inl (cI, 48, .inl os))]) hP hD [1, 2, 3] [0] rfl rfl (by decide) (by decide) hk1 hFc hP1 hD1
    have hP : va_P (dC, dI) vwCl [(h0, .inr (3, [.int (w 0), .int (w 1), .int (w 2), .int (w 3), .int (w 4), .int (w 5), .int (w 6), .int (w 7)])), (g0, .inr (0, [.ref gw, .ref go, .int n])), (gw, .inl (cI, 48, .inl (pg_sbW ws n (w 4) (w 5) (wk_lv w (pg_byte ws n (w 4) (w 5)))))), (go, .inl (cI, 48, .inl os))] H := hP.sub [0, 1, 2, 3] rfl
    have hD : va_D A [(h0, .inr (3, [.int (w 0), .int (w 1), .int (w 2), .int (w 3), .int (w 4), .int (w 5), .int (w 6), .int (w 7)])), (g0, .inr (0, [.ref gw, .ref go, .int n])), (gw, .inl (cI, 48, .inl (pg_sbW ws n (w 4) (w 5) (wk_lv w (pg_byte ws n (w 4) (w 5)))))), (go, .inl (cI, 48, .inl os))] := hD.sub [0, 1, 2, 3] (by decide) rfl
    have hPe : va_P (dC, dI) vwCl [(h0, .inr (3, [.int (w 0), .int (w 1), .int (w 2), .int (w 3), .int (w 4), .int (w 5), .int (w 6), .int (w 7)])), (g0, .inr (0, [.ref gw, .ref go, .int (ch_N ws os n w)])), (gw, .inl (cI, 48, .inl (ch_W ws os n w))), (go, .inl (cI, 48, .inl (ch_O ws os n w)))] H := by first | (rw [ch_N, ch_W, ch_O, if_pos c_4, if_pos c_4, if_pos c_4]; exact hP) | (rw [ch_N, ch_W, ch_O, if_neg c_4, if_neg c_4, if_neg c_4]; exact hP)
    have hDe : va_D A [(h0, .inr (3, [.int (w 0), .int (w 1), .int (w 2), .int (w 3), .int (w 4), .int (w 5), .int (w 6), .int (w 7)])), (g0, .inr (0, [.ref gw, .ref go, .int (ch_N ws os n w)])), (gw, .inl (cI, 48, .inl (ch_W ws os n w))), (go, .inl (cI, 48, .inl (ch_O ws os n w)))] := sp_Dc hD rfl
    exact W.vret hx hb hr (sp_eWv hPe hDe hS) hS.2.2 dW_change_52
  · refine lv_aload_n hx hb dW_change_7 rfl (lv_at hl 1 rfl) ?_
    refine lv_aload_n hx hb dW_change_8 rfl (lv_at hl 0 rfl) ?_
    refine va_get (D := (dC, dI)) (ci := 3) (C := rW) (T := tW) (N := 8) hx hb hA inW hown hK hP 0 rfl rfl 2 (by decide) (hA _ wi_63) (fun _ h9 => h9) rfl dW_change_9 ?_
    refine lv_aload_n hx hb dW_change_12 rfl (lv_at hl 0 rfl) ?_
    refine va_get (D := (dC, dI)) (ci := 3) (C := rW) (T := tW) (N := 8) hx hb hA inW hown hK hP 0 rfl rfl 1 (by decide) (hA _ wi_62) (fun _ h9 => h9) rfl dW_change_13 ?_
    have hPc := hP.sub (ws' := [(g0, .inr (0, [.ref gw, .ref go, .int n])), (gw, .inl (cI, 48, .inl ws)), (go, .inl (cI, 48, .inl os))]) [1, 2, 3] rfl
    have hDc := hD.sub (ws' := [(g0, .inr (0, [.ref gw, .ref go, .int n])), (gw, .inl (cI, 48, .inl ws)), (go, .inl (cI, 48, .inl os))]) [1, 2, 3] (by decide) rfl
    have hFc := va_free (wc := [(g0, .inr (0, [.ref gw, .ref go, .int n])), (gw, .inl (cI, 48, .inl ws)), (go, .inl (cI, 48, .inl os))]) hD hS hF [1, 2, 3] rfl
    refine va_callv (va_runV (As := [.int (w 2), .int (w 1)]) (rest := []) ⟨hx, hb, hml, hown, hA⟩ (kP_leaveOut l dC dI cI cQ g0 gw go n ws os (w 2) (w 1) _) (cwV 2 hA (gd_V wi_386 wi_387 wi_388 wi_3 wi_389) rfl rfl rfl (by decide +kernel) ⟨Nat.le_of_ble_eq_true rfl, Nat.le_of_ble_eq_true rfl⟩) ⟨sp_Pb, va_recv hK hP (ci := 0) (q0 := 1) rfl rfl, sp_Po hPc hK hG hDc⟩ rfl rfl hl.1 rfl (lv_room (Nat.le_of_ble_eq_true rfl)) dW_change_16 ⟨Nat.le_of_ble_eq_true rfl, Nat.le_of_ble_eq_true rfl⟩) hS (fun q _ h => hFc q h) hFc (fun u_16 t H locs ht hvm hw hB hz1 hk1 hS => ?_)
    obtain ⟨hP1, hD1⟩ := hB
    rw [ht] at hP1
    obtain ⟨hP, hD⟩ := va_join (wr := [(h0, .inr (3, [.int (w 0), .int (w 1), .int (w 2), .int (w 3), .int (w 4), .int (w 5), .int (w 6), .int (w 7)]))]) (w1 := [(g0, .inr (0, [.ref gw, .ref go, .int (pg_loN ws os n (w 2) (w 1))])), (gw, .inl (cI, 48, .inl (pg_loW ws os n (w 2) (w 1)))), (go, .inl (cI, 48, .inl (pg_loO ws os n (w 2) (w 1))))]) hP hD [1, 2, 3] [0] rfl rfl (by decide) (by decide) hk1 hFc hP1 hD1
    have hP : va_P (dC, dI) vwCl [(h0, .inr (3, [.int (w 0), .int (w 1), .int (w 2), .int (w 3), .int (w 4), .int (w 5), .int (w 6), .int (w 7)])), (g0, .inr (0, [.ref gw, .ref go, .int (pg_loN ws os n (w 2) (w 1))])), (gw, .inl (cI, 48, .inl (pg_loW ws os n (w 2) (w 1)))), (go, .inl (cI, 48, .inl (pg_loO ws os n (w 2) (w 1))))] H := hP.sub [0, 1, 2, 3] rfl
    have hD : va_D A [(h0, .inr (3, [.int (w 0), .int (w 1), .int (w 2), .int (w 3), .int (w 4), .int (w 5), .int (w 6), .int (w 7)])), (g0, .inr (0, [.ref gw, .ref go, .int (pg_loN ws os n (w 2) (w 1))])), (gw, .inl (cI, 48, .inl (pg_loW ws os n (w 2) (w 1)))), (go, .inl (cI, 48, .inl (pg_loO ws os n (w 2) (w 1))))] := hD.sub [0, 1, 2, 3] (by decide) rfl
    refine lv_goto (tgt := 52) hx hb dW_change_19 (by decide) ?_
    have hPe : va_P (dC, dI) vwCl [(h0, .inr (3, [.int (w 0), .int (w 1), .int (w 2), .int (w 3), .int (w 4), .int (w 5), .int (w 6), .int (w 7)])), (g0, .inr (0, [.ref gw, .ref go, .int (ch_N ws os n w)])), (gw, .inl (cI, 48, .inl (ch_W ws os n w))), (go, .inl (cI, 48, .inl (ch_O ws os n w)))] H := by first | (rw [ch_N, ch_W, ch_O, if_pos c_4, if_pos c_4, if_pos c_4]; exact hP) | (rw [ch_N, ch_W, ch_O, if_neg c_4, if_neg c_4, if_neg c_4]; exact hP)
    have hDe : va_D A [(h0, .inr (3, [.int (w 0), .int (w 1), .int (w 2), .int (w 3), .int (w 4), .int (w 5), .int (w 6), .int (w 7)])), (g0, .inr (0, [.ref gw, .ref go, .int (ch_N ws os n w)])), (gw, .inl (cI, 48, .inl (ch_W ws os n w))), (go, .inl (cI, 48, .inl (ch_O ws os n w)))] := sp_Dc hD rfl
    exact W.vret hx hb hr (sp_eWv hPe hDe hS) hS.2.2 dW_change_52
set_option maxHeartbeats 4000000 in
set_option maxRecDepth 100000 in
theorem kW_fc (l : Launch) (dC : Nat → ClassId) (dI : Nat → Nat → Nat) (cI cQ : ClassId) (h0 : Nat) (w : Nat → Int32) (g0 gw go : Nat) (n : Int32) (ws : Nat → Int32) (sz : Nat)  : Met l yW_findChange (.code yW_findChange cW_findChange 3 (some .boolean) :: wA) ({ frames := 3, cells := 0, slots := 0, locals := 64 }) (sp_P (dC, dI) (kT cI cQ) [.ref h0, .ref g0] [(h0, .inr (3, [.int (w 0), .int (w 1), .int (w 2), .int (w 3), .int (w 4), .int (w 5), .int (w 6), .int (w 7)])), (g0, .inr (0, [.ref gw, .ref go, .int n])), (gw, .inl (cI, 48, .inl ws))] sz) (sp_QWi ((wk_fc ws n 1000000 w).2) (dC, dI) [(h0, .inr (3, [.int (((wk_fc ws n 1000000 w).1) 0), .int (((wk_fc ws n 1000000 w).1) 1), .int (((wk_fc ws n 1000000 w).1) 2), .int (((wk_fc ws n 1000000 w).1) 3), .int (((wk_fc ws n 1000000 w).1) 4), .int (((wk_fc ws n 1000000 w).1) 5), .int (((wk_fc ws n 1000000 w).1) 6), .int (((wk_fc ws n 1000000 w).1) 7)])), (g0, .inr (0, [.ref gw, .ref go, .int n])), (gw, .inl (cI, 48, .inl ws))] (va_A [(h0, .inr (3, [.int (w 0), .int (w 1), .int (w 2), .int (w 3), .int (w 4), .int (w 5), .int (w 6), .int (w 7)])), (g0, .inr (0, [.ref gw, .ref go, .int n])), (gw, .inl (cI, 48, .inl ws))] sz)) 0 0 (va_A [(h0, .inr (3, [.int (w 0), .int (w 1), .int (w 2), .int (w 3), .int (w 4), .int (w 5), .int (w 6), .int (w 7)])), (g0, .inr (0, [.ref gw, .ref go, .int n])), (gw, .inl (cI, 48, .inl ws))] sz) := by
  refine Met.ofW (cc := cW_findChange) (maxL := 3) (ret := (some .boolean)) (by decide) rfl ?_
  intro p e s m args below meth c s₁ B hml hv
  obtain ⟨rfl, hsz, hP, hK, hD0, hG⟩ := hv
  have hx := B.exec
  have hb := B.bytes
  have hr := B.returns
  have hA := sp_hA (atoms_spec (ws := (.code yW_findChange cW_findChange 3 (some .boolean) :: wA)) B.pre)
  have hown : s.vm.findClass rW = some m.cls := findClass_of_methodNamed B.named
  have hlocks := B.notSynchronized
  subst hsz
  have hD := hD0.self (sz := s.heap.size)
  generalize hAe : va_A [(h0, .inr (3, [.int (w 0), .int (w 1), .int (w 2), .int (w 3), .int (w 4), .int (w 5), .int (w 6), .int (w 7)])), (g0, .inr (0, [.ref gw, .ref go, .int n])), (gw, .inl (cI, 48, .inl ws))] s.heap.size = A at hD ⊢
  have hF : ∀ q : Nat, s.heap.size ≤ q → A q := fun q h => by rw [← hAe]; exact Or.inr h
  have hS : va_S A s.heap s.heap [] := va_S.rf
  have hl := lv_entry ([.ref h0, .ref g0]) (n := 3) (Nat.le_of_ble_eq_true rfl)
  rw [lg_entry_eq]
  generalize (lg_sl ([.ref h0, .ref g0]) ++ List.replicate (3 - (lg_sl ([.ref h0, .ref g0])).length) Slot.unset).toArray = ls at hl ⊢
  have hl : lv_has ls 3 [(0, .ref h0), (1, .ref g0)] := hl
  refine lv_iconst (v := 0) hx hb dW_findChange_0 (by decide) ?_
  refine lv_istore_n (lv' := [(2, .int 0), (0, .ref h0), (1, .ref g0)]) hx hb dW_findChange_1 rfl hl (by decide) rfl (fun ls hl => ?_)
  have loop : ∀ (n9 : Nat) (i : Nat) (w9 : Nat → Int32) (H : Heap) (locs : List Loc) (ls : Array Slot), 1000000 - i < n9 → (i ≤ 1000000) → (wk_fc ws n (1000000 - i) w9 = wk_fc ws n 1000000 w) → va_P (dC, dI) vwCl [(h0, .inr (3, [.int (w9 0), .int (w9 1), .int (w9 2), .int (w9 3), .int (w9 4), .int (w9 5), .int (w9 6), .int (w9 7)])), (g0, .inr (0, [.ref gw, .ref go, .int n])), (gw, .inl (cI, 48, .inl ws))] H → va_D A [(h0, .inr (3, [.int (w9 0), .int (w9 1), .int (w9 2), .int (w9 3), .int (w9 4), .int (w9 5), .int (w9 6), .int (w9 7)])), (g0, .inr (0, [.ref gw, .ref go, .int n])), (gw, .inl (cI, 48, .inl ws))] → va_S A s.heap H locs → lv_has ls 3 [(2, .int (nI i)), (0, .ref h0), (1, .ref g0)] → W p l e (headSpec (.code yW_findChange cW_findChange 3 (some .boolean) :: wA) ({ frames := 3, cells := 0, slots := 0, locals := 64 })).room s m ([.ref h0, .ref g0]).toArray below meth c H locs 0 0 (MQ below (sp_QWi ((wk_fc ws n 1000000 w).2) (dC, dI) [(h0, .inr (3, [.int (((wk_fc ws n 1000000 w).1) 0), .int (((wk_fc ws n 1000000 w).1) 1), .int (((wk_fc ws n 1000000 w).1) 2), .int (((wk_fc ws n 1000000 w).1) 3), .int (((wk_fc ws n 1000000 w).1) 4), .int (((wk_fc ws n 1000000 w).1) 5), .int (((wk_fc ws n 1000000 w).1) 6), .int (((wk_fc ws n 1000000 w).1) 7)])), (g0, .inr (0, [.ref gw, .ref go, .int n])), (gw, .inl (cI, 48, .inl ws))] A) ([.ref h0, .ref g0]).toArray s 0 0 A) (F0 m 2 ls []) := by
    intro n9
    induction n9 with
    | zero => intro i w9 H locs ls hm9 hi hfc hP hD hS hl; exact absurd hm9 (Nat.not_lt_zero _)
    | succ n9 ih =>
      intro i w9 H locs ls hm9 hi hfc hP hD hS hl
      refine lv_iload_n hx hb dW_findChange_2 rfl (lv_at hl 0 rfl) ?_
      refine lv_ldc (v := 1000000) hx hb hown (hA _ wi_421) dW_findChange_3 ?_
      refine lv_icmp_ge (tgt := 97) hx hb dW_findChange_5 (by decide) (fun c_5 => ?_) (fun c_5 => ?_)
      · refine lv_iconst (v := 0) hx hb dW_findChange_97 (by decide) ?_
        have e9 : wk_fc ws n 1000000 w = (w9, 0) := by rw [← hfc, show 1000000 - i = 0 by have := ml_le (show i < 2 ^ 31 by omega) c_5; omega]; rfl
        have hPe : va_P (dC, dI) vwCl [(h0, .inr (3, [.int (((wk_fc ws n 1000000 w).1) 0), .int (((wk_fc ws n 1000000 w).1) 1), .int (((wk_fc ws n 1000000 w).1) 2), .int (((wk_fc ws n 1000000 w).1) 3), .int (((wk_fc ws n 1000000 w).1) 4), .int (((wk_fc ws n 1000000 w).1) 5), .int (((wk_fc ws n 1000000 w).1) 6), .int (((wk_fc ws n 1000000 w).1) 7)])), (g0, .inr (0, [.ref gw, .ref go, .int n])), (gw, .inl (cI, 48, .inl ws))] H := by rw [e9]; exact hP
        have hDe : va_D A [(h0, .inr (3, [.int (((wk_fc ws n 1000000 w).1) 0), .int (((wk_fc ws n 1000000 w).1) 1), .int (((wk_fc ws n 1000000 w).1) 2), .int (((wk_fc ws n 1000000 w).1) 3), .int (((wk_fc ws n 1000000 w).1) 4), .int (((wk_fc ws n 1000000 w).1) 5), .int (((wk_fc ws n 1000000 w).1) 6), .int (((wk_fc ws n 1000000 w).1) 7)])), (g0, .inr (0, [.ref gw, .ref go, .int n])), (gw, .inl (cI, 48, .inl ws))] := sp_Dc hD rfl
        exact W.zret hx hb hr rfl (sp_eWi (by rw [e9]) hPe hDe hS) hS.2.2 dW_findChange_98
      · refine lv_aload_n hx hb dW_findChange_8 rfl (lv_at hl 1 rfl) ?_
        refine va_get (D := (dC, dI)) (ci := 3) (C := rW) (T := tW) (N := 8) hx hb hA inW hown hK hP 0 rfl rfl 0 (by decide) (hA _ wi_61) (fun _ h9 => h9) rfl dW_findChange_9 ?_
        refine lv_if_ne (tgt := 35) hx hb dW_findChange_12 (by decide) (fun c_12 => ?_) (fun c_12 => ?_)
        · refine lv_aload_n hx hb dW_findChange_35 rfl (lv_at hl 2 rfl) ?_
          refine lv_aload_n hx hb dW_findChange_36 rfl (lv_at hl 1 rfl) ?_
          refine va_get (D := (dC, dI)) (ci := 3) (C := rW) (T := tW) (N := 8) hx hb hA inW hown hK hP 0 rfl rfl 4 (by decide) (hA _ wi_65) (fun _ h9 => h9) rfl dW_findChange_37 ?_
          refine va_calli (va_runV (As := [.int (w9 4)]) (rest := []) ⟨hx, hb, hml, hown, hA⟩ (kP_has l dC dI cI cQ g0 gw go n (w9 4)) (cwV 1 hA (gd_V wi_422 wi_304 wi_305 wi_3 wi_306) rfl rfl rfl (by decide +kernel) ⟨Nat.le_of_ble_eq_true rfl, Nat.le_of_ble_eq_true rfl⟩) ⟨sp_Rb, va_recv hK hP (ci := 0) (q0 := 1) rfl rfl, sp_Ro (hP.sub [1] rfl) hK hG⟩ rfl rfl hl.1 rfl (lv_room (Nat.le_of_ble_eq_true rfl)) dW_findChange_40 ⟨Nat.le_of_ble_eq_true rfl, Nat.le_of_ble_eq_true rfl⟩) hS (fun _ _ h => h.elim) (fun _ h => h.elim) (fun r_40 u_40 t H locs ht hvm hw hB hz1 hk1 hS => ?_)
          rw [hw]
          have hP := sp_kp hP hk1
          refine lv_if_eq (tgt := 74) hx hb dW_findChange_43 (by decide) (fun c_43 => ?_) (fun c_43 => ?_)
          · refine lv_aload_n hx hb dW_findChange_74 rfl (lv_at hl 1 rfl) ?_
            refine va_get (D := (dC, dI)) (ci := 3) (C := rW) (T := tW) (N := 8) hx hb hA inW hown hK hP 0 rfl rfl 6 (by decide) (hA _ wi_67) (fun _ h9 => h9) rfl dW_findChange_75 ?_
            refine lv_if_eq (tgt := 89) hx hb dW_findChange_78 (by decide) (fun c_78 => ?_) (fun c_78 => ?_)
            · refine lv_iconst (v := 0) hx hb dW_findChange_89 (by decide) ?_
              have hi9 := ml_lt (show i < 2 ^ 31 by omega) c_5
              have e9 : wk_fc ws n 1000000 w = (w9, 0) := by rw [← hfc, show 1000000 - i = (1000000 - (i + 1)) + 1 by omega, wk_fc]; simp only [c_12, c_43, c_78, if_true, if_false, ↓reduceIte]
              have hPe : va_P (dC, dI) vwCl [(h0, .inr (3, [.int (((wk_fc ws n 1000000 w).1) 0), .int (((wk_fc ws n 1000000 w).1) 1), .int (((wk_fc ws n 1000000 w).1) 2), .int (((wk_fc ws n 1000000 w).1) 3), .int (((wk_fc ws n 1000000 w).1) 4), .int (((wk_fc ws n 1000000 w).1) 5), .int (((wk_fc ws n 1000000 w).1) 6), .int (((wk_fc ws n 1000000 w).1) 7)])), (g0, .inr (0, [.ref gw, .ref go, .int n])), (gw, .inl (cI, 48, .inl ws))] H := by rw [e9]; exact hP
              have hDe : va_D A [(h0, .inr (3, [.int (((wk_fc ws n 1000000 w).1) 0), .int (((wk_fc ws n 1000000 w).1) 1), .int (((wk_fc ws n 1000000 w).1) 2), .int (((wk_fc ws n 1000000 w).1) 3), .int (((wk_fc ws n 1000000 w).1) 4), .int (((wk_fc ws n 1000000 w).1) 5), .int (((wk_fc ws n 1000000 w).1) 6), .int (((wk_fc ws n 1000000 w).1) 7)])), (g0, .inr (0, [.ref gw, .ref go, .int n])), (gw, .inl (cI, 48, .inl ws))] := sp_Dc hD rfl
              exact W.zret hx hb hr rfl (sp_eWi (by rw [e9]) hPe hDe hS) hS.2.2 dW_findChange_90
            · refine lv_aload_n hx hb dW_findChange_81 rfl (lv_at hl 1 rfl) ?_
              refine lv_iconst (v := 1) hx hb dW_findChange_82 (by decide) ?_
              have hPc := hP.sub (ws' := [(h0, .inr (3, [.int (w9 0), .int (w9 1), .int (w9 2), .int (w9 3), .int (w9 4), .int (w9 5), .int (w9 6), .int (w9 7)]))]) [0] rfl
              have hDc := hD.sub (ws' := [(h0, .inr (3, [.int (w9 0), .int (w9 1), .int (w9 2), .int (w9 3), .int (w9 4), .int (w9 5), .int (w9 6), .int (w9 7)]))]) [0] (by decide) rfl
              have hFc := va_free (wc := [(h0, .inr (3, [.int (w9 0), .int (w9 1), .int (w9 2), .int (w9 3), .int (w9 4), .int (w9 5), .int (w9 6), .int (w9 7)]))]) hD hS hF [0] rfl
              refine va_callv (va_runV (As := [.int 1]) (rest := []) ⟨hx, hb, hml, hown, hA⟩ (kW_sl l dC dI cI cQ h0 w9 1 _) (cwV 1 hA (gd_V wi_433 wi_366 wi_367 wi_5 wi_368) rfl rfl rfl (by decide +kernel) ⟨Nat.le_of_ble_eq_true rfl, Nat.le_of_ble_eq_true rfl⟩) ⟨sp_Pb, va_recv hK hP (ci := 3) (q0 := 0) rfl rfl, sp_Po hPc hK hG hDc⟩ rfl rfl hl.1 rfl (lv_room (Nat.le_of_ble_eq_true rfl)) dW_findChange_83 ⟨Nat.le_of_ble_eq_true rfl, Nat.le_of_ble_eq_true rfl⟩) hS (fun q _ h => hFc q h) hFc (fun u_83 t H locs ht hvm hw hB hz1 hk1 hS => ?_)
              obtain ⟨hP1, hD1⟩ := hB
              rw [ht] at hP1
              obtain ⟨hP, hD⟩ := va_join (wr := [(g0, .inr (0, [.ref gw, .ref go, .int n])), (gw, .inl (cI, 48, .inl ws))]) (w1 := [(h0, .inr (3, [.int ((wk_sl w9 1) 0), .int ((wk_sl w9 1) 1), .int ((wk_sl w9 1) 2), .int ((wk_sl w9 1) 3), .int ((wk_sl w9 1) 4), .int ((wk_sl w9 1) 5), .int ((wk_sl w9 1) 6), .int ((wk_sl w9 1) 7)]))]) hP hD [0] [1, 2] rfl rfl (by decide) (by decide) hk1 hFc hP1 hD1
              have hP : va_P (dC, dI) vwCl [(h0, .inr (3, [.int ((wk_sl w9 1) 0), .int ((wk_sl w9 1) 1), .int ((wk_sl w9 1) 2), .int ((wk_sl w9 1) 3), .int ((wk_sl w9 1) 4), .int ((wk_sl w9 1) 5), .int ((wk_sl w9 1) 6), .int ((wk_sl w9 1) 7)])), (g0, .inr (0, [.ref gw, .ref go, .int n])), (gw, .inl (cI, 48, .inl ws))] H := hP.sub [2, 0, 1] rfl
              have hD : va_D A [(h0, .inr (3, [.int ((wk_sl w9 1) 0), .int ((wk_sl w9 1) 1), .int ((wk_sl w9 1) 2), .int ((wk_sl w9 1) 3), .int ((wk_sl w9 1) 4), .int ((wk_sl w9 1) 5), .int ((wk_sl w9 1) 6), .int ((wk_sl w9 1) 7)])), (g0, .inr (0, [.ref gw, .ref go, .int n])), (gw, .inl (cI, 48, .inl ws))] := hD.sub [2, 0, 1] (by decide) rfl
              refine lv_goto (tgt := 91) hx hb dW_findChange_86 (by decide) ?_
              refine lv_iinc (v := ((nI i) + 1)) (lv' := [(2, .int ((nI i) + 1)), (0, .ref h0), (1, .ref g0)]) hx hb dW_findChange_91 hl (k := 0) rfl rfl (by decide) rfl (fun ls hl => ?_)
              refine lv_goto (tgt := 2) hx hb dW_findChange_94 (by decide) ?_
              have hi9 := ml_lt (show i < 2 ^ 31 by omega) c_5
              have ek : 1000000 - i = (1000000 - (i + 1)) + 1 := by omega
              refine ih (i + 1) (wk_sl w9 1) H locs ls (by omega) (by omega) (by rw [← hfc, ek, wk_fc]; simp only [c_12, c_43, c_78, if_true, if_false, ↓reduceIte]) hP (sp_Dc hD rfl) hS ?_
              have h9 := lv_sub hl [0, 1, 2] rfl
              rw [nI_1] at h9
              exact h9
          · refine lv_aload_n hx hb dW_findChange_46 rfl (lv_at hl 1 rfl) ?_
            refine lv_aload_n hx hb dW_findChange_47 rfl (lv_at hl 2 rfl) ?_
            refine lv_aload_n hx hb dW_findChange_48 rfl (lv_at hl 1 rfl) ?_
            refine va_get (D := (dC, dI)) (ci := 3) (C := rW) (T := tW) (N := 8) hx hb hA inW hown hK hP 0 rfl rfl 4 (by decide) (hA _ wi_65) (fun _ h9 => h9) rfl dW_findChange_49 ?_
            refine lv_aload_n hx hb dW_findChange_52 rfl (lv_at hl 1 rfl) ?_
            refine va_get (D := (dC, dI)) (ci := 3) (C := rW) (T := tW) (N := 8) hx hb hA inW hown hK hP 0 rfl rfl 5 (by decide) (hA _ wi_66) (fun _ h9 => h9) rfl dW_findChange_53 ?_
            refine va_calli (va_runV (As := [.int (w9 4), .int (w9 5)]) (rest := [.ref h0]) ⟨hx, hb, hml, hown, hA⟩ (kP_byteOf l dC dI cI cQ g0 gw go n ws (w9 4) (w9 5)) (cwV 2 hA (gd_V wi_390 wi_391 wi_392 wi_3 wi_393) rfl rfl rfl (by decide +kernel) ⟨Nat.le_of_ble_eq_true rfl, Nat.le_of_ble_eq_true rfl⟩) ⟨sp_Rb, va_recv hK hP (ci := 0) (q0 := 1) rfl rfl, sp_Ro (hP.sub [1, 2] rfl) hK hG⟩ rfl rfl hl.1 rfl (lv_room (Nat.le_of_ble_eq_true rfl)) dW_findChange_56 ⟨Nat.le_of_ble_eq_true rfl, Nat.le_of_ble_eq_true rfl⟩) hS (fun _ _ h => h.elim) (fun _ h => h.elim) (fun r_56 u_56 t H locs ht hvm hw hB hz1 hk1 hS => ?_)
            rw [hw]
            have hP := sp_kp hP hk1
            refine va_calli (va_runV (As := [.int (pg_byte ws n (w9 4) (w9 5))]) (rest := []) ⟨hx, hb, hml, hown, hA⟩ (kW_can l dC dI cI cQ h0 w9 (pg_byte ws n (w9 4) (w9 5))) (cwV 1 hA (gd_V wi_429 wi_430 wi_677 wi_5 wi_431) rfl rfl rfl (by decide +kernel) ⟨Nat.le_of_ble_eq_true rfl, Nat.le_of_ble_eq_true rfl⟩) ⟨sp_Rb, va_recv hK hP (ci := 3) (q0 := 0) rfl rfl, sp_Ro (hP.sub [0] rfl) hK hG⟩ rfl rfl hl.1 rfl (lv_room (Nat.le_of_ble_eq_true rfl)) dW_findChange_59 ⟨Nat.le_of_ble_eq_true rfl, Nat.le_of_ble_eq_true rfl⟩) hS (fun _ _ h => h.elim) (fun _ h => h.elim) (fun r_59 u_59 t H locs ht hvm hw hB hz1 hk1 hS => ?_)
            rw [hw]
            have hP := sp_kp hP hk1
            refine lv_if_eq (tgt := 67) hx hb dW_findChange_62 (by decide) (fun c_62 => ?_) (fun c_62 => ?_)
            · refine lv_aload_n hx hb dW_findChange_67 rfl (lv_at hl 1 rfl) ?_
              have hPc := hP.sub (ws' := [(h0, .inr (3, [.int (w9 0), .int (w9 1), .int (w9 2), .int (w9 3), .int (w9 4), .int (w9 5), .int (w9 6), .int (w9 7)]))]) [0] rfl
              have hDc := hD.sub (ws' := [(h0, .inr (3, [.int (w9 0), .int (w9 1), .int (w9 2), .int (w9 3), .int (w9 4), .int (w9 5), .int (w9 6), .int (w9 7)]))]) [0] (by decide) rfl
              have hFc := va_free (wc := [(h0, .inr (3, [.int (w9 0), .int (w9 1), .int (w9 2), .int (w9 3), .int (w9 4), .int (w9 5), .int (w9 6), .int (w9 7)]))]) hD hS hF [0] rfl
              refine va_callv (va_runV (As := []) (rest := []) ⟨hx, hb, hml, hown, hA⟩ (kW_pass l dC dI cI cQ h0 w9 _) (cwV 0 hA (gd_V wi_432 wi_376 wi_377 wi_5 wi_378) rfl rfl rfl (by decide +kernel) ⟨Nat.le_of_ble_eq_true rfl, Nat.le_of_ble_eq_true rfl⟩) ⟨sp_Pb, va_recv hK hP (ci := 3) (q0 := 0) rfl rfl, sp_Po hPc hK hG hDc⟩ rfl rfl hl.1 rfl (lv_room (Nat.le_of_ble_eq_true rfl)) dW_findChange_68 ⟨Nat.le_of_ble_eq_true rfl, Nat.le_of_ble_eq_true rfl⟩) hS (fun q _ h => hFc q h) hFc (fun u_68 t H locs ht hvm hw hB hz1 hk1 hS => ?_)
              obtain ⟨hP1, hD1⟩ := hB
              rw [ht] at hP1
              obtain ⟨hP, hD⟩ := va_join (wr := [(g0, .inr (0, [.ref gw, .ref go, .int n])), (gw, .inl (cI, 48, .inl ws))]) (w1 := [(h0, .inr (3, [.int ((wk_pass w9) 0), .int ((wk_pass w9) 1), .int ((wk_pass w9) 2), .int ((wk_pass w9) 3), .int ((wk_pass w9) 4), .int ((wk_pass w9) 5), .int ((wk_pass w9) 6), .int ((wk_pass w9) 7)]))]) hP hD [0] [1, 2] rfl rfl (by decide) (by decide) hk1 hFc hP1 hD1
              have hP : va_P (dC, dI) vwCl [(h0, .inr (3, [.int ((wk_pass w9) 0), .int ((wk_pass w9) 1), .int ((wk_pass w9) 2), .int ((wk_pass w9) 3), .int ((wk_pass w9) 4), .int ((wk_pass w9) 5), .int ((wk_pass w9) 6), .int ((wk_pass w9) 7)])), (g0, .inr (0, [.ref gw, .ref go, .int n])), (gw, .inl (cI, 48, .inl ws))] H := hP.sub [2, 0, 1] rfl
              have hD : va_D A [(h0, .inr (3, [.int ((wk_pass w9) 0), .int ((wk_pass w9) 1), .int ((wk_pass w9) 2), .int ((wk_pass w9) 3), .int ((wk_pass w9) 4), .int ((wk_pass w9) 5), .int ((wk_pass w9) 6), .int ((wk_pass w9) 7)])), (g0, .inr (0, [.ref gw, .ref go, .int n])), (gw, .inl (cI, 48, .inl ws))] := hD.sub [2, 0, 1] (by decide) rfl
              refine lv_goto (tgt := 91) hx hb dW_findChange_71 (by decide) ?_
              refine lv_iinc (v := ((nI i) + 1)) (lv' := [(2, .int ((nI i) + 1)), (0, .ref h0), (1, .ref g0)]) hx hb dW_findChange_91 hl (k := 0) rfl rfl (by decide) rfl (fun ls hl => ?_)
              refine lv_goto (tgt := 2) hx hb dW_findChange_94 (by decide) ?_
              have hi9 := ml_lt (show i < 2 ^ 31 by omega) c_5
              have ek : 1000000 - i = (1000000 - (i + 1)) + 1 := by omega
              refine ih (i + 1) (wk_pass w9) H locs ls (by omega) (by omega) (by rw [← hfc, ek, wk_fc]; simp only [c_12, c_43, c_62, if_true, if_false, ↓reduceIte]) hP (sp_Dc hD rfl) hS ?_
              have h9 := lv_sub hl [0, 1, 2] rfl
              rw [nI_1] at h9
              exact h9
            · refine lv_iconst (v := 1) hx hb dW_findChange_65 (by decide) ?_
              have hi9 := ml_lt (show i < 2 ^ 31 by omega) c_5
              have e9 : wk_fc ws n 1000000 w = (w9, 1) := by rw [← hfc, show 1000000 - i = (1000000 - (i + 1)) + 1 by omega, wk_fc]; simp only [c_12, c_43, c_62, if_true, if_false, ↓reduceIte]
              have hPe : va_P (dC, dI) vwCl [(h0, .inr (3, [.int (((wk_fc ws n 1000000 w).1) 0), .int (((wk_fc ws n 1000000 w).1) 1), .int (((wk_fc ws n 1000000 w).1) 2), .int (((wk_fc ws n 1000000 w).1) 3), .int (((wk_fc ws n 1000000 w).1) 4), .int (((wk_fc ws n 1000000 w).1) 5), .int (((wk_fc ws n 1000000 w).1) 6), .int (((wk_fc ws n 1000000 w).1) 7)])), (g0, .inr (0, [.ref gw, .ref go, .int n])), (gw, .inl (cI, 48, .inl ws))] H := by rw [e9]; exact hP
              have hDe : va_D A [(h0, .inr (3, [.int (((wk_fc ws n 1000000 w).1) 0), .int (((wk_fc ws n 1000000 w).1) 1), .int (((wk_fc ws n 1000000 w).1) 2), .int (((wk_fc ws n 1000000 w).1) 3), .int (((wk_fc ws n 1000000 w).1) 4), .int (((wk_fc ws n 1000000 w).1) 5), .int (((wk_fc ws n 1000000 w).1) 6), .int (((wk_fc ws n 1000000 w).1) 7)])), (g0, .inr (0, [.ref gw, .ref go, .int n])), (gw, .inl (cI, 48, .inl ws))] := sp_Dc hD rfl
              exact W.zret hx hb hr rfl (sp_eWi (by rw [e9]) hPe hDe hS) hS.2.2 dW_findChange_66
        · refine lv_aload_n hx hb dW_findChange_15 rfl (lv_at hl 2 rfl) ?_
          refine lv_aload_n hx hb dW_findChange_16 rfl (lv_at hl 1 rfl) ?_
          refine va_get (D := (dC, dI)) (ci := 3) (C := rW) (T := tW) (N := 8) hx hb hA inW hown hK hP 0 rfl rfl 2 (by decide) (hA _ wi_63) (fun _ h9 => h9) rfl dW_findChange_17 ?_
          refine va_calli (va_runV (As := [.int (w9 2)]) (rest := []) ⟨hx, hb, hml, hown, hA⟩ (kP_has l dC dI cI cQ g0 gw go n (w9 2)) (cwV 1 hA (gd_V wi_422 wi_304 wi_305 wi_3 wi_306) rfl rfl rfl (by decide +kernel) ⟨Nat.le_of_ble_eq_true rfl, Nat.le_of_ble_eq_true rfl⟩) ⟨sp_Rb, va_recv hK hP (ci := 0) (q0 := 1) rfl rfl, sp_Ro (hP.sub [1] rfl) hK hG⟩ rfl rfl hl.1 rfl (lv_room (Nat.le_of_ble_eq_true rfl)) dW_findChange_20 ⟨Nat.le_of_ble_eq_true rfl, Nat.le_of_ble_eq_true rfl⟩) hS (fun _ _ h => h.elim) (fun _ h => h.elim) (fun r_20 u_20 t H locs ht hvm hw hB hz1 hk1 hS => ?_)
          rw [hw]
          have hP := sp_kp hP hk1
          refine lv_if_eq (tgt := 28) hx hb dW_findChange_23 (by decide) (fun c_23 => ?_) (fun c_23 => ?_)
          · refine lv_aload_n hx hb dW_findChange_28 rfl (lv_at hl 1 rfl) ?_
            have hPc := hP.sub (ws' := [(h0, .inr (3, [.int (w9 0), .int (w9 1), .int (w9 2), .int (w9 3), .int (w9 4), .int (w9 5), .int (w9 6), .int (w9 7)]))]) [0] rfl
            have hDc := hD.sub (ws' := [(h0, .inr (3, [.int (w9 0), .int (w9 1), .int (w9 2), .int (w9 3), .int (w9 4), .int (w9 5), .int (w9 6), .int (w9 7)]))]) [0] (by decide) rfl
            have hFc := va_free (wc := [(h0, .inr (3, [.int (w9 0), .int (w9 1), .int (w9 2), .int (w9 3), .int (w9 4), .int (w9 5), .int (w9 6), .int (w9 7)]))]) hD hS hF [0] rfl
            refine va_callv (va_runV (As := []) (rest := []) ⟨hx, hb, hml, hown, hA⟩ (kW_end l dC dI cI cQ h0 w9 _) (cwV 0 hA (gd_V wi_423 wi_424 wi_675 wi_5 wi_425) rfl rfl rfl (by decide +kernel) ⟨Nat.le_of_ble_eq_true rfl, Nat.le_of_ble_eq_true rfl⟩) ⟨sp_Pb, va_recv hK hP (ci := 3) (q0 := 0) rfl rfl, sp_Po hPc hK hG hDc⟩ rfl rfl hl.1 rfl (lv_room (Nat.le_of_ble_eq_true rfl)) dW_findChange_29 ⟨Nat.le_of_ble_eq_true rfl, Nat.le_of_ble_eq_true rfl⟩) hS (fun q _ h => hFc q h) hFc (fun u_29 t H locs ht hvm hw hB hz1 hk1 hS => ?_)
            obtain ⟨hP1, hD1⟩ := hB
            rw [ht] at hP1
            obtain ⟨hP, hD⟩ := va_join (wr := [(g0, .inr (0, [.ref gw, .ref go, .int n])), (gw, .inl (cI, 48, .inl ws))]) (w1 := [(h0, .inr (3, [.int ((wk_end w9) 0), .int ((wk_end w9) 1), .int ((wk_end w9) 2), .int ((wk_end w9) 3), .int ((wk_end w9) 4), .int ((wk_end w9) 5), .int ((wk_end w9) 6), .int ((wk_end w9) 7)]))]) hP hD [0] [1, 2] rfl rfl (by decide) (by decide) hk1 hFc hP1 hD1
            have hP : va_P (dC, dI) vwCl [(h0, .inr (3, [.int ((wk_end w9) 0), .int ((wk_end w9) 1), .int ((wk_end w9) 2), .int ((wk_end w9) 3), .int ((wk_end w9) 4), .int ((wk_end w9) 5), .int ((wk_end w9) 6), .int ((wk_end w9) 7)])), (g0, .inr (0, [.ref gw, .ref go, .int n])), (gw, .inl (cI, 48, .inl ws))] H := hP.sub [2, 0, 1] rfl
            have hD : va_D A [(h0, .inr (3, [.int ((wk_end w9) 0), .int ((wk_end w9) 1), .int ((wk_end w9) 2), .int ((wk_end w9) 3), .int ((wk_end w9) 4), .int ((wk_end w9) 5), .int ((wk_end w9) 6), .int ((wk_end w9) 7)])), (g0, .inr (0, [.ref gw, .ref go, .int n])), (gw, .inl (cI, 48, .inl ws))] := hD.sub [2, 0, 1] (by decide) rfl
            refine lv_goto (tgt := 91) hx hb dW_findChange_32 (by decide) ?_
            refine lv_iinc (v := ((nI i) + 1)) (lv' := [(2, .int ((nI i) + 1)), (0, .ref h0), (1, .ref g0)]) hx hb dW_findChange_91 hl (k := 0) rfl rfl (by decide) rfl (fun ls hl => ?_)
            refine lv_goto (tgt := 2) hx hb dW_findChange_94 (by decide) ?_
            have hi9 := ml_lt (show i < 2 ^ 31 by omega) c_5
            have ek : 1000000 - i = (1000000 - (i + 1)) + 1 := by omega
            refine ih (i + 1) (wk_end w9) H locs ls (by omega) (by omega) (by rw [← hfc, ek, wk_fc]; simp only [c_12, c_23, if_true, if_false, ↓reduceIte]) hP (sp_Dc hD rfl) hS ?_
            have h9 := lv_sub hl [0, 1, 2] rfl
            rw [nI_1] at h9
            exact h9
          · refine lv_iconst (v := 1) hx hb dW_findChange_26 (by decide) ?_
            have hi9 := ml_lt (show i < 2 ^ 31 by omega) c_5
            have e9 : wk_fc ws n 1000000 w = (w9, 1) := by rw [← hfc, show 1000000 - i = (1000000 - (i + 1)) + 1 by omega, wk_fc]; simp only [c_12, c_23, if_true, if_false, ↓reduceIte]
            have hPe : va_P (dC, dI) vwCl [(h0, .inr (3, [.int (((wk_fc ws n 1000000 w).1) 0), .int (((wk_fc ws n 1000000 w).1) 1), .int (((wk_fc ws n 1000000 w).1) 2), .int (((wk_fc ws n 1000000 w).1) 3), .int (((wk_fc ws n 1000000 w).1) 4), .int (((wk_fc ws n 1000000 w).1) 5), .int (((wk_fc ws n 1000000 w).1) 6), .int (((wk_fc ws n 1000000 w).1) 7)])), (g0, .inr (0, [.ref gw, .ref go, .int n])), (gw, .inl (cI, 48, .inl ws))] H := by rw [e9]; exact hP
            have hDe : va_D A [(h0, .inr (3, [.int (((wk_fc ws n 1000000 w).1) 0), .int (((wk_fc ws n 1000000 w).1) 1), .int (((wk_fc ws n 1000000 w).1) 2), .int (((wk_fc ws n 1000000 w).1) 3), .int (((wk_fc ws n 1000000 w).1) 4), .int (((wk_fc ws n 1000000 w).1) 5), .int (((wk_fc ws n 1000000 w).1) 6), .int (((wk_fc ws n 1000000 w).1) 7)])), (g0, .inr (0, [.ref gw, .ref go, .int n])), (gw, .inl (cI, 48, .inl ws))] := sp_Dc hD rfl
            exact W.zret hx hb hr rfl (sp_eWi (by rw [e9]) hPe hDe hS) hS.2.2 dW_findChange_27
  exact loop ((1000000 - 0) + 1) 0 w _ _ ls (Nat.lt_succ_self _) (by omega) rfl hP (sp_Dc hD rfl) hS (lv_sub hl [0, 1, 2] rfl)
