-- the reference: contracts (by wip/gen/mdc.py)
set_option maxHeartbeats 4000000 in
set_option maxRecDepth 100000 in
theorem kD_thrown (l : Launch) (dC : Nat → ClassId) (dI : Nat → Nat → Nat) (cI cQ : ClassId) (x0 aw ao ac az aq an : Nat) (f : Nat → Int32)  : Met l yD_thrown (.code yD_thrown cD_thrown 1 (some .int) :: wA) ({ frames := 0, cells := 0, slots := 0, locals := 0 }) (sp_R (dC, dI) (kT cI cQ) [.ref x0] [(x0, .inr (5, [.int (f 0), .int (f 1), .int (f 2), .int (f 3), .ref aw, .ref ao, .int (f 6), .ref ac, .int (f 8), .int (f 9), .int (f 10), .int (f 11), .int (f 12), .int (f 13), .int (f 14), .int (f 15), .int (f 16), .int (f 17), .int (f 18), .ref az, .ref aq, .ref an, .int (f 22), .int (f 23), .int (f 24), .int (f 25), .int (f 26)]))]) (sp_QRi (f 0)) 0 0 (fun _ => False) := by
  refine Met.ofW (cc := cD_thrown) (maxL := 1) (ret := (some .int)) (by decide) rfl ?_
  intro p e s m args below meth c s₁ B hml hv
  obtain ⟨rfl, hP, hK, hG⟩ := hv
  have hx := B.exec
  have hb := B.bytes
  have hr := B.returns
  have hA := sp_hA (atoms_spec (ws := (.code yD_thrown cD_thrown 1 (some .int) :: wA)) B.pre)
  have hown : s.vm.findClass rD = some m.cls := findClass_of_methodNamed B.named
  have hlocks := B.notSynchronized
  have hS : va_S (fun _ => False) s.heap s.heap [] := va_S.rf
  have hl := lv_entry ([.ref x0]) (n := 1) (Nat.le_of_ble_eq_true rfl)
  rw [lg_entry_eq]
  generalize (lg_sl ([.ref x0]) ++ List.replicate (1 - (lg_sl ([.ref x0])).length) Slot.unset).toArray = ls at hl ⊢
  have hl : lv_has ls 1 [(0, .ref x0)] := hl
  refine lv_aload_n hx hb dD_thrown_0 rfl (lv_at hl 0 rfl) ?_
  refine va_get (D := (dC, dI)) (ci := 5) (C := rD) (T := tD) (N := 27) hx hb hA inD hown hK hP 0 rfl rfl 0 (by decide) (hA _ wi_488) (fun _ h9 => h9) rfl dD_thrown_1 ?_
  exact W.iret hx hb hr (sp_eRi (rfl) hS) hS.2.2 dD_thrown_4
set_option maxHeartbeats 4000000 in
set_option maxRecDepth 100000 in
theorem kD_fail (l : Launch) (dC : Nat → ClassId) (dI : Nat → Nat → Nat) (cI cQ : ClassId) (x0 aw ao ac az aq an : Nat) (f : Nat → Int32) (x : Int32) (sz : Nat)  : Met l yD_fail (.code yD_fail cD_fail 2 (some .int) :: wA) ({ frames := 0, cells := 0, slots := 0, locals := 0 }) (sp_P (dC, dI) (kT cI cQ) [.ref x0, .int x] [(x0, .inr (5, [.int (f 0), .int (f 1), .int (f 2), .int (f 3), .ref aw, .ref ao, .int (f 6), .ref ac, .int (f 8), .int (f 9), .int (f 10), .int (f 11), .int (f 12), .int (f 13), .int (f 14), .int (f 15), .int (f 16), .int (f 17), .int (f 18), .ref az, .ref aq, .ref an, .int (f 22), .int (f 23), .int (f 24), .int (f 25), .int (f 26)]))] sz) (sp_QWi 0 (dC, dI) [(x0, .inr (5, [.int ((upd f 0 x) 0), .int ((upd f 0 x) 1), .int ((upd f 0 x) 2), .int ((upd f 0 x) 3), .ref aw, .ref ao, .int ((upd f 0 x) 6), .ref ac, .int ((upd f 0 x) 8), .int ((upd f 0 x) 9), .int ((upd f 0 x) 10), .int ((upd f 0 x) 11), .int ((upd f 0 x) 12), .int ((upd f 0 x) 13), .int ((upd f 0 x) 14), .int ((upd f 0 x) 15), .int ((upd f 0 x) 16), .int ((upd f 0 x) 17), .int ((upd f 0 x) 18), .ref az, .ref aq, .ref an, .int ((upd f 0 x) 22), .int ((upd f 0 x) 23), .int ((upd f 0 x) 24), .int ((upd f 0 x) 25), .int ((upd f 0 x) 26)]))] (va_A [(x0, .inr (5, [.int (f 0), .int (f 1), .int (f 2), .int (f 3), .ref aw, .ref ao, .int (f 6), .ref ac, .int (f 8), .int (f 9), .int (f 10), .int (f 11), .int (f 12), .int (f 13), .int (f 14), .int (f 15), .int (f 16), .int (f 17), .int (f 18), .ref az, .ref aq, .ref an, .int (f 22), .int (f 23), .int (f 24), .int (f 25), .int (f 26)]))] sz)) 0 0 (va_A [(x0, .inr (5, [.int (f 0), .int (f 1), .int (f 2), .int (f 3), .ref aw, .ref ao, .int (f 6), .ref ac, .int (f 8), .int (f 9), .int (f 10), .int (f 11), .int (f 12), .int (f 13), .int (f 14), .int (f 15), .int (f 16), .int (f 17), .int (f 18), .ref az, .ref aq, .ref an, .int (f 22), .int (f 23), .int (f 24), .int (f 25), .int (f 26)]))] sz) := by
  refine Met.ofW (cc := cD_fail) (maxL := 2) (ret := (some .int)) (by decide) rfl ?_
  intro p e s m args below meth c s₁ B hml hv
  obtain ⟨rfl, hsz, hP, hK, hD0, hG⟩ := hv
  have hx := B.exec
  have hb := B.bytes
  have hr := B.returns
  have hA := sp_hA (atoms_spec (ws := (.code yD_fail cD_fail 2 (some .int) :: wA)) B.pre)
  have hown : s.vm.findClass rD = some m.cls := findClass_of_methodNamed B.named
  have hlocks := B.notSynchronized
  subst hsz
  have hD := hD0.self (sz := s.heap.size)
  generalize hAe : va_A [(x0, .inr (5, [.int (f 0), .int (f 1), .int (f 2), .int (f 3), .ref aw, .ref ao, .int (f 6), .ref ac, .int (f 8), .int (f 9), .int (f 10), .int (f 11), .int (f 12), .int (f 13), .int (f 14), .int (f 15), .int (f 16), .int (f 17), .int (f 18), .ref az, .ref aq, .ref an, .int (f 22), .int (f 23), .int (f 24), .int (f 25), .int (f 26)]))] s.heap.size = A at hD ⊢
  have hF : ∀ q : Nat, s.heap.size ≤ q → A q := fun q h => by rw [← hAe]; exact Or.inr h
  have hS : va_S A s.heap s.heap [] := va_S.rf
  have hl := lv_entry ([.ref x0, .int x]) (n := 2) (Nat.le_of_ble_eq_true rfl)
  rw [lg_entry_eq]
  generalize (lg_sl ([.ref x0, .int x]) ++ List.replicate (2 - (lg_sl ([.ref x0, .int x])).length) Slot.unset).toArray = ls at hl ⊢
  have hl : lv_has ls 2 [(0, .ref x0), (1, .int x)] := hl
  refine lv_aload_n hx hb dD_fail_0 rfl (lv_at hl 0 rfl) ?_
  refine lv_iload_n hx hb dD_fail_1 rfl (lv_at hl 1 rfl) ?_
  refine va_put (D := (dC, dI)) (ci := 5) (v := .int x) (ty := .int) (C := rD) (T := tD) (N := 27) hx hb hA inD tyD tyD_ok nmD hown hK hP hD hS 0 rfl rfl 0 (by decide) (hA _ wi_488) (fun _ h9 => h9) rfl (by decide +kernel) rfl rfl (Nat.le_of_ble_eq_true rfl) dD_fail_2 (fun H locs hP hD hS => ?_)
  have hP : va_P (dC, dI) vwCl [(x0, .inr (5, [.int x, .int (f 1), .int (f 2), .int (f 3), .ref aw, .ref ao, .int (f 6), .ref ac, .int (f 8), .int (f 9), .int (f 10), .int (f 11), .int (f 12), .int (f 13), .int (f 14), .int (f 15), .int (f 16), .int (f 17), .int (f 18), .ref az, .ref aq, .ref an, .int (f 22), .int (f 23), .int (f 24), .int (f 25), .int (f 26)]))] H := hP
  have hD : va_D A [(x0, .inr (5, [.int x, .int (f 1), .int (f 2), .int (f 3), .ref aw, .ref ao, .int (f 6), .ref ac, .int (f 8), .int (f 9), .int (f 10), .int (f 11), .int (f 12), .int (f 13), .int (f 14), .int (f 15), .int (f 16), .int (f 17), .int (f 18), .ref az, .ref aq, .ref an, .int (f 22), .int (f 23), .int (f 24), .int (f 25), .int (f 26)]))] := hD
  refine lv_iconst (v := 0) hx hb dD_fail_5 (by decide) ?_
  have hPe : va_P (dC, dI) vwCl [(x0, .inr (5, [.int ((upd f 0 x) 0), .int ((upd f 0 x) 1), .int ((upd f 0 x) 2), .int ((upd f 0 x) 3), .ref aw, .ref ao, .int ((upd f 0 x) 6), .ref ac, .int ((upd f 0 x) 8), .int ((upd f 0 x) 9), .int ((upd f 0 x) 10), .int ((upd f 0 x) 11), .int ((upd f 0 x) 12), .int ((upd f 0 x) 13), .int ((upd f 0 x) 14), .int ((upd f 0 x) 15), .int ((upd f 0 x) 16), .int ((upd f 0 x) 17), .int ((upd f 0 x) 18), .ref az, .ref aq, .ref an, .int ((upd f 0 x) 22), .int ((upd f 0 x) 23), .int ((upd f 0 x) 24), .int ((upd f 0 x) 25), .int ((upd f 0 x) 26)]))] H := by exact hP
  have hDe : va_D A [(x0, .inr (5, [.int ((upd f 0 x) 0), .int ((upd f 0 x) 1), .int ((upd f 0 x) 2), .int ((upd f 0 x) 3), .ref aw, .ref ao, .int ((upd f 0 x) 6), .ref ac, .int ((upd f 0 x) 8), .int ((upd f 0 x) 9), .int ((upd f 0 x) 10), .int ((upd f 0 x) 11), .int ((upd f 0 x) 12), .int ((upd f 0 x) 13), .int ((upd f 0 x) 14), .int ((upd f 0 x) 15), .int ((upd f 0 x) 16), .int ((upd f 0 x) 17), .int ((upd f 0 x) 18), .ref az, .ref aq, .ref an, .int ((upd f 0 x) 22), .int ((upd f 0 x) 23), .int ((upd f 0 x) 24), .int ((upd f 0 x) 25), .int ((upd f 0 x) 26)]))] := sp_Dc hD rfl
  exact W.iret hx hb hr (sp_eWi (rfl) hPe hDe hS) hS.2.2 dD_fail_6
set_option maxHeartbeats 4000000 in
set_option maxRecDepth 100000 in
theorem kD_within (l : Launch) (dC : Nat → ClassId) (dI : Nat → Nat → Nat) (cI cQ : ClassId) (v lo hi : Int32)  : Met l yD_within (.code yD_within cD_within 3 (some .boolean) :: wA) ({ frames := 0, cells := 0, slots := 0, locals := 0 }) (sp_R (dC, dI) (kT cI cQ) [.int v, .int lo, .int hi] []) (sp_QRi (md_in v lo hi)) 0 0 (fun _ => False) := by
  refine Met.ofW (cc := cD_within) (maxL := 3) (ret := (some .boolean)) (by decide) rfl ?_
  intro p e s m args below meth c s₁ B hml hv
  obtain ⟨rfl, hP, hK, hG⟩ := hv
  have hx := B.exec
  have hb := B.bytes
  have hr := B.returns
  have hA := sp_hA (atoms_spec (ws := (.code yD_within cD_within 3 (some .boolean) :: wA)) B.pre)
  have hown : s.vm.findClass rD = some m.cls := findClass_of_methodNamed B.named
  have hlocks := B.notSynchronized
  have hS : va_S (fun _ => False) s.heap s.heap [] := va_S.rf
  have hl := lv_entry ([.int v, .int lo, .int hi]) (n := 3) (Nat.le_of_ble_eq_true rfl)
  rw [lg_entry_eq]
  generalize (lg_sl ([.int v, .int lo, .int hi]) ++ List.replicate (3 - (lg_sl ([.int v, .int lo, .int hi])).length) Slot.unset).toArray = ls at hl ⊢
  have hl : lv_has ls 3 [(0, .int v), (1, .int lo), (2, .int hi)] := hl
  refine lv_iload_n hx hb dD_within_0 rfl (lv_at hl 0 rfl) ?_
  refine lv_iload_n hx hb dD_within_1 rfl (lv_at hl 1 rfl) ?_
  refine lv_icmp_lt (tgt := 14) hx hb dD_within_2 (by decide) (fun c_2 => ?_) (fun c_2 => ?_)
  · refine lv_iconst (v := 0) hx hb dD_within_14 (by decide) ?_
    exact W.zret hx hb hr rfl (sp_eRi (by simp [md_in, c_2]) hS) hS.2.2 dD_within_15
  · refine lv_iload_n hx hb dD_within_5 rfl (lv_at hl 0 rfl) ?_
    refine lv_iload_n hx hb dD_within_6 rfl (lv_at hl 2 rfl) ?_
    refine lv_icmp_gt (tgt := 14) hx hb dD_within_7 (by decide) (fun c_7 => ?_) (fun c_7 => ?_)
    · refine lv_iconst (v := 0) hx hb dD_within_14 (by decide) ?_
      exact W.zret hx hb hr rfl (sp_eRi (by simp [md_in, c_2, c_7]) hS) hS.2.2 dD_within_15
    · refine lv_iconst (v := 1) hx hb dD_within_10 (by decide) ?_
      refine lv_goto (tgt := 15) hx hb dD_within_11 (by decide) ?_
      exact W.zret hx hb hr rfl (sp_eRi (by simp [md_in, c_2, c_7]) hS) hS.2.2 dD_within_15
set_option maxHeartbeats 4000000 in
set_option maxRecDepth 100000 in
theorem kD_byteOf (l : Launch) (dC : Nat → ClassId) (dI : Nat → Nat → Nat) (cI cQ : ClassId) (x0 aw ao ac az aq an : Nat) (f : Nat → Int32) (Wd : Nat → Int32) (k b : Int32) (hki : vp_in k 48) : Met l yD_byteOf (.code yD_byteOf cD_byteOf 3 (some .int) :: wA) ({ frames := 0, cells := 0, slots := 0, locals := 0 }) (sp_R (dC, dI) (kT cI cQ) [.ref x0, .int k, .int b] [(x0, .inr (5, [.int (f 0), .int (f 1), .int (f 2), .int (f 3), .ref aw, .ref ao, .int (f 6), .ref ac, .int (f 8), .int (f 9), .int (f 10), .int (f 11), .int (f 12), .int (f 13), .int (f 14), .int (f 15), .int (f 16), .int (f 17), .int (f 18), .ref az, .ref aq, .ref an, .int (f 22), .int (f 23), .int (f 24), .int (f 25), .int (f 26)])), (aw, .inl (cI, 48, .inl Wd))]) (sp_QRi (md_byte Wd k b)) 0 0 (fun _ => False) := by
  refine Met.ofW (cc := cD_byteOf) (maxL := 3) (ret := (some .int)) (by decide) rfl ?_
  intro p e s m args below meth c s₁ B hml hv
  obtain ⟨rfl, hP, hK, hG⟩ := hv
  have hx := B.exec
  have hb := B.bytes
  have hr := B.returns
  have hA := sp_hA (atoms_spec (ws := (.code yD_byteOf cD_byteOf 3 (some .int) :: wA)) B.pre)
  have hown : s.vm.findClass rD = some m.cls := findClass_of_methodNamed B.named
  have hlocks := B.notSynchronized
  have hS : va_S (fun _ => False) s.heap s.heap [] := va_S.rf
  have hl := lv_entry ([.ref x0, .int k, .int b]) (n := 3) (Nat.le_of_ble_eq_true rfl)
  rw [lg_entry_eq]
  generalize (lg_sl ([.ref x0, .int k, .int b]) ++ List.replicate (3 - (lg_sl ([.ref x0, .int k, .int b])).length) Slot.unset).toArray = ls at hl ⊢
  have hl : lv_has ls 3 [(0, .ref x0), (1, .int k), (2, .int b)] := hl
  refine lv_aload_n hx hb dD_byteOf_0 rfl (lv_at hl 0 rfl) ?_
  refine va_get (D := (dC, dI)) (ci := 5) (C := rD) (T := tD) (N := 27) hx hb hA inD hown hK hP 0 rfl rfl 4 (by decide) (hA _ wi_492) (fun _ h9 => h9) rfl dD_byteOf_1 ?_
  refine lv_iload_n hx hb dD_byteOf_4 rfl (lv_at hl 1 rfl) ?_
  refine va_iald hx hb hK hP 1 0 rfl rfl hki dD_byteOf_5 ?_
  refine lv_bipush (v := 24) hx hb dD_byteOf_6 (by decide) ?_
  refine lv_bipush (v := 8) hx hb dD_byteOf_8 (by decide) ?_
  refine lv_iload_n hx hb dD_byteOf_10 rfl (lv_at hl 2 rfl) ?_
  refine lv_imul hx hb dD_byteOf_11 ?_
  refine lv_isub hx hb dD_byteOf_12 ?_
  refine lv_iushr hx hb dD_byteOf_13 rfl ?_
  refine lv_sipush (v := 255) hx hb dD_byteOf_14 (by decide) ?_
  refine lv_iand hx hb dD_byteOf_17 ?_
  exact W.iret hx hb hr (sp_eRi (rfl) hS) hS.2.2 dD_byteOf_18
set_option maxHeartbeats 4000000 in
set_option maxRecDepth 100000 in
theorem kD_lowerTo (l : Launch) (dC : Nat → ClassId) (dI : Nat → Nat → Nat) (cI cQ : ClassId) (x0 aw ao ac az aq an : Nat) (f : Nat → Int32) (Wd : Nat → Int32) (hki : vp_in (f 14) 48) : Met l yD_lowerTo (.code yD_lowerTo cD_lowerTo 3 (some .int) :: wA) ({ frames := 1, cells := 0, slots := 0, locals := 22 }) (sp_R (dC, dI) (kT cI cQ) [.ref x0] [(x0, .inr (5, [.int (f 0), .int (f 1), .int (f 2), .int (f 3), .ref aw, .ref ao, .int (f 6), .ref ac, .int (f 8), .int (f 9), .int (f 10), .int (f 11), .int (f 12), .int (f 13), .int (f 14), .int (f 15), .int (f 16), .int (f 17), .int (f 18), .ref az, .ref aq, .ref an, .int (f 22), .int (f 23), .int (f 24), .int (f 25), .int (f 26)])), (aw, .inl (cI, 48, .inl Wd))]) (sp_QRi (md_to f Wd)) 0 0 (fun _ => False) := by
  refine Met.ofW (cc := cD_lowerTo) (maxL := 3) (ret := (some .int)) (by decide) rfl ?_
  intro p e s m args below meth c s₁ B hml hv
  obtain ⟨rfl, hP, hK, hG⟩ := hv
  have hx := B.exec
  have hb := B.bytes
  have hr := B.returns
  have hA := sp_hA (atoms_spec (ws := (.code yD_lowerTo cD_lowerTo 3 (some .int) :: wA)) B.pre)
  have hown : s.vm.findClass rD = some m.cls := findClass_of_methodNamed B.named
  have hlocks := B.notSynchronized
  have hS : va_S (fun _ => False) s.heap s.heap [] := va_S.rf
  have hl := lv_entry ([.ref x0]) (n := 3) (Nat.le_of_ble_eq_true rfl)
  rw [lg_entry_eq]
  generalize (lg_sl ([.ref x0]) ++ List.replicate (3 - (lg_sl ([.ref x0])).length) Slot.unset).toArray = ls at hl ⊢
  have hl : lv_has ls 3 [(0, .ref x0)] := hl
  refine lv_aload_n hx hb dD_lowerTo_0 rfl (lv_at hl 0 rfl) ?_
  refine lv_aload_n hx hb dD_lowerTo_1 rfl (lv_at hl 0 rfl) ?_
  refine va_get (D := (dC, dI)) (ci := 5) (C := rD) (T := tD) (N := 27) hx hb hA inD hown hK hP 0 rfl rfl 14 (by decide) (hA _ wi_502) (fun _ h9 => h9) rfl dD_lowerTo_2 ?_
  refine lv_aload_n hx hb dD_lowerTo_5 rfl (lv_at hl 0 rfl) ?_
  refine va_get (D := (dC, dI)) (ci := 5) (C := rD) (T := tD) (N := 27) hx hb hA inD hown hK hP 0 rfl rfl 15 (by decide) (hA _ wi_503) (fun _ h9 => h9) rfl dD_lowerTo_6 ?_
  refine va_calli (va_runV (As := [.int (f 14), .int (f 15)]) (rest := []) ⟨hx, hb, hml, hown, hA⟩ (kD_byteOf l dC dI cI cQ x0 aw ao ac az aq an f Wd (f 14) (f 15) hki) (cwV 2 hA (gd_V wi_625 wi_626 wi_692 wi_6 wi_627) rfl rfl rfl (by decide +kernel) ⟨Nat.le_of_ble_eq_true rfl, Nat.le_of_ble_eq_true rfl⟩) ⟨sp_Rb, va_recv hK hP (ci := 5) (q0 := 0) rfl rfl, sp_Ro (hP.sub [0, 1] rfl) hK hG⟩ rfl rfl hl.1 rfl (lv_room (Nat.le_of_ble_eq_true rfl)) dD_lowerTo_9 ⟨Nat.le_of_ble_eq_true rfl, Nat.le_of_ble_eq_true rfl⟩) hS (fun _ _ h => h.elim) (fun _ h => h.elim) (fun r_9 u_9 t H locs ht hvm hw hB hz1 hk1 hS => ?_)
  rw [hw]
  have hP := sp_kp hP hk1
  refine lv_istore_n (lv' := [(1, .int (md_byte Wd (f 14) (f 15))), (0, .ref x0)]) hx hb dD_lowerTo_12 rfl hl (by decide) rfl (fun ls hl => ?_)
  refine lv_aload_n hx hb dD_lowerTo_13 rfl (lv_at hl 1 rfl) ?_
  refine va_get (D := (dC, dI)) (ci := 5) (C := rD) (T := tD) (N := 27) hx hb hA inD hown hK hP 0 rfl rfl 16 (by decide) (hA _ wi_504) (fun _ h9 => h9) rfl dD_lowerTo_14 ?_
  refine lv_if_ne (tgt := 32) hx hb dD_lowerTo_17 (by decide) (fun c_17 => ?_) (fun c_17 => ?_)
  · refine lv_aload_n hx hb dD_lowerTo_32 rfl (lv_at hl 1 rfl) ?_
    refine va_get (D := (dC, dI)) (ci := 5) (C := rD) (T := tD) (N := 27) hx hb hA inD hown hK hP 0 rfl rfl 16 (by decide) (hA _ wi_504) (fun _ h9 => h9) rfl dD_lowerTo_33 ?_
    refine lv_iconst (v := 1) hx hb dD_lowerTo_36 (by decide) ?_
    refine lv_icmp_ne (tgt := 46) hx hb dD_lowerTo_37 (by decide) (fun c_37 => ?_) (fun c_37 => ?_)
    · refine lv_iload_n hx hb dD_lowerTo_46 rfl (lv_at hl 0 rfl) ?_
      refine lv_iconst (v := 1) hx hb dD_lowerTo_47 (by decide) ?_
      refine lv_isub hx hb dD_lowerTo_48 ?_
      refine lv_istore_n (lv' := [(2, .int ((md_byte Wd (f 14) (f 15)) - 1)), (1, .int (md_byte Wd (f 14) (f 15))), (0, .ref x0)]) hx hb dD_lowerTo_49 rfl hl (by decide) rfl (fun ls hl => ?_)
      refine lv_aload_n hx hb dD_lowerTo_50 rfl (lv_at hl 2 rfl) ?_
      refine va_get (D := (dC, dI)) (ci := 5) (C := rD) (T := tD) (N := 27) hx hb hA inD hown hK hP 0 rfl rfl 16 (by decide) (hA _ wi_504) (fun _ h9 => h9) rfl dD_lowerTo_51 ?_
      refine lv_if_eq (tgt := 61) hx hb dD_lowerTo_54 (by decide) (fun c_54 => ?_) (fun c_54 => ?_)
      · exact absurd c_54 c_17
      · refine lv_iload_n hx hb dD_lowerTo_57 rfl (lv_at hl 0 rfl) ?_
        refine lv_if_le (tgt := 65) hx hb dD_lowerTo_58 (by decide) (fun c_58 => ?_) (fun c_58 => ?_)
        · refine lv_iconst (v := (-1)) hx hb dD_lowerTo_65 (by decide) ?_
          exact W.iret hx hb hr (sp_eRi (by simp [md_to, md_to0, c_17, c_37, c_54, c_58]) hS) hS.2.2 dD_lowerTo_66
        · refine lv_iload_n hx hb dD_lowerTo_61 rfl (lv_at hl 0 rfl) ?_
          refine lv_goto (tgt := 66) hx hb dD_lowerTo_62 (by decide) ?_
          exact W.iret hx hb hr (sp_eRi (by simp [md_to, md_to0, c_17, c_37, c_54, c_58]) hS) hS.2.2 dD_lowerTo_66
    · refine lv_iload_n hx hb dD_lowerTo_40 rfl (lv_at hl 0 rfl) ?_
      refine lv_iconst (v := 2) hx hb dD_lowerTo_41 (by decide) ?_
      refine lv_idiv hx hb dD_lowerTo_42 (by decide) ?_
      refine lv_goto (tgt := 49) hx hb dD_lowerTo_43 (by decide) ?_
      refine lv_istore_n (lv' := [(2, .int ((md_byte Wd (f 14) (f 15)) / 2)), (1, .int (md_byte Wd (f 14) (f 15))), (0, .ref x0)]) hx hb dD_lowerTo_49 rfl hl (by decide) rfl (fun ls hl => ?_)
      refine lv_aload_n hx hb dD_lowerTo_50 rfl (lv_at hl 2 rfl) ?_
      refine va_get (D := (dC, dI)) (ci := 5) (C := rD) (T := tD) (N := 27) hx hb hA inD hown hK hP 0 rfl rfl 16 (by decide) (hA _ wi_504) (fun _ h9 => h9) rfl dD_lowerTo_51 ?_
      refine lv_if_eq (tgt := 61) hx hb dD_lowerTo_54 (by decide) (fun c_54 => ?_) (fun c_54 => ?_)
      · exact absurd c_54 c_17
      · refine lv_iload_n hx hb dD_lowerTo_57 rfl (lv_at hl 0 rfl) ?_
        refine lv_if_le (tgt := 65) hx hb dD_lowerTo_58 (by decide) (fun c_58 => ?_) (fun c_58 => ?_)
        · refine lv_iconst (v := (-1)) hx hb dD_lowerTo_65 (by decide) ?_
          exact W.iret hx hb hr (sp_eRi (by simp [md_to, md_to0, c_17, c_37, c_54, c_58]) hS) hS.2.2 dD_lowerTo_66
        · refine lv_iload_n hx hb dD_lowerTo_61 rfl (lv_at hl 0 rfl) ?_
          refine lv_goto (tgt := 66) hx hb dD_lowerTo_62 (by decide) ?_
          exact W.iret hx hb hr (sp_eRi (by simp [md_to, md_to0, c_17, c_37, c_54, c_58]) hS) hS.2.2 dD_lowerTo_66
  · refine lv_iload_n hx hb dD_lowerTo_20 rfl (lv_at hl 0 rfl) ?_
    refine lv_if_ne (tgt := 28) hx hb dD_lowerTo_21 (by decide) (fun c_21 => ?_) (fun c_21 => ?_)
    · refine lv_iconst (v := 0) hx hb dD_lowerTo_28 (by decide) ?_
      refine lv_goto (tgt := 49) hx hb dD_lowerTo_29 (by decide) ?_
      refine lv_istore_n (lv' := [(2, .int 0), (1, .int (md_byte Wd (f 14) (f 15))), (0, .ref x0)]) hx hb dD_lowerTo_49 rfl hl (by decide) rfl (fun ls hl => ?_)
      refine lv_aload_n hx hb dD_lowerTo_50 rfl (lv_at hl 2 rfl) ?_
      refine va_get (D := (dC, dI)) (ci := 5) (C := rD) (T := tD) (N := 27) hx hb hA inD hown hK hP 0 rfl rfl 16 (by decide) (hA _ wi_504) (fun _ h9 => h9) rfl dD_lowerTo_51 ?_
      refine lv_if_eq (tgt := 61) hx hb dD_lowerTo_54 (by decide) (fun c_54 => ?_) (fun c_54 => ?_)
      · refine lv_iload_n hx hb dD_lowerTo_61 rfl (lv_at hl 0 rfl) ?_
        refine lv_goto (tgt := 66) hx hb dD_lowerTo_62 (by decide) ?_
        exact W.iret hx hb hr (sp_eRi (by simp [md_to, md_to0, c_17, c_21, c_54]) hS) hS.2.2 dD_lowerTo_66
      · exact absurd c_17 c_54
    · refine lv_iconst (v := (-1)) hx hb dD_lowerTo_24 (by decide) ?_
      refine lv_goto (tgt := 49) hx hb dD_lowerTo_25 (by decide) ?_
      refine lv_istore_n (lv' := [(2, .int (-1)), (1, .int (md_byte Wd (f 14) (f 15))), (0, .ref x0)]) hx hb dD_lowerTo_49 rfl hl (by decide) rfl (fun ls hl => ?_)
      refine lv_aload_n hx hb dD_lowerTo_50 rfl (lv_at hl 2 rfl) ?_
      refine va_get (D := (dC, dI)) (ci := 5) (C := rD) (T := tD) (N := 27) hx hb hA inD hown hK hP 0 rfl rfl 16 (by decide) (hA _ wi_504) (fun _ h9 => h9) rfl dD_lowerTo_51 ?_
      refine lv_if_eq (tgt := 61) hx hb dD_lowerTo_54 (by decide) (fun c_54 => ?_) (fun c_54 => ?_)
      · refine lv_iload_n hx hb dD_lowerTo_61 rfl (lv_at hl 0 rfl) ?_
        refine lv_goto (tgt := 66) hx hb dD_lowerTo_62 (by decide) ?_
        exact W.iret hx hb hr (sp_eRi (by simp [md_to, md_to0, c_17, c_21, c_54]) hS) hS.2.2 dD_lowerTo_66
      · exact absurd c_17 c_54
set_option maxHeartbeats 4000000 in
set_option maxRecDepth 100000 in
theorem kD_bl (l : Launch) (dC : Nat → ClassId) (dI : Nat → Nat → Nat) (cI cQ : ClassId) (x0 aw ao ac az aq an : Nat) (f : Nat → Int32) (x : Int32) (sz : Nat)  : Met l yD_beginLeaving (.code yD_beginLeaving cD_beginLeaving 2 none :: wA) ({ frames := 0, cells := 0, slots := 0, locals := 0 }) (sp_P (dC, dI) (kT cI cQ) [.ref x0, .int x] [(x0, .inr (5, [.int (f 0), .int (f 1), .int (f 2), .int (f 3), .ref aw, .ref ao, .int (f 6), .ref ac, .int (f 8), .int (f 9), .int (f 10), .int (f 11), .int (f 12), .int (f 13), .int (f 14), .int (f 15), .int (f 16), .int (f 17), .int (f 18), .ref az, .ref aq, .ref an, .int (f 22), .int (f 23), .int (f 24), .int (f 25), .int (f 26)]))] sz) (sp_QWv (dC, dI) [(x0, .inr (5, [.int ((md_bl f x) 0), .int ((md_bl f x) 1), .int ((md_bl f x) 2), .int ((md_bl f x) 3), .ref aw, .ref ao, .int ((md_bl f x) 6), .ref ac, .int ((md_bl f x) 8), .int ((md_bl f x) 9), .int ((md_bl f x) 10), .int ((md_bl f x) 11), .int ((md_bl f x) 12), .int ((md_bl f x) 13), .int ((md_bl f x) 14), .int ((md_bl f x) 15), .int ((md_bl f x) 16), .int ((md_bl f x) 17), .int ((md_bl f x) 18), .ref az, .ref aq, .ref an, .int ((md_bl f x) 22), .int ((md_bl f x) 23), .int ((md_bl f x) 24), .int ((md_bl f x) 25), .int ((md_bl f x) 26)]))] (va_A [(x0, .inr (5, [.int (f 0), .int (f 1), .int (f 2), .int (f 3), .ref aw, .ref ao, .int (f 6), .ref ac, .int (f 8), .int (f 9), .int (f 10), .int (f 11), .int (f 12), .int (f 13), .int (f 14), .int (f 15), .int (f 16), .int (f 17), .int (f 18), .ref az, .ref aq, .ref an, .int (f 22), .int (f 23), .int (f 24), .int (f 25), .int (f 26)]))] sz)) 0 0 (va_A [(x0, .inr (5, [.int (f 0), .int (f 1), .int (f 2), .int (f 3), .ref aw, .ref ao, .int (f 6), .ref ac, .int (f 8), .int (f 9), .int (f 10), .int (f 11), .int (f 12), .int (f 13), .int (f 14), .int (f 15), .int (f 16), .int (f 17), .int (f 18), .ref az, .ref aq, .ref an, .int (f 22), .int (f 23), .int (f 24), .int (f 25), .int (f 26)]))] sz) := by
  refine Met.ofW (cc := cD_beginLeaving) (maxL := 2) (ret := none) (by decide) rfl ?_
  intro p e s m args below meth c s₁ B hml hv
  obtain ⟨rfl, hsz, hP, hK, hD0, hG⟩ := hv
  have hx := B.exec
  have hb := B.bytes
  have hr := B.returns
  have hA := sp_hA (atoms_spec (ws := (.code yD_beginLeaving cD_beginLeaving 2 none :: wA)) B.pre)
  have hown : s.vm.findClass rD = some m.cls := findClass_of_methodNamed B.named
  have hlocks := B.notSynchronized
  subst hsz
  have hD := hD0.self (sz := s.heap.size)
  generalize hAe : va_A [(x0, .inr (5, [.int (f 0), .int (f 1), .int (f 2), .int (f 3), .ref aw, .ref ao, .int (f 6), .ref ac, .int (f 8), .int (f 9), .int (f 10), .int (f 11), .int (f 12), .int (f 13), .int (f 14), .int (f 15), .int (f 16), .int (f 17), .int (f 18), .ref az, .ref aq, .ref an, .int (f 22), .int (f 23), .int (f 24), .int (f 25), .int (f 26)]))] s.heap.size = A at hD ⊢
  have hF : ∀ q : Nat, s.heap.size ≤ q → A q := fun q h => by rw [← hAe]; exact Or.inr h
  have hS : va_S A s.heap s.heap [] := va_S.rf
  have hl := lv_entry ([.ref x0, .int x]) (n := 2) (Nat.le_of_ble_eq_true rfl)
  rw [lg_entry_eq]
  generalize (lg_sl ([.ref x0, .int x]) ++ List.replicate (2 - (lg_sl ([.ref x0, .int x])).length) Slot.unset).toArray = ls at hl ⊢
  have hl : lv_has ls 2 [(0, .ref x0), (1, .int x)] := hl
  refine lv_aload_n hx hb dD_beginLeaving_0 rfl (lv_at hl 0 rfl) ?_
  refine lv_iconst (v := 0) hx hb dD_beginLeaving_1 (by decide) ?_
  refine va_put (D := (dC, dI)) (ci := 5) (v := .int 0) (ty := .boolean) (C := rD) (T := tD) (N := 27) hx hb hA inD tyD tyD_ok nmD hown hK hP hD hS 0 rfl rfl 9 (by decide) (hA _ wi_497) (fun _ h9 => h9) rfl (by decide +kernel) rfl rfl (Nat.le_of_ble_eq_true rfl) dD_beginLeaving_2 (fun H locs hP hD hS => ?_)
  have hP : va_P (dC, dI) vwCl [(x0, .inr (5, [.int (f 0), .int (f 1), .int (f 2), .int (f 3), .ref aw, .ref ao, .int (f 6), .ref ac, .int (f 8), .int 0, .int (f 10), .int (f 11), .int (f 12), .int (f 13), .int (f 14), .int (f 15), .int (f 16), .int (f 17), .int (f 18), .ref az, .ref aq, .ref an, .int (f 22), .int (f 23), .int (f 24), .int (f 25), .int (f 26)]))] H := hP
  have hD : va_D A [(x0, .inr (5, [.int (f 0), .int (f 1), .int (f 2), .int (f 3), .ref aw, .ref ao, .int (f 6), .ref ac, .int (f 8), .int 0, .int (f 10), .int (f 11), .int (f 12), .int (f 13), .int (f 14), .int (f 15), .int (f 16), .int (f 17), .int (f 18), .ref az, .ref aq, .ref an, .int (f 22), .int (f 23), .int (f 24), .int (f 25), .int (f 26)]))] := hD
  refine lv_aload_n hx hb dD_beginLeaving_5 rfl (lv_at hl 0 rfl) ?_
  refine lv_iload_n hx hb dD_beginLeaving_6 rfl (lv_at hl 1 rfl) ?_
  refine va_put (D := (dC, dI)) (ci := 5) (v := .int x) (ty := .int) (C := rD) (T := tD) (N := 27) hx hb hA inD tyD tyD_ok nmD hown hK hP hD hS 0 rfl rfl 12 (by decide) (hA _ wi_500) (fun _ h9 => h9) rfl (by decide +kernel) rfl rfl (Nat.le_of_ble_eq_true rfl) dD_beginLeaving_7 (fun H locs hP hD hS => ?_)
  have hP : va_P (dC, dI) vwCl [(x0, .inr (5, [.int (f 0), .int (f 1), .int (f 2), .int (f 3), .ref aw, .ref ao, .int (f 6), .ref ac, .int (f 8), .int 0, .int (f 10), .int (f 11), .int x, .int (f 13), .int (f 14), .int (f 15), .int (f 16), .int (f 17), .int (f 18), .ref az, .ref aq, .ref an, .int (f 22), .int (f 23), .int (f 24), .int (f 25), .int (f 26)]))] H := hP
  have hD : va_D A [(x0, .inr (5, [.int (f 0), .int (f 1), .int (f 2), .int (f 3), .ref aw, .ref ao, .int (f 6), .ref ac, .int (f 8), .int 0, .int (f 10), .int (f 11), .int x, .int (f 13), .int (f 14), .int (f 15), .int (f 16), .int (f 17), .int (f 18), .ref az, .ref aq, .ref an, .int (f 22), .int (f 23), .int (f 24), .int (f 25), .int (f 26)]))] := hD
  refine lv_aload_n hx hb dD_beginLeaving_10 rfl (lv_at hl 0 rfl) ?_
  refine lv_iconst (v := 0) hx hb dD_beginLeaving_11 (by decide) ?_
  refine va_put (D := (dC, dI)) (ci := 5) (v := .int 0) (ty := .int) (C := rD) (T := tD) (N := 27) hx hb hA inD tyD tyD_ok nmD hown hK hP hD hS 0 rfl rfl 13 (by decide) (hA _ wi_501) (fun _ h9 => h9) rfl (by decide +kernel) rfl rfl (Nat.le_of_ble_eq_true rfl) dD_beginLeaving_12 (fun H locs hP hD hS => ?_)
  have hP : va_P (dC, dI) vwCl [(x0, .inr (5, [.int (f 0), .int (f 1), .int (f 2), .int (f 3), .ref aw, .ref ao, .int (f 6), .ref ac, .int (f 8), .int 0, .int (f 10), .int (f 11), .int x, .int 0, .int (f 14), .int (f 15), .int (f 16), .int (f 17), .int (f 18), .ref az, .ref aq, .ref an, .int (f 22), .int (f 23), .int (f 24), .int (f 25), .int (f 26)]))] H := hP
  have hD : va_D A [(x0, .inr (5, [.int (f 0), .int (f 1), .int (f 2), .int (f 3), .ref aw, .ref ao, .int (f 6), .ref ac, .int (f 8), .int 0, .int (f 10), .int (f 11), .int x, .int 0, .int (f 14), .int (f 15), .int (f 16), .int (f 17), .int (f 18), .ref az, .ref aq, .ref an, .int (f 22), .int (f 23), .int (f 24), .int (f 25), .int (f 26)]))] := hD
  refine lv_aload_n hx hb dD_beginLeaving_15 rfl (lv_at hl 0 rfl) ?_
  refine lv_iconst (v := 0) hx hb dD_beginLeaving_16 (by decide) ?_
  refine va_put (D := (dC, dI)) (ci := 5) (v := .int 0) (ty := .boolean) (C := rD) (T := tD) (N := 27) hx hb hA inD tyD tyD_ok nmD hown hK hP hD hS 0 rfl rfl 10 (by decide) (hA _ wi_498) (fun _ h9 => h9) rfl (by decide +kernel) rfl rfl (Nat.le_of_ble_eq_true rfl) dD_beginLeaving_17 (fun H locs hP hD hS => ?_)
  have hP : va_P (dC, dI) vwCl [(x0, .inr (5, [.int (f 0), .int (f 1), .int (f 2), .int (f 3), .ref aw, .ref ao, .int (f 6), .ref ac, .int (f 8), .int 0, .int 0, .int (f 11), .int x, .int 0, .int (f 14), .int (f 15), .int (f 16), .int (f 17), .int (f 18), .ref az, .ref aq, .ref an, .int (f 22), .int (f 23), .int (f 24), .int (f 25), .int (f 26)]))] H := hP
  have hD : va_D A [(x0, .inr (5, [.int (f 0), .int (f 1), .int (f 2), .int (f 3), .ref aw, .ref ao, .int (f 6), .ref ac, .int (f 8), .int 0, .int 0, .int (f 11), .int x, .int 0, .int (f 14), .int (f 15), .int (f 16), .int (f 17), .int (f 18), .ref az, .ref aq, .ref an, .int (f 22), .int (f 23), .int (f 24), .int (f 25), .int (f 26)]))] := hD
  refine lv_aload_n hx hb dD_beginLeaving_20 rfl (lv_at hl 0 rfl) ?_
  refine lv_dup hx hb dD_beginLeaving_21 rfl ?_
  refine va_get (D := (dC, dI)) (ci := 5) (C := rD) (T := tD) (N := 27) hx hb hA inD hown hK hP 0 rfl rfl 26 (by decide) (hA _ wi_514) (fun _ h9 => h9) rfl dD_beginLeaving_22 ?_
  refine lv_iconst (v := 1) hx hb dD_beginLeaving_25 (by decide) ?_
  refine lv_iadd hx hb dD_beginLeaving_26 ?_
  refine va_put (D := (dC, dI)) (ci := 5) (v := .int ((f 26) + 1)) (ty := .int) (C := rD) (T := tD) (N := 27) hx hb hA inD tyD tyD_ok nmD hown hK hP hD hS 0 rfl rfl 26 (by decide) (hA _ wi_514) (fun _ h9 => h9) rfl (by decide +kernel) rfl rfl (Nat.le_of_ble_eq_true rfl) dD_beginLeaving_27 (fun H locs hP hD hS => ?_)
  have hP : va_P (dC, dI) vwCl [(x0, .inr (5, [.int (f 0), .int (f 1), .int (f 2), .int (f 3), .ref aw, .ref ao, .int (f 6), .ref ac, .int (f 8), .int 0, .int 0, .int (f 11), .int x, .int 0, .int (f 14), .int (f 15), .int (f 16), .int (f 17), .int (f 18), .ref az, .ref aq, .ref an, .int (f 22), .int (f 23), .int (f 24), .int (f 25), .int ((f 26) + 1)]))] H := hP
  have hD : va_D A [(x0, .inr (5, [.int (f 0), .int (f 1), .int (f 2), .int (f 3), .ref aw, .ref ao, .int (f 6), .ref ac, .int (f 8), .int 0, .int 0, .int (f 11), .int x, .int 0, .int (f 14), .int (f 15), .int (f 16), .int (f 17), .int (f 18), .ref az, .ref aq, .ref an, .int (f 22), .int (f 23), .int (f 24), .int (f 25), .int ((f 26) + 1)]))] := hD
  have hPe : va_P (dC, dI) vwCl [(x0, .inr (5, [.int ((md_bl f x) 0), .int ((md_bl f x) 1), .int ((md_bl f x) 2), .int ((md_bl f x) 3), .ref aw, .ref ao, .int ((md_bl f x) 6), .ref ac, .int ((md_bl f x) 8), .int ((md_bl f x) 9), .int ((md_bl f x) 10), .int ((md_bl f x) 11), .int ((md_bl f x) 12), .int ((md_bl f x) 13), .int ((md_bl f x) 14), .int ((md_bl f x) 15), .int ((md_bl f x) 16), .int ((md_bl f x) 17), .int ((md_bl f x) 18), .ref az, .ref aq, .ref an, .int ((md_bl f x) 22), .int ((md_bl f x) 23), .int ((md_bl f x) 24), .int ((md_bl f x) 25), .int ((md_bl f x) 26)]))] H := by exact hP
  have hDe : va_D A [(x0, .inr (5, [.int ((md_bl f x) 0), .int ((md_bl f x) 1), .int ((md_bl f x) 2), .int ((md_bl f x) 3), .ref aw, .ref ao, .int ((md_bl f x) 6), .ref ac, .int ((md_bl f x) 8), .int ((md_bl f x) 9), .int ((md_bl f x) 10), .int ((md_bl f x) 11), .int ((md_bl f x) 12), .int ((md_bl f x) 13), .int ((md_bl f x) 14), .int ((md_bl f x) 15), .int ((md_bl f x) 16), .int ((md_bl f x) 17), .int ((md_bl f x) 18), .ref az, .ref aq, .ref an, .int ((md_bl f x) 22), .int ((md_bl f x) 23), .int ((md_bl f x) 24), .int ((md_bl f x) 25), .int ((md_bl f x) 26)]))] := sp_Dc hD rfl
  exact W.vret hx hb hr (sp_eWv hPe hDe hS) hS.2.2 dD_beginLeaving_30
set_option maxHeartbeats 4000000 in
set_option maxRecDepth 100000 in
theorem kD_bw (l : Launch) (dC : Nat → ClassId) (dI : Nat → Nat → Nat) (cI cQ : ClassId) (x0 aw ao ac az aq an : Nat) (f : Nat → Int32) (sz : Nat)  : Met l yD_beginLowering (.code yD_beginLowering cD_beginLowering 1 none :: wA) ({ frames := 0, cells := 0, slots := 0, locals := 0 }) (sp_P (dC, dI) (kT cI cQ) [.ref x0] [(x0, .inr (5, [.int (f 0), .int (f 1), .int (f 2), .int (f 3), .ref aw, .ref ao, .int (f 6), .ref ac, .int (f 8), .int (f 9), .int (f 10), .int (f 11), .int (f 12), .int (f 13), .int (f 14), .int (f 15), .int (f 16), .int (f 17), .int (f 18), .ref az, .ref aq, .ref an, .int (f 22), .int (f 23), .int (f 24), .int (f 25), .int (f 26)]))] sz) (sp_QWv (dC, dI) [(x0, .inr (5, [.int ((md_bw f) 0), .int ((md_bw f) 1), .int ((md_bw f) 2), .int ((md_bw f) 3), .ref aw, .ref ao, .int ((md_bw f) 6), .ref ac, .int ((md_bw f) 8), .int ((md_bw f) 9), .int ((md_bw f) 10), .int ((md_bw f) 11), .int ((md_bw f) 12), .int ((md_bw f) 13), .int ((md_bw f) 14), .int ((md_bw f) 15), .int ((md_bw f) 16), .int ((md_bw f) 17), .int ((md_bw f) 18), .ref az, .ref aq, .ref an, .int ((md_bw f) 22), .int ((md_bw f) 23), .int ((md_bw f) 24), .int ((md_bw f) 25), .int ((md_bw f) 26)]))] (va_A [(x0, .inr (5, [.int (f 0), .int (f 1), .int (f 2), .int (f 3), .ref aw, .ref ao, .int (f 6), .ref ac, .int (f 8), .int (f 9), .int (f 10), .int (f 11), .int (f 12), .int (f 13), .int (f 14), .int (f 15), .int (f 16), .int (f 17), .int (f 18), .ref az, .ref aq, .ref an, .int (f 22), .int (f 23), .int (f 24), .int (f 25), .int (f 26)]))] sz)) 0 0 (va_A [(x0, .inr (5, [.int (f 0), .int (f 1), .int (f 2), .int (f 3), .ref aw, .ref ao, .int (f 6), .ref ac, .int (f 8), .int (f 9), .int (f 10), .int (f 11), .int (f 12), .int (f 13), .int (f 14), .int (f 15), .int (f 16), .int (f 17), .int (f 18), .ref az, .ref aq, .ref an, .int (f 22), .int (f 23), .int (f 24), .int (f 25), .int (f 26)]))] sz) := by
  refine Met.ofW (cc := cD_beginLowering) (maxL := 1) (ret := none) (by decide) rfl ?_
  intro p e s m args below meth c s₁ B hml hv
  obtain ⟨rfl, hsz, hP, hK, hD0, hG⟩ := hv
  have hx := B.exec
  have hb := B.bytes
  have hr := B.returns
  have hA := sp_hA (atoms_spec (ws := (.code yD_beginLowering cD_beginLowering 1 none :: wA)) B.pre)
  have hown : s.vm.findClass rD = some m.cls := findClass_of_methodNamed B.named
  have hlocks := B.notSynchronized
  subst hsz
  have hD := hD0.self (sz := s.heap.size)
  generalize hAe : va_A [(x0, .inr (5, [.int (f 0), .int (f 1), .int (f 2), .int (f 3), .ref aw, .ref ao, .int (f 6), .ref ac, .int (f 8), .int (f 9), .int (f 10), .int (f 11), .int (f 12), .int (f 13), .int (f 14), .int (f 15), .int (f 16), .int (f 17), .int (f 18), .ref az, .ref aq, .ref an, .int (f 22), .int (f 23), .int (f 24), .int (f 25), .int (f 26)]))] s.heap.size = A at hD ⊢
  have hF : ∀ q : Nat, s.heap.size ≤ q → A q := fun q h => by rw [← hAe]; exact Or.inr h
  have hS : va_S A s.heap s.heap [] := va_S.rf
  have hl := lv_entry ([.ref x0]) (n := 1) (Nat.le_of_ble_eq_true rfl)
  rw [lg_entry_eq]
  generalize (lg_sl ([.ref x0]) ++ List.replicate (1 - (lg_sl ([.ref x0])).length) Slot.unset).toArray = ls at hl ⊢
  have hl : lv_has ls 1 [(0, .ref x0)] := hl
  refine lv_aload_n hx hb dD_beginLowering_0 rfl (lv_at hl 0 rfl) ?_
  refine lv_iconst (v := 1) hx hb dD_beginLowering_1 (by decide) ?_
  refine va_put (D := (dC, dI)) (ci := 5) (v := .int 1) (ty := .boolean) (C := rD) (T := tD) (N := 27) hx hb hA inD tyD tyD_ok nmD hown hK hP hD hS 0 rfl rfl 9 (by decide) (hA _ wi_497) (fun _ h9 => h9) rfl (by decide +kernel) rfl rfl (Nat.le_of_ble_eq_true rfl) dD_beginLowering_2 (fun H locs hP hD hS => ?_)
  have hP : va_P (dC, dI) vwCl [(x0, .inr (5, [.int (f 0), .int (f 1), .int (f 2), .int (f 3), .ref aw, .ref ao, .int (f 6), .ref ac, .int (f 8), .int 1, .int (f 10), .int (f 11), .int (f 12), .int (f 13), .int (f 14), .int (f 15), .int (f 16), .int (f 17), .int (f 18), .ref az, .ref aq, .ref an, .int (f 22), .int (f 23), .int (f 24), .int (f 25), .int (f 26)]))] H := hP
  have hD : va_D A [(x0, .inr (5, [.int (f 0), .int (f 1), .int (f 2), .int (f 3), .ref aw, .ref ao, .int (f 6), .ref ac, .int (f 8), .int 1, .int (f 10), .int (f 11), .int (f 12), .int (f 13), .int (f 14), .int (f 15), .int (f 16), .int (f 17), .int (f 18), .ref az, .ref aq, .ref an, .int (f 22), .int (f 23), .int (f 24), .int (f 25), .int (f 26)]))] := hD
  refine lv_aload_n hx hb dD_beginLowering_5 rfl (lv_at hl 0 rfl) ?_
  refine lv_iconst (v := 0) hx hb dD_beginLowering_6 (by decide) ?_
  refine va_put (D := (dC, dI)) (ci := 5) (v := .int 0) (ty := .boolean) (C := rD) (T := tD) (N := 27) hx hb hA inD tyD tyD_ok nmD hown hK hP hD hS 0 rfl rfl 11 (by decide) (hA _ wi_499) (fun _ h9 => h9) rfl (by decide +kernel) rfl rfl (Nat.le_of_ble_eq_true rfl) dD_beginLowering_7 (fun H locs hP hD hS => ?_)
  have hP : va_P (dC, dI) vwCl [(x0, .inr (5, [.int (f 0), .int (f 1), .int (f 2), .int (f 3), .ref aw, .ref ao, .int (f 6), .ref ac, .int (f 8), .int 1, .int (f 10), .int 0, .int (f 12), .int (f 13), .int (f 14), .int (f 15), .int (f 16), .int (f 17), .int (f 18), .ref az, .ref aq, .ref an, .int (f 22), .int (f 23), .int (f 24), .int (f 25), .int (f 26)]))] H := hP
  have hD : va_D A [(x0, .inr (5, [.int (f 0), .int (f 1), .int (f 2), .int (f 3), .ref aw, .ref ao, .int (f 6), .ref ac, .int (f 8), .int 1, .int (f 10), .int 0, .int (f 12), .int (f 13), .int (f 14), .int (f 15), .int (f 16), .int (f 17), .int (f 18), .ref az, .ref aq, .ref an, .int (f 22), .int (f 23), .int (f 24), .int (f 25), .int (f 26)]))] := hD
  refine lv_aload_n hx hb dD_beginLowering_10 rfl (lv_at hl 0 rfl) ?_
  refine lv_iconst (v := 0) hx hb dD_beginLowering_11 (by decide) ?_
  refine va_put (D := (dC, dI)) (ci := 5) (v := .int 0) (ty := .int) (C := rD) (T := tD) (N := 27) hx hb hA inD tyD tyD_ok nmD hown hK hP hD hS 0 rfl rfl 14 (by decide) (hA _ wi_502) (fun _ h9 => h9) rfl (by decide +kernel) rfl rfl (Nat.le_of_ble_eq_true rfl) dD_beginLowering_12 (fun H locs hP hD hS => ?_)
  have hP : va_P (dC, dI) vwCl [(x0, .inr (5, [.int (f 0), .int (f 1), .int (f 2), .int (f 3), .ref aw, .ref ao, .int (f 6), .ref ac, .int (f 8), .int 1, .int (f 10), .int 0, .int (f 12), .int (f 13), .int 0, .int (f 15), .int (f 16), .int (f 17), .int (f 18), .ref az, .ref aq, .ref an, .int (f 22), .int (f 23), .int (f 24), .int (f 25), .int (f 26)]))] H := hP
  have hD : va_D A [(x0, .inr (5, [.int (f 0), .int (f 1), .int (f 2), .int (f 3), .ref aw, .ref ao, .int (f 6), .ref ac, .int (f 8), .int 1, .int (f 10), .int 0, .int (f 12), .int (f 13), .int 0, .int (f 15), .int (f 16), .int (f 17), .int (f 18), .ref az, .ref aq, .ref an, .int (f 22), .int (f 23), .int (f 24), .int (f 25), .int (f 26)]))] := hD
  refine lv_aload_n hx hb dD_beginLowering_15 rfl (lv_at hl 0 rfl) ?_
  refine lv_iconst (v := 0) hx hb dD_beginLowering_16 (by decide) ?_
  refine va_put (D := (dC, dI)) (ci := 5) (v := .int 0) (ty := .int) (C := rD) (T := tD) (N := 27) hx hb hA inD tyD tyD_ok nmD hown hK hP hD hS 0 rfl rfl 15 (by decide) (hA _ wi_503) (fun _ h9 => h9) rfl (by decide +kernel) rfl rfl (Nat.le_of_ble_eq_true rfl) dD_beginLowering_17 (fun H locs hP hD hS => ?_)
  have hP : va_P (dC, dI) vwCl [(x0, .inr (5, [.int (f 0), .int (f 1), .int (f 2), .int (f 3), .ref aw, .ref ao, .int (f 6), .ref ac, .int (f 8), .int 1, .int (f 10), .int 0, .int (f 12), .int (f 13), .int 0, .int 0, .int (f 16), .int (f 17), .int (f 18), .ref az, .ref aq, .ref an, .int (f 22), .int (f 23), .int (f 24), .int (f 25), .int (f 26)]))] H := hP
  have hD : va_D A [(x0, .inr (5, [.int (f 0), .int (f 1), .int (f 2), .int (f 3), .ref aw, .ref ao, .int (f 6), .ref ac, .int (f 8), .int 1, .int (f 10), .int 0, .int (f 12), .int (f 13), .int 0, .int 0, .int (f 16), .int (f 17), .int (f 18), .ref az, .ref aq, .ref an, .int (f 22), .int (f 23), .int (f 24), .int (f 25), .int (f 26)]))] := hD
  refine lv_aload_n hx hb dD_beginLowering_20 rfl (lv_at hl 0 rfl) ?_
  refine lv_iconst (v := 0) hx hb dD_beginLowering_21 (by decide) ?_
  refine va_put (D := (dC, dI)) (ci := 5) (v := .int 0) (ty := .int) (C := rD) (T := tD) (N := 27) hx hb hA inD tyD tyD_ok nmD hown hK hP hD hS 0 rfl rfl 16 (by decide) (hA _ wi_504) (fun _ h9 => h9) rfl (by decide +kernel) rfl rfl (Nat.le_of_ble_eq_true rfl) dD_beginLowering_22 (fun H locs hP hD hS => ?_)
  have hP : va_P (dC, dI) vwCl [(x0, .inr (5, [.int (f 0), .int (f 1), .int (f 2), .int (f 3), .ref aw, .ref ao, .int (f 6), .ref ac, .int (f 8), .int 1, .int (f 10), .int 0, .int (f 12), .int (f 13), .int 0, .int 0, .int 0, .int (f 17), .int (f 18), .ref az, .ref aq, .ref an, .int (f 22), .int (f 23), .int (f 24), .int (f 25), .int (f 26)]))] H := hP
  have hD : va_D A [(x0, .inr (5, [.int (f 0), .int (f 1), .int (f 2), .int (f 3), .ref aw, .ref ao, .int (f 6), .ref ac, .int (f 8), .int 1, .int (f 10), .int 0, .int (f 12), .int (f 13), .int 0, .int 0, .int 0, .int (f 17), .int (f 18), .ref az, .ref aq, .ref an, .int (f 22), .int (f 23), .int (f 24), .int (f 25), .int (f 26)]))] := hD
  have hPe : va_P (dC, dI) vwCl [(x0, .inr (5, [.int ((md_bw f) 0), .int ((md_bw f) 1), .int ((md_bw f) 2), .int ((md_bw f) 3), .ref aw, .ref ao, .int ((md_bw f) 6), .ref ac, .int ((md_bw f) 8), .int ((md_bw f) 9), .int ((md_bw f) 10), .int ((md_bw f) 11), .int ((md_bw f) 12), .int ((md_bw f) 13), .int ((md_bw f) 14), .int ((md_bw f) 15), .int ((md_bw f) 16), .int ((md_bw f) 17), .int ((md_bw f) 18), .ref az, .ref aq, .ref an, .int ((md_bw f) 22), .int ((md_bw f) 23), .int ((md_bw f) 24), .int ((md_bw f) 25), .int ((md_bw f) 26)]))] H := by exact hP
  have hDe : va_D A [(x0, .inr (5, [.int ((md_bw f) 0), .int ((md_bw f) 1), .int ((md_bw f) 2), .int ((md_bw f) 3), .ref aw, .ref ao, .int ((md_bw f) 6), .ref ac, .int ((md_bw f) 8), .int ((md_bw f) 9), .int ((md_bw f) 10), .int ((md_bw f) 11), .int ((md_bw f) 12), .int ((md_bw f) 13), .int ((md_bw f) 14), .int ((md_bw f) 15), .int ((md_bw f) 16), .int ((md_bw f) 17), .int ((md_bw f) 18), .ref az, .ref aq, .ref an, .int ((md_bw f) 22), .int ((md_bw f) 23), .int ((md_bw f) 24), .int ((md_bw f) 25), .int ((md_bw f) 26)]))] := sp_Dc hD rfl
  exact W.vret hx hb hr (sp_eWv hPe hDe hS) hS.2.2 dD_beginLowering_25
set_option maxHeartbeats 4000000 in
set_option maxRecDepth 100000 in
theorem kD_next (l : Launch) (dC : Nat → ClassId) (dI : Nat → Nat → Nat) (cI cQ : ClassId) (x0 aw ao ac az aq an : Nat) (f : Nat → Int32) (sz : Nat)  : Met l yD_nextByte (.code yD_nextByte cD_nextByte 1 none :: wA) ({ frames := 0, cells := 0, slots := 0, locals := 0 }) (sp_P (dC, dI) (kT cI cQ) [.ref x0] [(x0, .inr (5, [.int (f 0), .int (f 1), .int (f 2), .int (f 3), .ref aw, .ref ao, .int (f 6), .ref ac, .int (f 8), .int (f 9), .int (f 10), .int (f 11), .int (f 12), .int (f 13), .int (f 14), .int (f 15), .int (f 16), .int (f 17), .int (f 18), .ref az, .ref aq, .ref an, .int (f 22), .int (f 23), .int (f 24), .int (f 25), .int (f 26)]))] sz) (sp_QWv (dC, dI) [(x0, .inr (5, [.int ((md_next f) 0), .int ((md_next f) 1), .int ((md_next f) 2), .int ((md_next f) 3), .ref aw, .ref ao, .int ((md_next f) 6), .ref ac, .int ((md_next f) 8), .int ((md_next f) 9), .int ((md_next f) 10), .int ((md_next f) 11), .int ((md_next f) 12), .int ((md_next f) 13), .int ((md_next f) 14), .int ((md_next f) 15), .int ((md_next f) 16), .int ((md_next f) 17), .int ((md_next f) 18), .ref az, .ref aq, .ref an, .int ((md_next f) 22), .int ((md_next f) 23), .int ((md_next f) 24), .int ((md_next f) 25), .int ((md_next f) 26)]))] (va_A [(x0, .inr (5, [.int (f 0), .int (f 1), .int (f 2), .int (f 3), .ref aw, .ref ao, .int (f 6), .ref ac, .int (f 8), .int (f 9), .int (f 10), .int (f 11), .int (f 12), .int (f 13), .int (f 14), .int (f 15), .int (f 16), .int (f 17), .int (f 18), .ref az, .ref aq, .ref an, .int (f 22), .int (f 23), .int (f 24), .int (f 25), .int (f 26)]))] sz)) 0 0 (va_A [(x0, .inr (5, [.int (f 0), .int (f 1), .int (f 2), .int (f 3), .ref aw, .ref ao, .int (f 6), .ref ac, .int (f 8), .int (f 9), .int (f 10), .int (f 11), .int (f 12), .int (f 13), .int (f 14), .int (f 15), .int (f 16), .int (f 17), .int (f 18), .ref az, .ref aq, .ref an, .int (f 22), .int (f 23), .int (f 24), .int (f 25), .int (f 26)]))] sz) := by
  refine Met.ofW (cc := cD_nextByte) (maxL := 1) (ret := none) (by decide) rfl ?_
  intro p e s m args below meth c s₁ B hml hv
  obtain ⟨rfl, hsz, hP, hK, hD0, hG⟩ := hv
  have hx := B.exec
  have hb := B.bytes
  have hr := B.returns
  have hA := sp_hA (atoms_spec (ws := (.code yD_nextByte cD_nextByte 1 none :: wA)) B.pre)
  have hown : s.vm.findClass rD = some m.cls := findClass_of_methodNamed B.named
  have hlocks := B.notSynchronized
  subst hsz
  have hD := hD0.self (sz := s.heap.size)
  generalize hAe : va_A [(x0, .inr (5, [.int (f 0), .int (f 1), .int (f 2), .int (f 3), .ref aw, .ref ao, .int (f 6), .ref ac, .int (f 8), .int (f 9), .int (f 10), .int (f 11), .int (f 12), .int (f 13), .int (f 14), .int (f 15), .int (f 16), .int (f 17), .int (f 18), .ref az, .ref aq, .ref an, .int (f 22), .int (f 23), .int (f 24), .int (f 25), .int (f 26)]))] s.heap.size = A at hD ⊢
  have hF : ∀ q : Nat, s.heap.size ≤ q → A q := fun q h => by rw [← hAe]; exact Or.inr h
  have hS : va_S A s.heap s.heap [] := va_S.rf
  have hl := lv_entry ([.ref x0]) (n := 1) (Nat.le_of_ble_eq_true rfl)
  rw [lg_entry_eq]
  generalize (lg_sl ([.ref x0]) ++ List.replicate (1 - (lg_sl ([.ref x0])).length) Slot.unset).toArray = ls at hl ⊢
  have hl : lv_has ls 1 [(0, .ref x0)] := hl
  refine lv_aload_n hx hb dD_nextByte_0 rfl (lv_at hl 0 rfl) ?_
  refine lv_iconst (v := 0) hx hb dD_nextByte_1 (by decide) ?_
  refine va_put (D := (dC, dI)) (ci := 5) (v := .int 0) (ty := .int) (C := rD) (T := tD) (N := 27) hx hb hA inD tyD tyD_ok nmD hown hK hP hD hS 0 rfl rfl 16 (by decide) (hA _ wi_504) (fun _ h9 => h9) rfl (by decide +kernel) rfl rfl (Nat.le_of_ble_eq_true rfl) dD_nextByte_2 (fun H locs hP hD hS => ?_)
  have hP : va_P (dC, dI) vwCl [(x0, .inr (5, [.int (f 0), .int (f 1), .int (f 2), .int (f 3), .ref aw, .ref ao, .int (f 6), .ref ac, .int (f 8), .int (f 9), .int (f 10), .int (f 11), .int (f 12), .int (f 13), .int (f 14), .int (f 15), .int 0, .int (f 17), .int (f 18), .ref az, .ref aq, .ref an, .int (f 22), .int (f 23), .int (f 24), .int (f 25), .int (f 26)]))] H := hP
  have hD : va_D A [(x0, .inr (5, [.int (f 0), .int (f 1), .int (f 2), .int (f 3), .ref aw, .ref ao, .int (f 6), .ref ac, .int (f 8), .int (f 9), .int (f 10), .int (f 11), .int (f 12), .int (f 13), .int (f 14), .int (f 15), .int 0, .int (f 17), .int (f 18), .ref az, .ref aq, .ref an, .int (f 22), .int (f 23), .int (f 24), .int (f 25), .int (f 26)]))] := hD
  refine lv_aload_n hx hb dD_nextByte_5 rfl (lv_at hl 0 rfl) ?_
  refine lv_dup hx hb dD_nextByte_6 rfl ?_
  refine va_get (D := (dC, dI)) (ci := 5) (C := rD) (T := tD) (N := 27) hx hb hA inD hown hK hP 0 rfl rfl 15 (by decide) (hA _ wi_503) (fun _ h9 => h9) rfl dD_nextByte_7 ?_
  refine lv_iconst (v := 1) hx hb dD_nextByte_10 (by decide) ?_
  refine lv_iadd hx hb dD_nextByte_11 ?_
  refine va_put (D := (dC, dI)) (ci := 5) (v := .int ((f 15) + 1)) (ty := .int) (C := rD) (T := tD) (N := 27) hx hb hA inD tyD tyD_ok nmD hown hK hP hD hS 0 rfl rfl 15 (by decide) (hA _ wi_503) (fun _ h9 => h9) rfl (by decide +kernel) rfl rfl (Nat.le_of_ble_eq_true rfl) dD_nextByte_12 (fun H locs hP hD hS => ?_)
  have hP : va_P (dC, dI) vwCl [(x0, .inr (5, [.int (f 0), .int (f 1), .int (f 2), .int (f 3), .ref aw, .ref ao, .int (f 6), .ref ac, .int (f 8), .int (f 9), .int (f 10), .int (f 11), .int (f 12), .int (f 13), .int (f 14), .int ((f 15) + 1), .int 0, .int (f 17), .int (f 18), .ref az, .ref aq, .ref an, .int (f 22), .int (f 23), .int (f 24), .int (f 25), .int (f 26)]))] H := hP
  have hD : va_D A [(x0, .inr (5, [.int (f 0), .int (f 1), .int (f 2), .int (f 3), .ref aw, .ref ao, .int (f 6), .ref ac, .int (f 8), .int (f 9), .int (f 10), .int (f 11), .int (f 12), .int (f 13), .int (f 14), .int ((f 15) + 1), .int 0, .int (f 17), .int (f 18), .ref az, .ref aq, .ref an, .int (f 22), .int (f 23), .int (f 24), .int (f 25), .int (f 26)]))] := hD
  refine lv_aload_n hx hb dD_nextByte_15 rfl (lv_at hl 0 rfl) ?_
  refine va_get (D := (dC, dI)) (ci := 5) (C := rD) (T := tD) (N := 27) hx hb hA inD hown hK hP 0 rfl rfl 15 (by decide) (hA _ wi_503) (fun _ h9 => h9) rfl dD_nextByte_16 ?_
  refine lv_iconst (v := 4) hx hb dD_nextByte_19 (by decide) ?_
  refine lv_icmp_ge (tgt := 24) hx hb dD_nextByte_20 (by decide) (fun c_20 => ?_) (fun c_20 => ?_)
  · refine lv_aload_n hx hb dD_nextByte_24 rfl (lv_at hl 0 rfl) ?_
    refine lv_iconst (v := 0) hx hb dD_nextByte_25 (by decide) ?_
    refine va_put (D := (dC, dI)) (ci := 5) (v := .int 0) (ty := .int) (C := rD) (T := tD) (N := 27) hx hb hA inD tyD tyD_ok nmD hown hK hP hD hS 0 rfl rfl 15 (by decide) (hA _ wi_503) (fun _ h9 => h9) rfl (by decide +kernel) rfl rfl (Nat.le_of_ble_eq_true rfl) dD_nextByte_26 (fun H locs hP hD hS => ?_)
    have hP : va_P (dC, dI) vwCl [(x0, .inr (5, [.int (f 0), .int (f 1), .int (f 2), .int (f 3), .ref aw, .ref ao, .int (f 6), .ref ac, .int (f 8), .int (f 9), .int (f 10), .int (f 11), .int (f 12), .int (f 13), .int (f 14), .int 0, .int 0, .int (f 17), .int (f 18), .ref az, .ref aq, .ref an, .int (f 22), .int (f 23), .int (f 24), .int (f 25), .int (f 26)]))] H := hP
    have hD : va_D A [(x0, .inr (5, [.int (f 0), .int (f 1), .int (f 2), .int (f 3), .ref aw, .ref ao, .int (f 6), .ref ac, .int (f 8), .int (f 9), .int (f 10), .int (f 11), .int (f 12), .int (f 13), .int (f 14), .int 0, .int 0, .int (f 17), .int (f 18), .ref az, .ref aq, .ref an, .int (f 22), .int (f 23), .int (f 24), .int (f 25), .int (f 26)]))] := hD
    refine lv_aload_n hx hb dD_nextByte_29 rfl (lv_at hl 0 rfl) ?_
    refine lv_dup hx hb dD_nextByte_30 rfl ?_
    refine va_get (D := (dC, dI)) (ci := 5) (C := rD) (T := tD) (N := 27) hx hb hA inD hown hK hP 0 rfl rfl 14 (by decide) (hA _ wi_502) (fun _ h9 => h9) rfl dD_nextByte_31 ?_
    refine lv_iconst (v := 1) hx hb dD_nextByte_34 (by decide) ?_
    refine lv_iadd hx hb dD_nextByte_35 ?_
    refine va_put (D := (dC, dI)) (ci := 5) (v := .int ((f 14) + 1)) (ty := .int) (C := rD) (T := tD) (N := 27) hx hb hA inD tyD tyD_ok nmD hown hK hP hD hS 0 rfl rfl 14 (by decide) (hA _ wi_502) (fun _ h9 => h9) rfl (by decide +kernel) rfl rfl (Nat.le_of_ble_eq_true rfl) dD_nextByte_36 (fun H locs hP hD hS => ?_)
    have hP : va_P (dC, dI) vwCl [(x0, .inr (5, [.int (f 0), .int (f 1), .int (f 2), .int (f 3), .ref aw, .ref ao, .int (f 6), .ref ac, .int (f 8), .int (f 9), .int (f 10), .int (f 11), .int (f 12), .int (f 13), .int ((f 14) + 1), .int 0, .int 0, .int (f 17), .int (f 18), .ref az, .ref aq, .ref an, .int (f 22), .int (f 23), .int (f 24), .int (f 25), .int (f 26)]))] H := hP
    have hD : va_D A [(x0, .inr (5, [.int (f 0), .int (f 1), .int (f 2), .int (f 3), .ref aw, .ref ao, .int (f 6), .ref ac, .int (f 8), .int (f 9), .int (f 10), .int (f 11), .int (f 12), .int (f 13), .int ((f 14) + 1), .int 0, .int 0, .int (f 17), .int (f 18), .ref az, .ref aq, .ref an, .int (f 22), .int (f 23), .int (f 24), .int (f 25), .int (f 26)]))] := hD
    have hPe : va_P (dC, dI) vwCl [(x0, .inr (5, [.int ((md_next f) 0), .int ((md_next f) 1), .int ((md_next f) 2), .int ((md_next f) 3), .ref aw, .ref ao, .int ((md_next f) 6), .ref ac, .int ((md_next f) 8), .int ((md_next f) 9), .int ((md_next f) 10), .int ((md_next f) 11), .int ((md_next f) 12), .int ((md_next f) 13), .int ((md_next f) 14), .int ((md_next f) 15), .int ((md_next f) 16), .int ((md_next f) 17), .int ((md_next f) 18), .ref az, .ref aq, .ref an, .int ((md_next f) 22), .int ((md_next f) 23), .int ((md_next f) 24), .int ((md_next f) 25), .int ((md_next f) 26)]))] H := by first | (rw [md_next, if_pos c_20]; exact hP) | (rw [md_next, if_neg c_20]; exact hP)
    have hDe : va_D A [(x0, .inr (5, [.int ((md_next f) 0), .int ((md_next f) 1), .int ((md_next f) 2), .int ((md_next f) 3), .ref aw, .ref ao, .int ((md_next f) 6), .ref ac, .int ((md_next f) 8), .int ((md_next f) 9), .int ((md_next f) 10), .int ((md_next f) 11), .int ((md_next f) 12), .int ((md_next f) 13), .int ((md_next f) 14), .int ((md_next f) 15), .int ((md_next f) 16), .int ((md_next f) 17), .int ((md_next f) 18), .ref az, .ref aq, .ref an, .int ((md_next f) 22), .int ((md_next f) 23), .int ((md_next f) 24), .int ((md_next f) 25), .int ((md_next f) 26)]))] := sp_Dc hD rfl
    exact W.vret hx hb hr (sp_eWv hPe hDe hS) hS.2.2 dD_nextByte_39
  · have hPe : va_P (dC, dI) vwCl [(x0, .inr (5, [.int ((md_next f) 0), .int ((md_next f) 1), .int ((md_next f) 2), .int ((md_next f) 3), .ref aw, .ref ao, .int ((md_next f) 6), .ref ac, .int ((md_next f) 8), .int ((md_next f) 9), .int ((md_next f) 10), .int ((md_next f) 11), .int ((md_next f) 12), .int ((md_next f) 13), .int ((md_next f) 14), .int ((md_next f) 15), .int ((md_next f) 16), .int ((md_next f) 17), .int ((md_next f) 18), .ref az, .ref aq, .ref an, .int ((md_next f) 22), .int ((md_next f) 23), .int ((md_next f) 24), .int ((md_next f) 25), .int ((md_next f) 26)]))] H := by first | (rw [md_next, if_pos c_20]; exact hP) | (rw [md_next, if_neg c_20]; exact hP)
    have hDe : va_D A [(x0, .inr (5, [.int ((md_next f) 0), .int ((md_next f) 1), .int ((md_next f) 2), .int ((md_next f) 3), .ref aw, .ref ao, .int ((md_next f) 6), .ref ac, .int ((md_next f) 8), .int ((md_next f) 9), .int ((md_next f) 10), .int ((md_next f) 11), .int ((md_next f) 12), .int ((md_next f) 13), .int ((md_next f) 14), .int ((md_next f) 15), .int ((md_next f) 16), .int ((md_next f) 17), .int ((md_next f) 18), .ref az, .ref aq, .ref an, .int ((md_next f) 22), .int ((md_next f) 23), .int ((md_next f) 24), .int ((md_next f) 25), .int ((md_next f) 26)]))] := sp_Dc hD rfl
    exact W.vret hx hb hr (sp_eWv hPe hDe hS) hS.2.2 dD_nextByte_23
set_option maxHeartbeats 4000000 in
set_option maxRecDepth 100000 in
theorem kD_ep (l : Launch) (dC : Nat → ClassId) (dI : Nat → Nat → Nat) (cI cQ : ClassId) (x0 aw ao ac az aq an : Nat) (f : Nat → Int32) (sz : Nat)  : Met l yD_endPass (.code yD_endPass cD_endPass 2 none :: wA) ({ frames := 1, cells := 0, slots := 0, locals := 20 }) (sp_P (dC, dI) (kT cI cQ) [.ref x0] [(x0, .inr (5, [.int (f 0), .int (f 1), .int (f 2), .int (f 3), .ref aw, .ref ao, .int (f 6), .ref ac, .int (f 8), .int (f 9), .int (f 10), .int (f 11), .int (f 12), .int (f 13), .int (f 14), .int (f 15), .int (f 16), .int (f 17), .int (f 18), .ref az, .ref aq, .ref an, .int (f 22), .int (f 23), .int (f 24), .int (f 25), .int (f 26)]))] sz) (sp_QWv (dC, dI) [(x0, .inr (5, [.int ((md_ep f) 0), .int ((md_ep f) 1), .int ((md_ep f) 2), .int ((md_ep f) 3), .ref aw, .ref ao, .int ((md_ep f) 6), .ref ac, .int ((md_ep f) 8), .int ((md_ep f) 9), .int ((md_ep f) 10), .int ((md_ep f) 11), .int ((md_ep f) 12), .int ((md_ep f) 13), .int ((md_ep f) 14), .int ((md_ep f) 15), .int ((md_ep f) 16), .int ((md_ep f) 17), .int ((md_ep f) 18), .ref az, .ref aq, .ref an, .int ((md_ep f) 22), .int ((md_ep f) 23), .int ((md_ep f) 24), .int ((md_ep f) 25), .int ((md_ep f) 26)]))] (va_A [(x0, .inr (5, [.int (f 0), .int (f 1), .int (f 2), .int (f 3), .ref aw, .ref ao, .int (f 6), .ref ac, .int (f 8), .int (f 9), .int (f 10), .int (f 11), .int (f 12), .int (f 13), .int (f 14), .int (f 15), .int (f 16), .int (f 17), .int (f 18), .ref az, .ref aq, .ref an, .int (f 22), .int (f 23), .int (f 24), .int (f 25), .int (f 26)]))] sz)) 0 0 (va_A [(x0, .inr (5, [.int (f 0), .int (f 1), .int (f 2), .int (f 3), .ref aw, .ref ao, .int (f 6), .ref ac, .int (f 8), .int (f 9), .int (f 10), .int (f 11), .int (f 12), .int (f 13), .int (f 14), .int (f 15), .int (f 16), .int (f 17), .int (f 18), .ref az, .ref aq, .ref an, .int (f 22), .int (f 23), .int (f 24), .int (f 25), .int (f 26)]))] sz) := by
  refine Met.ofW (cc := cD_endPass) (maxL := 2) (ret := none) (by decide) rfl ?_
  intro p e s m args below meth c s₁ B hml hv
  obtain ⟨rfl, hsz, hP, hK, hD0, hG⟩ := hv
  have hx := B.exec
  have hb := B.bytes
  have hr := B.returns
  have hA := sp_hA (atoms_spec (ws := (.code yD_endPass cD_endPass 2 none :: wA)) B.pre)
  have hown : s.vm.findClass rD = some m.cls := findClass_of_methodNamed B.named
  have hlocks := B.notSynchronized
  subst hsz
  have hD := hD0.self (sz := s.heap.size)
  generalize hAe : va_A [(x0, .inr (5, [.int (f 0), .int (f 1), .int (f 2), .int (f 3), .ref aw, .ref ao, .int (f 6), .ref ac, .int (f 8), .int (f 9), .int (f 10), .int (f 11), .int (f 12), .int (f 13), .int (f 14), .int (f 15), .int (f 16), .int (f 17), .int (f 18), .ref az, .ref aq, .ref an, .int (f 22), .int (f 23), .int (f 24), .int (f 25), .int (f 26)]))] s.heap.size = A at hD ⊢
  have hF : ∀ q : Nat, s.heap.size ≤ q → A q := fun q h => by rw [← hAe]; exact Or.inr h
  have hS : va_S A s.heap s.heap [] := va_S.rf
  have hl := lv_entry ([.ref x0]) (n := 2) (Nat.le_of_ble_eq_true rfl)
  rw [lg_entry_eq]
  generalize (lg_sl ([.ref x0]) ++ List.replicate (2 - (lg_sl ([.ref x0])).length) Slot.unset).toArray = ls at hl ⊢
  have hl : lv_has ls 2 [(0, .ref x0)] := hl
  refine lv_aload_n hx hb dD_endPass_0 rfl (lv_at hl 0 rfl) ?_
  refine va_get (D := (dC, dI)) (ci := 5) (C := rD) (T := tD) (N := 27) hx hb hA inD hown hK hP 0 rfl rfl 12 (by decide) (hA _ wi_500) (fun _ h9 => h9) rfl dD_endPass_1 ?_
  refine lv_iconst (v := 1) hx hb dD_endPass_4 (by decide) ?_
  refine lv_icmp_gt (tgt := 15) hx hb dD_endPass_5 (by decide) (fun c_5 => ?_) (fun c_5 => ?_)
  · refine lv_iconst (v := 1) hx hb dD_endPass_15 (by decide) ?_
    refine lv_goto (tgt := 20) hx hb dD_endPass_16 (by decide) ?_
    refine lv_istore_n (lv' := [(1, .int 1), (0, .ref x0)]) hx hb dD_endPass_20 rfl hl (by decide) rfl (fun ls hl => ?_)
    refine lv_aload_n hx hb dD_endPass_21 rfl (lv_at hl 1 rfl) ?_
    refine lv_aload_n hx hb dD_endPass_22 rfl (lv_at hl 1 rfl) ?_
    refine va_get (D := (dC, dI)) (ci := 5) (C := rD) (T := tD) (N := 27) hx hb hA inD hown hK hP 0 rfl rfl 12 (by decide) (hA _ wi_500) (fun _ h9 => h9) rfl dD_endPass_23 ?_
    refine lv_iconst (v := 1) hx hb dD_endPass_26 (by decide) ?_
    refine lv_icmp_le (tgt := 39) hx hb dD_endPass_27 (by decide) (fun c_27 => ?_) (fun c_27 => ?_)
    · exact absurd c_5 (Int32.not_lt.mpr c_27)
    · refine lv_aload_n hx hb dD_endPass_30 rfl (lv_at hl 1 rfl) ?_
      refine va_get (D := (dC, dI)) (ci := 5) (C := rD) (T := tD) (N := 27) hx hb hA inD hown hK hP 0 rfl rfl 12 (by decide) (hA _ wi_500) (fun _ h9 => h9) rfl dD_endPass_31 ?_
      refine lv_iconst (v := 2) hx hb dD_endPass_34 (by decide) ?_
      refine lv_idiv hx hb dD_endPass_35 (by decide) ?_
      refine lv_goto (tgt := 40) hx hb dD_endPass_36 (by decide) ?_
      refine va_put (D := (dC, dI)) (ci := 5) (v := .int ((f 12) / 2)) (ty := .int) (C := rD) (T := tD) (N := 27) hx hb hA inD tyD tyD_ok nmD hown hK hP hD hS 0 rfl rfl 12 (by decide) (hA _ wi_500) (fun _ h9 => h9) rfl (by decide +kernel) rfl rfl (Nat.le_of_ble_eq_true rfl) dD_endPass_40 (fun H locs hP hD hS => ?_)
      have hP : va_P (dC, dI) vwCl [(x0, .inr (5, [.int (f 0), .int (f 1), .int (f 2), .int (f 3), .ref aw, .ref ao, .int (f 6), .ref ac, .int (f 8), .int (f 9), .int (f 10), .int (f 11), .int ((f 12) / 2), .int (f 13), .int (f 14), .int (f 15), .int (f 16), .int (f 17), .int (f 18), .ref az, .ref aq, .ref an, .int (f 22), .int (f 23), .int (f 24), .int (f 25), .int (f 26)]))] H := hP
      have hD : va_D A [(x0, .inr (5, [.int (f 0), .int (f 1), .int (f 2), .int (f 3), .ref aw, .ref ao, .int (f 6), .ref ac, .int (f 8), .int (f 9), .int (f 10), .int (f 11), .int ((f 12) / 2), .int (f 13), .int (f 14), .int (f 15), .int (f 16), .int (f 17), .int (f 18), .ref az, .ref aq, .ref an, .int (f 22), .int (f 23), .int (f 24), .int (f 25), .int (f 26)]))] := hD
      refine lv_aload_n hx hb dD_endPass_43 rfl (lv_at hl 1 rfl) ?_
      refine lv_iconst (v := 0) hx hb dD_endPass_44 (by decide) ?_
      refine va_put (D := (dC, dI)) (ci := 5) (v := .int 0) (ty := .int) (C := rD) (T := tD) (N := 27) hx hb hA inD tyD tyD_ok nmD hown hK hP hD hS 0 rfl rfl 13 (by decide) (hA _ wi_501) (fun _ h9 => h9) rfl (by decide +kernel) rfl rfl (Nat.le_of_ble_eq_true rfl) dD_endPass_45 (fun H locs hP hD hS => ?_)
      have hP : va_P (dC, dI) vwCl [(x0, .inr (5, [.int (f 0), .int (f 1), .int (f 2), .int (f 3), .ref aw, .ref ao, .int (f 6), .ref ac, .int (f 8), .int (f 9), .int (f 10), .int (f 11), .int ((f 12) / 2), .int 0, .int (f 14), .int (f 15), .int (f 16), .int (f 17), .int (f 18), .ref az, .ref aq, .ref an, .int (f 22), .int (f 23), .int (f 24), .int (f 25), .int (f 26)]))] H := hP
      have hD : va_D A [(x0, .inr (5, [.int (f 0), .int (f 1), .int (f 2), .int (f 3), .ref aw, .ref ao, .int (f 6), .ref ac, .int (f 8), .int (f 9), .int (f 10), .int (f 11), .int ((f 12) / 2), .int 0, .int (f 14), .int (f 15), .int (f 16), .int (f 17), .int (f 18), .ref az, .ref aq, .ref an, .int (f 22), .int (f 23), .int (f 24), .int (f 25), .int (f 26)]))] := hD
      refine lv_aload_n hx hb dD_endPass_48 rfl (lv_at hl 1 rfl) ?_
      refine lv_iconst (v := 0) hx hb dD_endPass_49 (by decide) ?_
      refine va_put (D := (dC, dI)) (ci := 5) (v := .int 0) (ty := .boolean) (C := rD) (T := tD) (N := 27) hx hb hA inD tyD tyD_ok nmD hown hK hP hD hS 0 rfl rfl 10 (by decide) (hA _ wi_498) (fun _ h9 => h9) rfl (by decide +kernel) rfl rfl (Nat.le_of_ble_eq_true rfl) dD_endPass_50 (fun H locs hP hD hS => ?_)
      have hP : va_P (dC, dI) vwCl [(x0, .inr (5, [.int (f 0), .int (f 1), .int (f 2), .int (f 3), .ref aw, .ref ao, .int (f 6), .ref ac, .int (f 8), .int (f 9), .int 0, .int (f 11), .int ((f 12) / 2), .int 0, .int (f 14), .int (f 15), .int (f 16), .int (f 17), .int (f 18), .ref az, .ref aq, .ref an, .int (f 22), .int (f 23), .int (f 24), .int (f 25), .int (f 26)]))] H := hP
      have hD : va_D A [(x0, .inr (5, [.int (f 0), .int (f 1), .int (f 2), .int (f 3), .ref aw, .ref ao, .int (f 6), .ref ac, .int (f 8), .int (f 9), .int 0, .int (f 11), .int ((f 12) / 2), .int 0, .int (f 14), .int (f 15), .int (f 16), .int (f 17), .int (f 18), .ref az, .ref aq, .ref an, .int (f 22), .int (f 23), .int (f 24), .int (f 25), .int (f 26)]))] := hD
      refine lv_iload_n hx hb dD_endPass_53 rfl (lv_at hl 0 rfl) ?_
      refine lv_if_ne (tgt := 61) hx hb dD_endPass_54 (by decide) (fun c_54 => ?_) (fun c_54 => ?_)
      · have e_f : (md_ep f) = (upd (upd (upd f 12 ((f 12) / 2)) 13 0) 10 0) := by first | rfl | (simp only [md_ep, md_ep0, c_5, c_27, c_54, if_true, if_false, ↓reduceIte]; done) | (simp only [md_ep, md_ep0, c_5, c_27, c_54, if_true, if_false, ↓reduceIte]; rfl) | (simp [md_ep, md_ep0, c_5, c_27, c_54])
        have hPe : va_P (dC, dI) vwCl [(x0, .inr (5, [.int ((md_ep f) 0), .int ((md_ep f) 1), .int ((md_ep f) 2), .int ((md_ep f) 3), .ref aw, .ref ao, .int ((md_ep f) 6), .ref ac, .int ((md_ep f) 8), .int ((md_ep f) 9), .int ((md_ep f) 10), .int ((md_ep f) 11), .int ((md_ep f) 12), .int ((md_ep f) 13), .int ((md_ep f) 14), .int ((md_ep f) 15), .int ((md_ep f) 16), .int ((md_ep f) 17), .int ((md_ep f) 18), .ref az, .ref aq, .ref an, .int ((md_ep f) 22), .int ((md_ep f) 23), .int ((md_ep f) 24), .int ((md_ep f) 25), .int ((md_ep f) 26)]))] H := by rw [e_f]; exact hP
        have hDe : va_D A [(x0, .inr (5, [.int ((md_ep f) 0), .int ((md_ep f) 1), .int ((md_ep f) 2), .int ((md_ep f) 3), .ref aw, .ref ao, .int ((md_ep f) 6), .ref ac, .int ((md_ep f) 8), .int ((md_ep f) 9), .int ((md_ep f) 10), .int ((md_ep f) 11), .int ((md_ep f) 12), .int ((md_ep f) 13), .int ((md_ep f) 14), .int ((md_ep f) 15), .int ((md_ep f) 16), .int ((md_ep f) 17), .int ((md_ep f) 18), .ref az, .ref aq, .ref an, .int ((md_ep f) 22), .int ((md_ep f) 23), .int ((md_ep f) 24), .int ((md_ep f) 25), .int ((md_ep f) 26)]))] := sp_Dc hD rfl
        exact W.vret hx hb hr (sp_eWv hPe hDe hS) hS.2.2 dD_endPass_61
      · exact absurd c_54 (by decide)
  · refine lv_aload_n hx hb dD_endPass_8 rfl (lv_at hl 0 rfl) ?_
    refine va_get (D := (dC, dI)) (ci := 5) (C := rD) (T := tD) (N := 27) hx hb hA inD hown hK hP 0 rfl rfl 10 (by decide) (hA _ wi_498) (fun _ h9 => h9) rfl dD_endPass_9 ?_
    refine lv_if_eq (tgt := 19) hx hb dD_endPass_12 (by decide) (fun c_12 => ?_) (fun c_12 => ?_)
    · refine lv_iconst (v := 0) hx hb dD_endPass_19 (by decide) ?_
      refine lv_istore_n (lv' := [(1, .int 0), (0, .ref x0)]) hx hb dD_endPass_20 rfl hl (by decide) rfl (fun ls hl => ?_)
      refine lv_aload_n hx hb dD_endPass_21 rfl (lv_at hl 1 rfl) ?_
      refine lv_aload_n hx hb dD_endPass_22 rfl (lv_at hl 1 rfl) ?_
      refine va_get (D := (dC, dI)) (ci := 5) (C := rD) (T := tD) (N := 27) hx hb hA inD hown hK hP 0 rfl rfl 12 (by decide) (hA _ wi_500) (fun _ h9 => h9) rfl dD_endPass_23 ?_
      refine lv_iconst (v := 1) hx hb dD_endPass_26 (by decide) ?_
      refine lv_icmp_le (tgt := 39) hx hb dD_endPass_27 (by decide) (fun c_27 => ?_) (fun c_27 => ?_)
      · refine lv_iconst (v := 1) hx hb dD_endPass_39 (by decide) ?_
        refine va_put (D := (dC, dI)) (ci := 5) (v := .int 1) (ty := .int) (C := rD) (T := tD) (N := 27) hx hb hA inD tyD tyD_ok nmD hown hK hP hD hS 0 rfl rfl 12 (by decide) (hA _ wi_500) (fun _ h9 => h9) rfl (by decide +kernel) rfl rfl (Nat.le_of_ble_eq_true rfl) dD_endPass_40 (fun H locs hP hD hS => ?_)
        have hP : va_P (dC, dI) vwCl [(x0, .inr (5, [.int (f 0), .int (f 1), .int (f 2), .int (f 3), .ref aw, .ref ao, .int (f 6), .ref ac, .int (f 8), .int (f 9), .int (f 10), .int (f 11), .int 1, .int (f 13), .int (f 14), .int (f 15), .int (f 16), .int (f 17), .int (f 18), .ref az, .ref aq, .ref an, .int (f 22), .int (f 23), .int (f 24), .int (f 25), .int (f 26)]))] H := hP
        have hD : va_D A [(x0, .inr (5, [.int (f 0), .int (f 1), .int (f 2), .int (f 3), .ref aw, .ref ao, .int (f 6), .ref ac, .int (f 8), .int (f 9), .int (f 10), .int (f 11), .int 1, .int (f 13), .int (f 14), .int (f 15), .int (f 16), .int (f 17), .int (f 18), .ref az, .ref aq, .ref an, .int (f 22), .int (f 23), .int (f 24), .int (f 25), .int (f 26)]))] := hD
        refine lv_aload_n hx hb dD_endPass_43 rfl (lv_at hl 1 rfl) ?_
        refine lv_iconst (v := 0) hx hb dD_endPass_44 (by decide) ?_
        refine va_put (D := (dC, dI)) (ci := 5) (v := .int 0) (ty := .int) (C := rD) (T := tD) (N := 27) hx hb hA inD tyD tyD_ok nmD hown hK hP hD hS 0 rfl rfl 13 (by decide) (hA _ wi_501) (fun _ h9 => h9) rfl (by decide +kernel) rfl rfl (Nat.le_of_ble_eq_true rfl) dD_endPass_45 (fun H locs hP hD hS => ?_)
        have hP : va_P (dC, dI) vwCl [(x0, .inr (5, [.int (f 0), .int (f 1), .int (f 2), .int (f 3), .ref aw, .ref ao, .int (f 6), .ref ac, .int (f 8), .int (f 9), .int (f 10), .int (f 11), .int 1, .int 0, .int (f 14), .int (f 15), .int (f 16), .int (f 17), .int (f 18), .ref az, .ref aq, .ref an, .int (f 22), .int (f 23), .int (f 24), .int (f 25), .int (f 26)]))] H := hP
        have hD : va_D A [(x0, .inr (5, [.int (f 0), .int (f 1), .int (f 2), .int (f 3), .ref aw, .ref ao, .int (f 6), .ref ac, .int (f 8), .int (f 9), .int (f 10), .int (f 11), .int 1, .int 0, .int (f 14), .int (f 15), .int (f 16), .int (f 17), .int (f 18), .ref az, .ref aq, .ref an, .int (f 22), .int (f 23), .int (f 24), .int (f 25), .int (f 26)]))] := hD
        refine lv_aload_n hx hb dD_endPass_48 rfl (lv_at hl 1 rfl) ?_
        refine lv_iconst (v := 0) hx hb dD_endPass_49 (by decide) ?_
        refine va_put (D := (dC, dI)) (ci := 5) (v := .int 0) (ty := .boolean) (C := rD) (T := tD) (N := 27) hx hb hA inD tyD tyD_ok nmD hown hK hP hD hS 0 rfl rfl 10 (by decide) (hA _ wi_498) (fun _ h9 => h9) rfl (by decide +kernel) rfl rfl (Nat.le_of_ble_eq_true rfl) dD_endPass_50 (fun H locs hP hD hS => ?_)
        have hP : va_P (dC, dI) vwCl [(x0, .inr (5, [.int (f 0), .int (f 1), .int (f 2), .int (f 3), .ref aw, .ref ao, .int (f 6), .ref ac, .int (f 8), .int (f 9), .int 0, .int (f 11), .int 1, .int 0, .int (f 14), .int (f 15), .int (f 16), .int (f 17), .int (f 18), .ref az, .ref aq, .ref an, .int (f 22), .int (f 23), .int (f 24), .int (f 25), .int (f 26)]))] H := hP
        have hD : va_D A [(x0, .inr (5, [.int (f 0), .int (f 1), .int (f 2), .int (f 3), .ref aw, .ref ao, .int (f 6), .ref ac, .int (f 8), .int (f 9), .int 0, .int (f 11), .int 1, .int 0, .int (f 14), .int (f 15), .int (f 16), .int (f 17), .int (f 18), .ref az, .ref aq, .ref an, .int (f 22), .int (f 23), .int (f 24), .int (f 25), .int (f 26)]))] := hD
        refine lv_iload_n hx hb dD_endPass_53 rfl (lv_at hl 0 rfl) ?_
        refine lv_if_ne (tgt := 61) hx hb dD_endPass_54 (by decide) (fun c_54 => ?_) (fun c_54 => ?_)
        · exact absurd c_54 (by decide)
        · refine lv_aload_n hx hb dD_endPass_57 rfl (lv_at hl 1 rfl) ?_
          have hP : va_P (dC, dI) vwCl [(x0, .inr (5, [.int ((upd (upd (upd f 12 1) 13 0) 10 0) 0), .int ((upd (upd (upd f 12 1) 13 0) 10 0) 1), .int ((upd (upd (upd f 12 1) 13 0) 10 0) 2), .int ((upd (upd (upd f 12 1) 13 0) 10 0) 3), .ref aw, .ref ao, .int ((upd (upd (upd f 12 1) 13 0) 10 0) 6), .ref ac, .int ((upd (upd (upd f 12 1) 13 0) 10 0) 8), .int ((upd (upd (upd f 12 1) 13 0) 10 0) 9), .int ((upd (upd (upd f 12 1) 13 0) 10 0) 10), .int ((upd (upd (upd f 12 1) 13 0) 10 0) 11), .int ((upd (upd (upd f 12 1) 13 0) 10 0) 12), .int ((upd (upd (upd f 12 1) 13 0) 10 0) 13), .int ((upd (upd (upd f 12 1) 13 0) 10 0) 14), .int ((upd (upd (upd f 12 1) 13 0) 10 0) 15), .int ((upd (upd (upd f 12 1) 13 0) 10 0) 16), .int ((upd (upd (upd f 12 1) 13 0) 10 0) 17), .int ((upd (upd (upd f 12 1) 13 0) 10 0) 18), .ref az, .ref aq, .ref an, .int ((upd (upd (upd f 12 1) 13 0) 10 0) 22), .int ((upd (upd (upd f 12 1) 13 0) 10 0) 23), .int ((upd (upd (upd f 12 1) 13 0) 10 0) 24), .int ((upd (upd (upd f 12 1) 13 0) 10 0) 25), .int ((upd (upd (upd f 12 1) 13 0) 10 0) 26)]))] H := hP
          have hD : va_D A [(x0, .inr (5, [.int ((upd (upd (upd f 12 1) 13 0) 10 0) 0), .int ((upd (upd (upd f 12 1) 13 0) 10 0) 1), .int ((upd (upd (upd f 12 1) 13 0) 10 0) 2), .int ((upd (upd (upd f 12 1) 13 0) 10 0) 3), .ref aw, .ref ao, .int ((upd (upd (upd f 12 1) 13 0) 10 0) 6), .ref ac, .int ((upd (upd (upd f 12 1) 13 0) 10 0) 8), .int ((upd (upd (upd f 12 1) 13 0) 10 0) 9), .int ((upd (upd (upd f 12 1) 13 0) 10 0) 10), .int ((upd (upd (upd f 12 1) 13 0) 10 0) 11), .int ((upd (upd (upd f 12 1) 13 0) 10 0) 12), .int ((upd (upd (upd f 12 1) 13 0) 10 0) 13), .int ((upd (upd (upd f 12 1) 13 0) 10 0) 14), .int ((upd (upd (upd f 12 1) 13 0) 10 0) 15), .int ((upd (upd (upd f 12 1) 13 0) 10 0) 16), .int ((upd (upd (upd f 12 1) 13 0) 10 0) 17), .int ((upd (upd (upd f 12 1) 13 0) 10 0) 18), .ref az, .ref aq, .ref an, .int ((upd (upd (upd f 12 1) 13 0) 10 0) 22), .int ((upd (upd (upd f 12 1) 13 0) 10 0) 23), .int ((upd (upd (upd f 12 1) 13 0) 10 0) 24), .int ((upd (upd (upd f 12 1) 13 0) 10 0) 25), .int ((upd (upd (upd f 12 1) 13 0) 10 0) 26)]))] := hD
          have hPc := hP.sub (ws' := [(x0, .inr (5, [.int ((upd (upd (upd f 12 1) 13 0) 10 0) 0), .int ((upd (upd (upd f 12 1) 13 0) 10 0) 1), .int ((upd (upd (upd f 12 1) 13 0) 10 0) 2), .int ((upd (upd (upd f 12 1) 13 0) 10 0) 3), .ref aw, .ref ao, .int ((upd (upd (upd f 12 1) 13 0) 10 0) 6), .ref ac, .int ((upd (upd (upd f 12 1) 13 0) 10 0) 8), .int ((upd (upd (upd f 12 1) 13 0) 10 0) 9), .int ((upd (upd (upd f 12 1) 13 0) 10 0) 10), .int ((upd (upd (upd f 12 1) 13 0) 10 0) 11), .int ((upd (upd (upd f 12 1) 13 0) 10 0) 12), .int ((upd (upd (upd f 12 1) 13 0) 10 0) 13), .int ((upd (upd (upd f 12 1) 13 0) 10 0) 14), .int ((upd (upd (upd f 12 1) 13 0) 10 0) 15), .int ((upd (upd (upd f 12 1) 13 0) 10 0) 16), .int ((upd (upd (upd f 12 1) 13 0) 10 0) 17), .int ((upd (upd (upd f 12 1) 13 0) 10 0) 18), .ref az, .ref aq, .ref an, .int ((upd (upd (upd f 12 1) 13 0) 10 0) 22), .int ((upd (upd (upd f 12 1) 13 0) 10 0) 23), .int ((upd (upd (upd f 12 1) 13 0) 10 0) 24), .int ((upd (upd (upd f 12 1) 13 0) 10 0) 25), .int ((upd (upd (upd f 12 1) 13 0) 10 0) 26)]))]) [0] rfl
          have hDc := hD.sub (ws' := [(x0, .inr (5, [.int ((upd (upd (upd f 12 1) 13 0) 10 0) 0), .int ((upd (upd (upd f 12 1) 13 0) 10 0) 1), .int ((upd (upd (upd f 12 1) 13 0) 10 0) 2), .int ((upd (upd (upd f 12 1) 13 0) 10 0) 3), .ref aw, .ref ao, .int ((upd (upd (upd f 12 1) 13 0) 10 0) 6), .ref ac, .int ((upd (upd (upd f 12 1) 13 0) 10 0) 8), .int ((upd (upd (upd f 12 1) 13 0) 10 0) 9), .int ((upd (upd (upd f 12 1) 13 0) 10 0) 10), .int ((upd (upd (upd f 12 1) 13 0) 10 0) 11), .int ((upd (upd (upd f 12 1) 13 0) 10 0) 12), .int ((upd (upd (upd f 12 1) 13 0) 10 0) 13), .int ((upd (upd (upd f 12 1) 13 0) 10 0) 14), .int ((upd (upd (upd f 12 1) 13 0) 10 0) 15), .int ((upd (upd (upd f 12 1) 13 0) 10 0) 16), .int ((upd (upd (upd f 12 1) 13 0) 10 0) 17), .int ((upd (upd (upd f 12 1) 13 0) 10 0) 18), .ref az, .ref aq, .ref an, .int ((upd (upd (upd f 12 1) 13 0) 10 0) 22), .int ((upd (upd (upd f 12 1) 13 0) 10 0) 23), .int ((upd (upd (upd f 12 1) 13 0) 10 0) 24), .int ((upd (upd (upd f 12 1) 13 0) 10 0) 25), .int ((upd (upd (upd f 12 1) 13 0) 10 0) 26)]))]) [0] (by decide) rfl
          have hFc := va_free (wc := [(x0, .inr (5, [.int ((upd (upd (upd f 12 1) 13 0) 10 0) 0), .int ((upd (upd (upd f 12 1) 13 0) 10 0) 1), .int ((upd (upd (upd f 12 1) 13 0) 10 0) 2), .int ((upd (upd (upd f 12 1) 13 0) 10 0) 3), .ref aw, .ref ao, .int ((upd (upd (upd f 12 1) 13 0) 10 0) 6), .ref ac, .int ((upd (upd (upd f 12 1) 13 0) 10 0) 8), .int ((upd (upd (upd f 12 1) 13 0) 10 0) 9), .int ((upd (upd (upd f 12 1) 13 0) 10 0) 10), .int ((upd (upd (upd f 12 1) 13 0) 10 0) 11), .int ((upd (upd (upd f 12 1) 13 0) 10 0) 12), .int ((upd (upd (upd f 12 1) 13 0) 10 0) 13), .int ((upd (upd (upd f 12 1) 13 0) 10 0) 14), .int ((upd (upd (upd f 12 1) 13 0) 10 0) 15), .int ((upd (upd (upd f 12 1) 13 0) 10 0) 16), .int ((upd (upd (upd f 12 1) 13 0) 10 0) 17), .int ((upd (upd (upd f 12 1) 13 0) 10 0) 18), .ref az, .ref aq, .ref an, .int ((upd (upd (upd f 12 1) 13 0) 10 0) 22), .int ((upd (upd (upd f 12 1) 13 0) 10 0) 23), .int ((upd (upd (upd f 12 1) 13 0) 10 0) 24), .int ((upd (upd (upd f 12 1) 13 0) 10 0) 25), .int ((upd (upd (upd f 12 1) 13 0) 10 0) 26)]))]) hD hS hF [0] rfl
          refine va_callv (va_runV (As := []) (rest := []) ⟨hx, hb, hml, hown, hA⟩ (kD_bw l dC dI cI cQ x0 aw ao ac az aq an (upd (upd (upd f 12 1) 13 0) 10 0) _) (cwV 0 hA (gd_V wi_619 wi_620 wi_690 wi_6 wi_621) rfl rfl rfl (by decide +kernel) ⟨Nat.le_of_ble_eq_true rfl, Nat.le_of_ble_eq_true rfl⟩) ⟨sp_Pb, va_recv hK hP (ci := 5) (q0 := 0) rfl rfl, sp_Po hPc hK hG hDc⟩ rfl rfl hl.1 rfl (lv_room (Nat.le_of_ble_eq_true rfl)) dD_endPass_58 ⟨Nat.le_of_ble_eq_true rfl, Nat.le_of_ble_eq_true rfl⟩) hS (fun q _ h => hFc q h) hFc (fun u_58 t H locs ht hvm hw hB hz1 hk1 hS => ?_)
          obtain ⟨hP1, hD1⟩ := hB
          rw [ht] at hP1
          obtain ⟨hP, hD⟩ := va_join (wr := []) (w1 := [(x0, .inr (5, [.int ((md_bw (upd (upd (upd f 12 1) 13 0) 10 0)) 0), .int ((md_bw (upd (upd (upd f 12 1) 13 0) 10 0)) 1), .int ((md_bw (upd (upd (upd f 12 1) 13 0) 10 0)) 2), .int ((md_bw (upd (upd (upd f 12 1) 13 0) 10 0)) 3), .ref aw, .ref ao, .int ((md_bw (upd (upd (upd f 12 1) 13 0) 10 0)) 6), .ref ac, .int ((md_bw (upd (upd (upd f 12 1) 13 0) 10 0)) 8), .int ((md_bw (upd (upd (upd f 12 1) 13 0) 10 0)) 9), .int ((md_bw (upd (upd (upd f 12 1) 13 0) 10 0)) 10), .int ((md_bw (upd (upd (upd f 12 1) 13 0) 10 0)) 11), .int ((md_bw (upd (upd (upd f 12 1) 13 0) 10 0)) 12), .int ((md_bw (upd (upd (upd f 12 1) 13 0) 10 0)) 13), .int ((md_bw (upd (upd (upd f 12 1) 13 0) 10 0)) 14), .int ((md_bw (upd (upd (upd f 12 1) 13 0) 10 0)) 15), .int ((md_bw (upd (upd (upd f 12 1) 13 0) 10 0)) 16), .int ((md_bw (upd (upd (upd f 12 1) 13 0) 10 0)) 17), .int ((md_bw (upd (upd (upd f 12 1) 13 0) 10 0)) 18), .ref az, .ref aq, .ref an, .int ((md_bw (upd (upd (upd f 12 1) 13 0) 10 0)) 22), .int ((md_bw (upd (upd (upd f 12 1) 13 0) 10 0)) 23), .int ((md_bw (upd (upd (upd f 12 1) 13 0) 10 0)) 24), .int ((md_bw (upd (upd (upd f 12 1) 13 0) 10 0)) 25), .int ((md_bw (upd (upd (upd f 12 1) 13 0) 10 0)) 26)]))]) hP hD [0] [] rfl rfl (by decide) (by decide) hk1 hFc hP1 hD1
          have hP : va_P (dC, dI) vwCl [(x0, .inr (5, [.int ((md_bw (upd (upd (upd f 12 1) 13 0) 10 0)) 0), .int ((md_bw (upd (upd (upd f 12 1) 13 0) 10 0)) 1), .int ((md_bw (upd (upd (upd f 12 1) 13 0) 10 0)) 2), .int ((md_bw (upd (upd (upd f 12 1) 13 0) 10 0)) 3), .ref aw, .ref ao, .int ((md_bw (upd (upd (upd f 12 1) 13 0) 10 0)) 6), .ref ac, .int ((md_bw (upd (upd (upd f 12 1) 13 0) 10 0)) 8), .int ((md_bw (upd (upd (upd f 12 1) 13 0) 10 0)) 9), .int ((md_bw (upd (upd (upd f 12 1) 13 0) 10 0)) 10), .int ((md_bw (upd (upd (upd f 12 1) 13 0) 10 0)) 11), .int ((md_bw (upd (upd (upd f 12 1) 13 0) 10 0)) 12), .int ((md_bw (upd (upd (upd f 12 1) 13 0) 10 0)) 13), .int ((md_bw (upd (upd (upd f 12 1) 13 0) 10 0)) 14), .int ((md_bw (upd (upd (upd f 12 1) 13 0) 10 0)) 15), .int ((md_bw (upd (upd (upd f 12 1) 13 0) 10 0)) 16), .int ((md_bw (upd (upd (upd f 12 1) 13 0) 10 0)) 17), .int ((md_bw (upd (upd (upd f 12 1) 13 0) 10 0)) 18), .ref az, .ref aq, .ref an, .int ((md_bw (upd (upd (upd f 12 1) 13 0) 10 0)) 22), .int ((md_bw (upd (upd (upd f 12 1) 13 0) 10 0)) 23), .int ((md_bw (upd (upd (upd f 12 1) 13 0) 10 0)) 24), .int ((md_bw (upd (upd (upd f 12 1) 13 0) 10 0)) 25), .int ((md_bw (upd (upd (upd f 12 1) 13 0) 10 0)) 26)]))] H := hP.sub [0] rfl
          have hD : va_D A [(x0, .inr (5, [.int ((md_bw (upd (upd (upd f 12 1) 13 0) 10 0)) 0), .int ((md_bw (upd (upd (upd f 12 1) 13 0) 10 0)) 1), .int ((md_bw (upd (upd (upd f 12 1) 13 0) 10 0)) 2), .int ((md_bw (upd (upd (upd f 12 1) 13 0) 10 0)) 3), .ref aw, .ref ao, .int ((md_bw (upd (upd (upd f 12 1) 13 0) 10 0)) 6), .ref ac, .int ((md_bw (upd (upd (upd f 12 1) 13 0) 10 0)) 8), .int ((md_bw (upd (upd (upd f 12 1) 13 0) 10 0)) 9), .int ((md_bw (upd (upd (upd f 12 1) 13 0) 10 0)) 10), .int ((md_bw (upd (upd (upd f 12 1) 13 0) 10 0)) 11), .int ((md_bw (upd (upd (upd f 12 1) 13 0) 10 0)) 12), .int ((md_bw (upd (upd (upd f 12 1) 13 0) 10 0)) 13), .int ((md_bw (upd (upd (upd f 12 1) 13 0) 10 0)) 14), .int ((md_bw (upd (upd (upd f 12 1) 13 0) 10 0)) 15), .int ((md_bw (upd (upd (upd f 12 1) 13 0) 10 0)) 16), .int ((md_bw (upd (upd (upd f 12 1) 13 0) 10 0)) 17), .int ((md_bw (upd (upd (upd f 12 1) 13 0) 10 0)) 18), .ref az, .ref aq, .ref an, .int ((md_bw (upd (upd (upd f 12 1) 13 0) 10 0)) 22), .int ((md_bw (upd (upd (upd f 12 1) 13 0) 10 0)) 23), .int ((md_bw (upd (upd (upd f 12 1) 13 0) 10 0)) 24), .int ((md_bw (upd (upd (upd f 12 1) 13 0) 10 0)) 25), .int ((md_bw (upd (upd (upd f 12 1) 13 0) 10 0)) 26)]))] := hD.sub [0] (by decide) rfl
          have e_f : (md_ep f) = (md_bw (upd (upd (upd f 12 1) 13 0) 10 0)) := by first | rfl | (simp only [md_ep, md_ep0, c_5, c_12, c_27, c_54, if_true, if_false, ↓reduceIte]; done) | (simp only [md_ep, md_ep0, c_5, c_12, c_27, c_54, if_true, if_false, ↓reduceIte]; rfl) | (simp [md_ep, md_ep0, c_5, c_12, c_27, c_54])
          have hPe : va_P (dC, dI) vwCl [(x0, .inr (5, [.int ((md_ep f) 0), .int ((md_ep f) 1), .int ((md_ep f) 2), .int ((md_ep f) 3), .ref aw, .ref ao, .int ((md_ep f) 6), .ref ac, .int ((md_ep f) 8), .int ((md_ep f) 9), .int ((md_ep f) 10), .int ((md_ep f) 11), .int ((md_ep f) 12), .int ((md_ep f) 13), .int ((md_ep f) 14), .int ((md_ep f) 15), .int ((md_ep f) 16), .int ((md_ep f) 17), .int ((md_ep f) 18), .ref az, .ref aq, .ref an, .int ((md_ep f) 22), .int ((md_ep f) 23), .int ((md_ep f) 24), .int ((md_ep f) 25), .int ((md_ep f) 26)]))] H := by rw [e_f]; exact hP
          have hDe : va_D A [(x0, .inr (5, [.int ((md_ep f) 0), .int ((md_ep f) 1), .int ((md_ep f) 2), .int ((md_ep f) 3), .ref aw, .ref ao, .int ((md_ep f) 6), .ref ac, .int ((md_ep f) 8), .int ((md_ep f) 9), .int ((md_ep f) 10), .int ((md_ep f) 11), .int ((md_ep f) 12), .int ((md_ep f) 13), .int ((md_ep f) 14), .int ((md_ep f) 15), .int ((md_ep f) 16), .int ((md_ep f) 17), .int ((md_ep f) 18), .ref az, .ref aq, .ref an, .int ((md_ep f) 22), .int ((md_ep f) 23), .int ((md_ep f) 24), .int ((md_ep f) 25), .int ((md_ep f) 26)]))] := sp_Dc hD rfl
          exact W.vret hx hb hr (sp_eWv hPe hDe hS) hS.2.2 dD_endPass_61
      · exact absurd (Int32.not_le.mp c_27) c_5
    · refine lv_iconst (v := 1) hx hb dD_endPass_15 (by decide) ?_
      refine lv_goto (tgt := 20) hx hb dD_endPass_16 (by decide) ?_
      refine lv_istore_n (lv' := [(1, .int 1), (0, .ref x0)]) hx hb dD_endPass_20 rfl hl (by decide) rfl (fun ls hl => ?_)
      refine lv_aload_n hx hb dD_endPass_21 rfl (lv_at hl 1 rfl) ?_
      refine lv_aload_n hx hb dD_endPass_22 rfl (lv_at hl 1 rfl) ?_
      refine va_get (D := (dC, dI)) (ci := 5) (C := rD) (T := tD) (N := 27) hx hb hA inD hown hK hP 0 rfl rfl 12 (by decide) (hA _ wi_500) (fun _ h9 => h9) rfl dD_endPass_23 ?_
      refine lv_iconst (v := 1) hx hb dD_endPass_26 (by decide) ?_
      refine lv_icmp_le (tgt := 39) hx hb dD_endPass_27 (by decide) (fun c_27 => ?_) (fun c_27 => ?_)
      · refine lv_iconst (v := 1) hx hb dD_endPass_39 (by decide) ?_
        refine va_put (D := (dC, dI)) (ci := 5) (v := .int 1) (ty := .int) (C := rD) (T := tD) (N := 27) hx hb hA inD tyD tyD_ok nmD hown hK hP hD hS 0 rfl rfl 12 (by decide) (hA _ wi_500) (fun _ h9 => h9) rfl (by decide +kernel) rfl rfl (Nat.le_of_ble_eq_true rfl) dD_endPass_40 (fun H locs hP hD hS => ?_)
        have hP : va_P (dC, dI) vwCl [(x0, .inr (5, [.int (f 0), .int (f 1), .int (f 2), .int (f 3), .ref aw, .ref ao, .int (f 6), .ref ac, .int (f 8), .int (f 9), .int (f 10), .int (f 11), .int 1, .int (f 13), .int (f 14), .int (f 15), .int (f 16), .int (f 17), .int (f 18), .ref az, .ref aq, .ref an, .int (f 22), .int (f 23), .int (f 24), .int (f 25), .int (f 26)]))] H := hP
        have hD : va_D A [(x0, .inr (5, [.int (f 0), .int (f 1), .int (f 2), .int (f 3), .ref aw, .ref ao, .int (f 6), .ref ac, .int (f 8), .int (f 9), .int (f 10), .int (f 11), .int 1, .int (f 13), .int (f 14), .int (f 15), .int (f 16), .int (f 17), .int (f 18), .ref az, .ref aq, .ref an, .int (f 22), .int (f 23), .int (f 24), .int (f 25), .int (f 26)]))] := hD
        refine lv_aload_n hx hb dD_endPass_43 rfl (lv_at hl 1 rfl) ?_
        refine lv_iconst (v := 0) hx hb dD_endPass_44 (by decide) ?_
        refine va_put (D := (dC, dI)) (ci := 5) (v := .int 0) (ty := .int) (C := rD) (T := tD) (N := 27) hx hb hA inD tyD tyD_ok nmD hown hK hP hD hS 0 rfl rfl 13 (by decide) (hA _ wi_501) (fun _ h9 => h9) rfl (by decide +kernel) rfl rfl (Nat.le_of_ble_eq_true rfl) dD_endPass_45 (fun H locs hP hD hS => ?_)
        have hP : va_P (dC, dI) vwCl [(x0, .inr (5, [.int (f 0), .int (f 1), .int (f 2), .int (f 3), .ref aw, .ref ao, .int (f 6), .ref ac, .int (f 8), .int (f 9), .int (f 10), .int (f 11), .int 1, .int 0, .int (f 14), .int (f 15), .int (f 16), .int (f 17), .int (f 18), .ref az, .ref aq, .ref an, .int (f 22), .int (f 23), .int (f 24), .int (f 25), .int (f 26)]))] H := hP
        have hD : va_D A [(x0, .inr (5, [.int (f 0), .int (f 1), .int (f 2), .int (f 3), .ref aw, .ref ao, .int (f 6), .ref ac, .int (f 8), .int (f 9), .int (f 10), .int (f 11), .int 1, .int 0, .int (f 14), .int (f 15), .int (f 16), .int (f 17), .int (f 18), .ref az, .ref aq, .ref an, .int (f 22), .int (f 23), .int (f 24), .int (f 25), .int (f 26)]))] := hD
        refine lv_aload_n hx hb dD_endPass_48 rfl (lv_at hl 1 rfl) ?_
        refine lv_iconst (v := 0) hx hb dD_endPass_49 (by decide) ?_
        refine va_put (D := (dC, dI)) (ci := 5) (v := .int 0) (ty := .boolean) (C := rD) (T := tD) (N := 27) hx hb hA inD tyD tyD_ok nmD hown hK hP hD hS 0 rfl rfl 10 (by decide) (hA _ wi_498) (fun _ h9 => h9) rfl (by decide +kernel) rfl rfl (Nat.le_of_ble_eq_true rfl) dD_endPass_50 (fun H locs hP hD hS => ?_)
        have hP : va_P (dC, dI) vwCl [(x0, .inr (5, [.int (f 0), .int (f 1), .int (f 2), .int (f 3), .ref aw, .ref ao, .int (f 6), .ref ac, .int (f 8), .int (f 9), .int 0, .int (f 11), .int 1, .int 0, .int (f 14), .int (f 15), .int (f 16), .int (f 17), .int (f 18), .ref az, .ref aq, .ref an, .int (f 22), .int (f 23), .int (f 24), .int (f 25), .int (f 26)]))] H := hP
        have hD : va_D A [(x0, .inr (5, [.int (f 0), .int (f 1), .int (f 2), .int (f 3), .ref aw, .ref ao, .int (f 6), .ref ac, .int (f 8), .int (f 9), .int 0, .int (f 11), .int 1, .int 0, .int (f 14), .int (f 15), .int (f 16), .int (f 17), .int (f 18), .ref az, .ref aq, .ref an, .int (f 22), .int (f 23), .int (f 24), .int (f 25), .int (f 26)]))] := hD
        refine lv_iload_n hx hb dD_endPass_53 rfl (lv_at hl 0 rfl) ?_
        refine lv_if_ne (tgt := 61) hx hb dD_endPass_54 (by decide) (fun c_54 => ?_) (fun c_54 => ?_)
        · have e_f : (md_ep f) = (upd (upd (upd f 12 1) 13 0) 10 0) := by first | rfl | (simp only [md_ep, md_ep0, c_5, c_12, c_27, c_54, if_true, if_false, ↓reduceIte]; done) | (simp only [md_ep, md_ep0, c_5, c_12, c_27, c_54, if_true, if_false, ↓reduceIte]; rfl) | (simp [md_ep, md_ep0, c_5, c_12, c_27, c_54])
          have hPe : va_P (dC, dI) vwCl [(x0, .inr (5, [.int ((md_ep f) 0), .int ((md_ep f) 1), .int ((md_ep f) 2), .int ((md_ep f) 3), .ref aw, .ref ao, .int ((md_ep f) 6), .ref ac, .int ((md_ep f) 8), .int ((md_ep f) 9), .int ((md_ep f) 10), .int ((md_ep f) 11), .int ((md_ep f) 12), .int ((md_ep f) 13), .int ((md_ep f) 14), .int ((md_ep f) 15), .int ((md_ep f) 16), .int ((md_ep f) 17), .int ((md_ep f) 18), .ref az, .ref aq, .ref an, .int ((md_ep f) 22), .int ((md_ep f) 23), .int ((md_ep f) 24), .int ((md_ep f) 25), .int ((md_ep f) 26)]))] H := by rw [e_f]; exact hP
          have hDe : va_D A [(x0, .inr (5, [.int ((md_ep f) 0), .int ((md_ep f) 1), .int ((md_ep f) 2), .int ((md_ep f) 3), .ref aw, .ref ao, .int ((md_ep f) 6), .ref ac, .int ((md_ep f) 8), .int ((md_ep f) 9), .int ((md_ep f) 10), .int ((md_ep f) 11), .int ((md_ep f) 12), .int ((md_ep f) 13), .int ((md_ep f) 14), .int ((md_ep f) 15), .int ((md_ep f) 16), .int ((md_ep f) 17), .int ((md_ep f) 18), .ref az, .ref aq, .ref an, .int ((md_ep f) 22), .int ((md_ep f) 23), .int ((md_ep f) 24), .int ((md_ep f) 25), .int ((md_ep f) 26)]))] := sp_Dc hD rfl
          exact W.vret hx hb hr (sp_eWv hPe hDe hS) hS.2.2 dD_endPass_61
        · exact absurd c_54 (by decide)
      · exact absurd (Int32.not_le.mp c_27) c_5
