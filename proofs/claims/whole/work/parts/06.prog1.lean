-- Program: contracts (by wip/gen/prog.py)
set_option maxHeartbeats 4000000 in
set_option maxRecDepth 100000 in
theorem kP_length (l : Launch) (dC : Nat → ClassId) (dI : Nat → Nat → Nat) (cI cQ : ClassId) (h0 w0 o0 : Nat) (n : Int32)  : Met l yP_length (.code yP_length cP_length 1 (some .int) :: wA) ({ frames := 0, cells := 0, slots := 0, locals := 0 }) (sp_R (dC, dI) (kT cI cQ) [.ref h0] [(h0, .inr (0, [.ref w0, .ref o0, .int n]))]) (sp_QRi n) 0 0 (fun _ => False) := by
  refine Met.ofW (cc := cP_length) (maxL := 1) (ret := (some .int)) (by decide) rfl ?_
  intro p e s m args below meth c s₁ B hml hv
  obtain ⟨rfl, hP, hK, hG⟩ := hv
  have hx := B.exec
  have hb := B.bytes
  have hr := B.returns
  have hA := sp_hA (atoms_spec (ws := (.code yP_length cP_length 1 (some .int) :: wA)) B.pre)
  have hown : s.vm.findClass rP = some m.cls := findClass_of_methodNamed B.named
  have hlocks := B.notSynchronized
  have hS : va_S (fun _ => False) s.heap s.heap [] := va_S.rf
  have hl := lv_entry ([.ref h0]) (n := 1) (Nat.le_of_ble_eq_true rfl)
  rw [lg_entry_eq]
  generalize (lg_sl ([.ref h0]) ++ List.replicate (1 - (lg_sl ([.ref h0])).length) Slot.unset).toArray = ls at hl ⊢
  have hl : lv_has ls 1 [(0, .ref h0)] := hl
  refine lv_aload_n hx hb dP_length_0 rfl (lv_at hl 0 rfl) ?_
  refine va_get (D := (dC, dI)) (ci := 0) (C := rP) (T := tP) (N := 3) hx hb hA inP hown hK hP 0 rfl rfl 2 (by decide) (hA _ wi_34) (fun _ h9 => h9) rfl dP_length_1 ?_
  exact W.iret hx hb hr (sp_eRi (rfl) hS) hS.2.2 dP_length_4
set_option maxHeartbeats 4000000 in
set_option maxRecDepth 100000 in
theorem kP_isFull (l : Launch) (dC : Nat → ClassId) (dI : Nat → Nat → Nat) (cI cQ : ClassId) (h0 w0 o0 : Nat) (n : Int32)  : Met l yP_isFull (.code yP_isFull cP_isFull 1 (some .boolean) :: wA) ({ frames := 0, cells := 0, slots := 0, locals := 0 }) (sp_R (dC, dI) (kT cI cQ) [.ref h0] [(h0, .inr (0, [.ref w0, .ref o0, .int n]))]) (sp_QRi (pg_fullI n)) 0 0 (fun _ => False) := by
  refine Met.ofW (cc := cP_isFull) (maxL := 1) (ret := (some .boolean)) (by decide) rfl ?_
  intro p e s m args below meth c s₁ B hml hv
  obtain ⟨rfl, hP, hK, hG⟩ := hv
  have hx := B.exec
  have hb := B.bytes
  have hr := B.returns
  have hA := sp_hA (atoms_spec (ws := (.code yP_isFull cP_isFull 1 (some .boolean) :: wA)) B.pre)
  have hown : s.vm.findClass rP = some m.cls := findClass_of_methodNamed B.named
  have hlocks := B.notSynchronized
  have hS : va_S (fun _ => False) s.heap s.heap [] := va_S.rf
  have hl := lv_entry ([.ref h0]) (n := 1) (Nat.le_of_ble_eq_true rfl)
  rw [lg_entry_eq]
  generalize (lg_sl ([.ref h0]) ++ List.replicate (1 - (lg_sl ([.ref h0])).length) Slot.unset).toArray = ls at hl ⊢
  have hl : lv_has ls 1 [(0, .ref h0)] := hl
  refine lv_aload_n hx hb dP_isFull_0 rfl (lv_at hl 0 rfl) ?_
  refine va_get (D := (dC, dI)) (ci := 0) (C := rP) (T := tP) (N := 3) hx hb hA inP hown hK hP 0 rfl rfl 2 (by decide) (hA _ wi_34) (fun _ h9 => h9) rfl dP_isFull_1 ?_
  refine lv_bipush (v := 48) hx hb dP_isFull_4 (by decide) ?_
  refine lv_icmp_lt (tgt := 13) hx hb dP_isFull_6 (by decide) (fun c_6 => ?_) (fun c_6 => ?_)
  · refine lv_iconst (v := 0) hx hb dP_isFull_13 (by decide) ?_
    exact W.zret hx hb hr rfl (sp_eRi (by simp [pg_fullI, c_6]) hS) hS.2.2 dP_isFull_14
  · refine lv_iconst (v := 1) hx hb dP_isFull_9 (by decide) ?_
    refine lv_goto (tgt := 14) hx hb dP_isFull_10 (by decide) ?_
    exact W.zret hx hb hr rfl (sp_eRi (by simp [pg_fullI, c_6]) hS) hS.2.2 dP_isFull_14
set_option maxHeartbeats 4000000 in
set_option maxRecDepth 100000 in
theorem kP_has (l : Launch) (dC : Nat → ClassId) (dI : Nat → Nat → Nat) (cI cQ : ClassId) (h0 w0 o0 : Nat) (n : Int32) (k : Int32)  : Met l yP_has (.code yP_has cP_has 2 (some .boolean) :: wA) ({ frames := 0, cells := 0, slots := 0, locals := 0 }) (sp_R (dC, dI) (kT cI cQ) [.ref h0, .int k] [(h0, .inr (0, [.ref w0, .ref o0, .int n]))]) (sp_QRi (pg_hasI n k)) 0 0 (fun _ => False) := by
  refine Met.ofW (cc := cP_has) (maxL := 2) (ret := (some .boolean)) (by decide) rfl ?_
  intro p e s m args below meth c s₁ B hml hv
  obtain ⟨rfl, hP, hK, hG⟩ := hv
  have hx := B.exec
  have hb := B.bytes
  have hr := B.returns
  have hA := sp_hA (atoms_spec (ws := (.code yP_has cP_has 2 (some .boolean) :: wA)) B.pre)
  have hown : s.vm.findClass rP = some m.cls := findClass_of_methodNamed B.named
  have hlocks := B.notSynchronized
  have hS : va_S (fun _ => False) s.heap s.heap [] := va_S.rf
  have hl := lv_entry ([.ref h0, .int k]) (n := 2) (Nat.le_of_ble_eq_true rfl)
  rw [lg_entry_eq]
  generalize (lg_sl ([.ref h0, .int k]) ++ List.replicate (2 - (lg_sl ([.ref h0, .int k])).length) Slot.unset).toArray = ls at hl ⊢
  have hl : lv_has ls 2 [(0, .ref h0), (1, .int k)] := hl
  refine lv_iload_n hx hb dP_has_0 rfl (lv_at hl 1 rfl) ?_
  refine lv_if_lt (tgt := 22) hx hb dP_has_1 (by decide) (fun c_1 => ?_) (fun c_1 => ?_)
  · refine lv_iconst (v := 0) hx hb dP_has_22 (by decide) ?_
    exact W.zret hx hb hr rfl (sp_eRi (by simp [pg_hasI, c_1]) hS) hS.2.2 dP_has_23
  · refine lv_iload_n hx hb dP_has_4 rfl (lv_at hl 1 rfl) ?_
    refine lv_aload_n hx hb dP_has_5 rfl (lv_at hl 0 rfl) ?_
    refine va_get (D := (dC, dI)) (ci := 0) (C := rP) (T := tP) (N := 3) hx hb hA inP hown hK hP 0 rfl rfl 2 (by decide) (hA _ wi_34) (fun _ h9 => h9) rfl dP_has_6 ?_
    refine lv_icmp_ge (tgt := 22) hx hb dP_has_9 (by decide) (fun c_9 => ?_) (fun c_9 => ?_)
    · refine lv_iconst (v := 0) hx hb dP_has_22 (by decide) ?_
      exact W.zret hx hb hr rfl (sp_eRi (by simp [pg_hasI, c_1, c_9]) hS) hS.2.2 dP_has_23
    · refine lv_iload_n hx hb dP_has_12 rfl (lv_at hl 1 rfl) ?_
      refine lv_bipush (v := 48) hx hb dP_has_13 (by decide) ?_
      refine lv_icmp_ge (tgt := 22) hx hb dP_has_15 (by decide) (fun c_15 => ?_) (fun c_15 => ?_)
      · refine lv_iconst (v := 0) hx hb dP_has_22 (by decide) ?_
        exact W.zret hx hb hr rfl (sp_eRi (by simp [pg_hasI, c_1, c_9, c_15]) hS) hS.2.2 dP_has_23
      · refine lv_iconst (v := 1) hx hb dP_has_18 (by decide) ?_
        refine lv_goto (tgt := 23) hx hb dP_has_19 (by decide) ?_
        exact W.zret hx hb hr rfl (sp_eRi (by simp [pg_hasI, c_1, c_9, c_15]) hS) hS.2.2 dP_has_23
set_option maxHeartbeats 4000000 in
set_option maxRecDepth 100000 in
theorem kP_word (l : Launch) (dC : Nat → ClassId) (dI : Nat → Nat → Nat) (cI cQ : ClassId) (h0 w0 o0 : Nat) (n : Int32) (ws : Nat → Int32) (k : Int32)  : Met l yP_word (.code yP_word cP_word 2 (some .int) :: wA) ({ frames := 1, cells := 0, slots := 0, locals := 21 }) (sp_R (dC, dI) (kT cI cQ) [.ref h0, .int k] [(h0, .inr (0, [.ref w0, .ref o0, .int n])), (w0, .inl (cI, 48, .inl ws))]) (sp_QRi (pg_word ws n k)) 0 0 (fun _ => False) := by
  refine Met.ofW (cc := cP_word) (maxL := 2) (ret := (some .int)) (by decide) rfl ?_
  intro p e s m args below meth c s₁ B hml hv
  obtain ⟨rfl, hP, hK, hG⟩ := hv
  have hx := B.exec
  have hb := B.bytes
  have hr := B.returns
  have hA := sp_hA (atoms_spec (ws := (.code yP_word cP_word 2 (some .int) :: wA)) B.pre)
  have hown : s.vm.findClass rP = some m.cls := findClass_of_methodNamed B.named
  have hlocks := B.notSynchronized
  have hS : va_S (fun _ => False) s.heap s.heap [] := va_S.rf
  have hl := lv_entry ([.ref h0, .int k]) (n := 2) (Nat.le_of_ble_eq_true rfl)
  rw [lg_entry_eq]
  generalize (lg_sl ([.ref h0, .int k]) ++ List.replicate (2 - (lg_sl ([.ref h0, .int k])).length) Slot.unset).toArray = ls at hl ⊢
  have hl : lv_has ls 2 [(0, .ref h0), (1, .int k)] := hl
  refine lv_aload_n hx hb dP_word_0 rfl (lv_at hl 0 rfl) ?_
  refine lv_iload_n hx hb dP_word_1 rfl (lv_at hl 1 rfl) ?_
  refine va_calli (va_runV (As := [.int k]) (rest := []) ⟨hx, hb, hml, hown, hA⟩ (kP_has l dC dI cI cQ h0 w0 o0 n k) (cwV 1 hA (gd_V wi_325 wi_304 wi_305 wi_3 wi_306) rfl rfl rfl (by decide +kernel) ⟨Nat.le_of_ble_eq_true rfl, Nat.le_of_ble_eq_true rfl⟩) ⟨sp_Rb, va_recv hK hP (ci := 0) (q0 := 0) rfl rfl, sp_Ro (hP.sub [0] rfl) hK hG⟩ rfl rfl hl.1 rfl (lv_room (Nat.le_of_ble_eq_true rfl)) dP_word_2 ⟨Nat.le_of_ble_eq_true rfl, Nat.le_of_ble_eq_true rfl⟩) hS (fun _ _ h => h.elim) (fun _ h => h.elim) (fun r_2 u_2 t H locs ht hvm hw hB hz1 hk1 hS => ?_)
  rw [hw]
  have hP := sp_kp hP hk1
  refine lv_if_eq (tgt := 17) hx hb dP_word_5 (by decide) (fun c_5 => ?_) (fun c_5 => ?_)
  · refine lv_iconst (v := 0) hx hb dP_word_17 (by decide) ?_
    exact W.iret hx hb hr (sp_eRi (by simp [pg_word, c_5]) hS) hS.2.2 dP_word_18
  · refine lv_aload_n hx hb dP_word_8 rfl (lv_at hl 0 rfl) ?_
    refine va_get (D := (dC, dI)) (ci := 0) (C := rP) (T := tP) (N := 3) hx hb hA inP hown hK hP 0 rfl rfl 0 (by decide) (hA _ wi_32) (fun _ h9 => h9) rfl dP_word_9 ?_
    refine lv_iload_n hx hb dP_word_12 rfl (lv_at hl 1 rfl) ?_
    refine va_iald hx hb hK hP 1 0 rfl rfl (pg_has_in c_5) dP_word_13 ?_
    refine lv_goto (tgt := 18) hx hb dP_word_14 (by decide) ?_
    exact W.iret hx hb hr (sp_eRi (by simp [pg_word, c_5]) hS) hS.2.2 dP_word_18
set_option maxHeartbeats 4000000 in
set_option maxRecDepth 100000 in
theorem kP_origin (l : Launch) (dC : Nat → ClassId) (dI : Nat → Nat → Nat) (cI cQ : ClassId) (h0 w0 o0 : Nat) (n : Int32) (os : Nat → Int32) (k : Int32)  : Met l yP_origin (.code yP_origin cP_origin 2 (some .int) :: wA) ({ frames := 1, cells := 0, slots := 0, locals := 21 }) (sp_R (dC, dI) (kT cI cQ) [.ref h0, .int k] [(h0, .inr (0, [.ref w0, .ref o0, .int n])), (o0, .inl (cI, 48, .inl os))]) (sp_QRi (pg_orig os n k)) 0 0 (fun _ => False) := by
  refine Met.ofW (cc := cP_origin) (maxL := 2) (ret := (some .int)) (by decide) rfl ?_
  intro p e s m args below meth c s₁ B hml hv
  obtain ⟨rfl, hP, hK, hG⟩ := hv
  have hx := B.exec
  have hb := B.bytes
  have hr := B.returns
  have hA := sp_hA (atoms_spec (ws := (.code yP_origin cP_origin 2 (some .int) :: wA)) B.pre)
  have hown : s.vm.findClass rP = some m.cls := findClass_of_methodNamed B.named
  have hlocks := B.notSynchronized
  have hS : va_S (fun _ => False) s.heap s.heap [] := va_S.rf
  have hl := lv_entry ([.ref h0, .int k]) (n := 2) (Nat.le_of_ble_eq_true rfl)
  rw [lg_entry_eq]
  generalize (lg_sl ([.ref h0, .int k]) ++ List.replicate (2 - (lg_sl ([.ref h0, .int k])).length) Slot.unset).toArray = ls at hl ⊢
  have hl : lv_has ls 2 [(0, .ref h0), (1, .int k)] := hl
  refine lv_aload_n hx hb dP_origin_0 rfl (lv_at hl 0 rfl) ?_
  refine lv_iload_n hx hb dP_origin_1 rfl (lv_at hl 1 rfl) ?_
  refine va_calli (va_runV (As := [.int k]) (rest := []) ⟨hx, hb, hml, hown, hA⟩ (kP_has l dC dI cI cQ h0 w0 o0 n k) (cwV 1 hA (gd_V wi_325 wi_304 wi_305 wi_3 wi_306) rfl rfl rfl (by decide +kernel) ⟨Nat.le_of_ble_eq_true rfl, Nat.le_of_ble_eq_true rfl⟩) ⟨sp_Rb, va_recv hK hP (ci := 0) (q0 := 0) rfl rfl, sp_Ro (hP.sub [0] rfl) hK hG⟩ rfl rfl hl.1 rfl (lv_room (Nat.le_of_ble_eq_true rfl)) dP_origin_2 ⟨Nat.le_of_ble_eq_true rfl, Nat.le_of_ble_eq_true rfl⟩) hS (fun _ _ h => h.elim) (fun _ h => h.elim) (fun r_2 u_2 t H locs ht hvm hw hB hz1 hk1 hS => ?_)
  rw [hw]
  have hP := sp_kp hP hk1
  refine lv_if_eq (tgt := 17) hx hb dP_origin_5 (by decide) (fun c_5 => ?_) (fun c_5 => ?_)
  · refine lv_iconst (v := (-1)) hx hb dP_origin_17 (by decide) ?_
    exact W.iret hx hb hr (sp_eRi (by simp [pg_orig, c_5]) hS) hS.2.2 dP_origin_18
  · refine lv_aload_n hx hb dP_origin_8 rfl (lv_at hl 0 rfl) ?_
    refine va_get (D := (dC, dI)) (ci := 0) (C := rP) (T := tP) (N := 3) hx hb hA inP hown hK hP 0 rfl rfl 1 (by decide) (hA _ wi_33) (fun _ h9 => h9) rfl dP_origin_9 ?_
    refine lv_iload_n hx hb dP_origin_12 rfl (lv_at hl 1 rfl) ?_
    refine va_iald hx hb hK hP 1 0 rfl rfl (pg_has_in c_5) dP_origin_13 ?_
    refine lv_goto (tgt := 18) hx hb dP_origin_14 (by decide) ?_
    exact W.iret hx hb hr (sp_eRi (by simp [pg_orig, c_5]) hS) hS.2.2 dP_origin_18
set_option maxHeartbeats 4000000 in
set_option maxRecDepth 100000 in
theorem kP_shift (l : Launch) (dC : Nat → ClassId) (dI : Nat → Nat → Nat) (cI cQ : ClassId) (b : Int32)  : Met l yP_shift (.code yP_shift cP_shift 1 (some .int) :: wA) ({ frames := 0, cells := 0, slots := 0, locals := 0 }) (sp_R (dC, dI) (kT cI cQ) [.int b] []) (sp_QRi (pg_shift b)) 0 0 (fun _ => False) := by
  refine Met.ofW (cc := cP_shift) (maxL := 1) (ret := (some .int)) (by decide) rfl ?_
  intro p e s m args below meth c s₁ B hml hv
  obtain ⟨rfl, hP, hK, hG⟩ := hv
  have hx := B.exec
  have hb := B.bytes
  have hr := B.returns
  have hA := sp_hA (atoms_spec (ws := (.code yP_shift cP_shift 1 (some .int) :: wA)) B.pre)
  have hown : s.vm.findClass rP = some m.cls := findClass_of_methodNamed B.named
  have hlocks := B.notSynchronized
  have hS : va_S (fun _ => False) s.heap s.heap [] := va_S.rf
  have hl := lv_entry ([.int b]) (n := 1) (Nat.le_of_ble_eq_true rfl)
  rw [lg_entry_eq]
  generalize (lg_sl ([.int b]) ++ List.replicate (1 - (lg_sl ([.int b])).length) Slot.unset).toArray = ls at hl ⊢
  have hl : lv_has ls 1 [(0, .int b)] := hl
  refine lv_bipush (v := 8) hx hb dP_shift_0 (by decide) ?_
  refine lv_iconst (v := 3) hx hb dP_shift_2 (by decide) ?_
  refine lv_iload_n hx hb dP_shift_3 rfl (lv_at hl 0 rfl) ?_
  refine lv_isub hx hb dP_shift_4 ?_
  refine lv_imul hx hb dP_shift_5 ?_
  exact W.iret hx hb hr (sp_eRi (rfl) hS) hS.2.2 dP_shift_6
set_option maxHeartbeats 4000000 in
set_option maxRecDepth 100000 in
theorem kP_byteOf (l : Launch) (dC : Nat → ClassId) (dI : Nat → Nat → Nat) (cI cQ : ClassId) (h0 w0 o0 : Nat) (n : Int32) (ws : Nat → Int32) (k b : Int32)  : Met l yP_byteOf (.code yP_byteOf cP_byteOf 3 (some .int) :: wA) ({ frames := 2, cells := 0, slots := 0, locals := 42 }) (sp_R (dC, dI) (kT cI cQ) [.ref h0, .int k, .int b] [(h0, .inr (0, [.ref w0, .ref o0, .int n])), (w0, .inl (cI, 48, .inl ws))]) (sp_QRi (pg_byte ws n k b)) 0 0 (fun _ => False) := by
  refine Met.ofW (cc := cP_byteOf) (maxL := 3) (ret := (some .int)) (by decide) rfl ?_
  intro p e s m args below meth c s₁ B hml hv
  obtain ⟨rfl, hP, hK, hG⟩ := hv
  have hx := B.exec
  have hb := B.bytes
  have hr := B.returns
  have hA := sp_hA (atoms_spec (ws := (.code yP_byteOf cP_byteOf 3 (some .int) :: wA)) B.pre)
  have hown : s.vm.findClass rP = some m.cls := findClass_of_methodNamed B.named
  have hlocks := B.notSynchronized
  have hS : va_S (fun _ => False) s.heap s.heap [] := va_S.rf
  have hl := lv_entry ([.ref h0, .int k, .int b]) (n := 3) (Nat.le_of_ble_eq_true rfl)
  rw [lg_entry_eq]
  generalize (lg_sl ([.ref h0, .int k, .int b]) ++ List.replicate (3 - (lg_sl ([.ref h0, .int k, .int b])).length) Slot.unset).toArray = ls at hl ⊢
  have hl : lv_has ls 3 [(0, .ref h0), (1, .int k), (2, .int b)] := hl
  refine lv_aload_n hx hb dP_byteOf_0 rfl (lv_at hl 0 rfl) ?_
  refine lv_iload_n hx hb dP_byteOf_1 rfl (lv_at hl 1 rfl) ?_
  refine va_calli (va_runV (As := [.int k]) (rest := []) ⟨hx, hb, hml, hown, hA⟩ (kP_word l dC dI cI cQ h0 w0 o0 n ws k) (cwV 1 hA (gd_V wi_394 wi_322 wi_323 wi_3 wi_324) rfl rfl rfl (by decide +kernel) ⟨Nat.le_of_ble_eq_true rfl, Nat.le_of_ble_eq_true rfl⟩) ⟨sp_Rb, va_recv hK hP (ci := 0) (q0 := 0) rfl rfl, sp_Ro (hP.sub [0, 1] rfl) hK hG⟩ rfl rfl hl.1 rfl (lv_room (Nat.le_of_ble_eq_true rfl)) dP_byteOf_2 ⟨Nat.le_of_ble_eq_true rfl, Nat.le_of_ble_eq_true rfl⟩) hS (fun _ _ h => h.elim) (fun _ h => h.elim) (fun r_2 u_2 t H locs ht hvm hw hB hz1 hk1 hS => ?_)
  rw [hw]
  have hP := sp_kp hP hk1
  refine lv_iload_n hx hb dP_byteOf_5 rfl (lv_at hl 2 rfl) ?_
  refine va_calli (va_runS (As := [.int b]) (rest := [.int (pg_word ws n k)]) ⟨hx, hb, hml, hown, hA⟩ (kP_shift l dC dI cI cQ b) (cwS 1 hA (gd_S wi_395 wi_396 wi_3 wi_397) rfl rfl rfl (by decide +kernel) ⟨Nat.le_of_ble_eq_true rfl, Nat.le_of_ble_eq_true rfl⟩) ⟨sp_Rb, sp_Ro (hP.sub [] rfl) hK hG⟩ rfl rfl hl.1 rfl (lv_room (Nat.le_of_ble_eq_true rfl)) dP_byteOf_6 ⟨Nat.le_of_ble_eq_true rfl, Nat.le_of_ble_eq_true rfl⟩) hS (fun _ _ h => h.elim) (fun _ h => h.elim) (fun r_6 u_6 t H locs ht hvm hw hB hz1 hk1 hS => ?_)
  rw [hw]
  have hP := sp_kp hP hk1
  refine lv_iushr hx hb dP_byteOf_9 rfl ?_
  refine lv_sipush (v := 255) hx hb dP_byteOf_10 (by decide) ?_
  refine lv_iand hx hb dP_byteOf_13 ?_
  exact W.iret hx hb hr (sp_eRi (rfl) hS) hS.2.2 dP_byteOf_14
set_option maxHeartbeats 4000000 in
set_option maxRecDepth 100000 in
theorem kP_clear (l : Launch) (dC : Nat → ClassId) (dI : Nat → Nat → Nat) (cI cQ : ClassId) (h0 w0 o0 : Nat) (n : Int32) (ws os : Nat → Int32) (sz : Nat)  : Met l yP_clear (.code yP_clear cP_clear 1 none :: wA) ({ frames := 0, cells := 0, slots := 0, locals := 0 }) (sp_P (dC, dI) (kT cI cQ) [.ref h0] [(h0, .inr (0, [.ref w0, .ref o0, .int n])), (w0, .inl (cI, 48, .inl ws)), (o0, .inl (cI, 48, .inl os))] sz) (sp_QWv (dC, dI) [(h0, .inr (0, [.ref w0, .ref o0, .int 0])), (w0, .inl (cI, 48, .inl ws)), (o0, .inl (cI, 48, .inl os))] (va_A [(h0, .inr (0, [.ref w0, .ref o0, .int n])), (w0, .inl (cI, 48, .inl ws)), (o0, .inl (cI, 48, .inl os))] sz)) 0 0 (va_A [(h0, .inr (0, [.ref w0, .ref o0, .int n])), (w0, .inl (cI, 48, .inl ws)), (o0, .inl (cI, 48, .inl os))] sz) := by
  refine Met.ofW (cc := cP_clear) (maxL := 1) (ret := none) (by decide) rfl ?_
  intro p e s m args below meth c s₁ B hml hv
  obtain ⟨rfl, hsz, hP, hK, hD0, hG⟩ := hv
  have hx := B.exec
  have hb := B.bytes
  have hr := B.returns
  have hA := sp_hA (atoms_spec (ws := (.code yP_clear cP_clear 1 none :: wA)) B.pre)
  have hown : s.vm.findClass rP = some m.cls := findClass_of_methodNamed B.named
  have hlocks := B.notSynchronized
  subst hsz
  have hD := hD0.self (sz := s.heap.size)
  generalize hAe : va_A [(h0, .inr (0, [.ref w0, .ref o0, .int n])), (w0, .inl (cI, 48, .inl ws)), (o0, .inl (cI, 48, .inl os))] s.heap.size = A at hD ⊢
  have hF : ∀ q : Nat, s.heap.size ≤ q → A q := fun q h => by rw [← hAe]; exact Or.inr h
  have hS : va_S A s.heap s.heap [] := va_S.rf
  have hl := lv_entry ([.ref h0]) (n := 1) (Nat.le_of_ble_eq_true rfl)
  rw [lg_entry_eq]
  generalize (lg_sl ([.ref h0]) ++ List.replicate (1 - (lg_sl ([.ref h0])).length) Slot.unset).toArray = ls at hl ⊢
  have hl : lv_has ls 1 [(0, .ref h0)] := hl
  refine lv_aload_n hx hb dP_clear_0 rfl (lv_at hl 0 rfl) ?_
  refine lv_iconst (v := 0) hx hb dP_clear_1 (by decide) ?_
  refine va_put (D := (dC, dI)) (ci := 0) (v := .int 0) (ty := .int) (C := rP) (T := tP) (N := 3) hx hb hA inP tyP tyP_ok nmP hown hK hP hD hS 0 rfl rfl 2 (by decide) (hA _ wi_34) (fun _ h9 => h9) rfl (by decide +kernel) rfl rfl (Nat.le_of_ble_eq_true rfl) dP_clear_2 (fun H locs hP hD hS => ?_)
  have hP : va_P (dC, dI) vwCl [(h0, .inr (0, [.ref w0, .ref o0, .int 0])), (w0, .inl (cI, 48, .inl ws)), (o0, .inl (cI, 48, .inl os))] H := hP
  have hD : va_D A [(h0, .inr (0, [.ref w0, .ref o0, .int 0])), (w0, .inl (cI, 48, .inl ws)), (o0, .inl (cI, 48, .inl os))] := hD
  have hPe : va_P (dC, dI) vwCl [(h0, .inr (0, [.ref w0, .ref o0, .int 0])), (w0, .inl (cI, 48, .inl ws)), (o0, .inl (cI, 48, .inl os))] H := by exact hP
  have hDe : va_D A [(h0, .inr (0, [.ref w0, .ref o0, .int 0])), (w0, .inl (cI, 48, .inl ws)), (o0, .inl (cI, 48, .inl os))] := sp_Dc hD rfl
  exact W.vret hx hb hr (sp_eWv hPe hDe hS) hS.2.2 dP_clear_5
set_option maxHeartbeats 4000000 in
set_option maxRecDepth 100000 in
theorem kP_append (l : Launch) (dC : Nat → ClassId) (dI : Nat → Nat → Nat) (cI cQ : ClassId) (h0 w0 o0 : Nat) (n : Int32) (ws os : Nat → Int32) (x : Int32) (sz : Nat)  : Met l yP_append (.code yP_append cP_append 2 none :: wA) ({ frames := 0, cells := 0, slots := 0, locals := 0 }) (sp_P (dC, dI) (kT cI cQ) [.ref h0, .int x] [(h0, .inr (0, [.ref w0, .ref o0, .int n])), (w0, .inl (cI, 48, .inl ws)), (o0, .inl (cI, 48, .inl os))] sz) (sp_QWv (dC, dI) [(h0, .inr (0, [.ref w0, .ref o0, .int (pg_apN n)])), (w0, .inl (cI, 48, .inl (pg_apW ws n x))), (o0, .inl (cI, 48, .inl (pg_apO os n)))] (va_A [(h0, .inr (0, [.ref w0, .ref o0, .int n])), (w0, .inl (cI, 48, .inl ws)), (o0, .inl (cI, 48, .inl os))] sz)) 0 0 (va_A [(h0, .inr (0, [.ref w0, .ref o0, .int n])), (w0, .inl (cI, 48, .inl ws)), (o0, .inl (cI, 48, .inl os))] sz) := by
  refine Met.ofW (cc := cP_append) (maxL := 2) (ret := none) (by decide) rfl ?_
  intro p e s m args below meth c s₁ B hml hv
  obtain ⟨rfl, hsz, hP, hK, hD0, hG⟩ := hv
  have hx := B.exec
  have hb := B.bytes
  have hr := B.returns
  have hA := sp_hA (atoms_spec (ws := (.code yP_append cP_append 2 none :: wA)) B.pre)
  have hown : s.vm.findClass rP = some m.cls := findClass_of_methodNamed B.named
  have hlocks := B.notSynchronized
  subst hsz
  have hD := hD0.self (sz := s.heap.size)
  generalize hAe : va_A [(h0, .inr (0, [.ref w0, .ref o0, .int n])), (w0, .inl (cI, 48, .inl ws)), (o0, .inl (cI, 48, .inl os))] s.heap.size = A at hD ⊢
  have hF : ∀ q : Nat, s.heap.size ≤ q → A q := fun q h => by rw [← hAe]; exact Or.inr h
  have hS : va_S A s.heap s.heap [] := va_S.rf
  have hl := lv_entry ([.ref h0, .int x]) (n := 2) (Nat.le_of_ble_eq_true rfl)
  rw [lg_entry_eq]
  generalize (lg_sl ([.ref h0, .int x]) ++ List.replicate (2 - (lg_sl ([.ref h0, .int x])).length) Slot.unset).toArray = ls at hl ⊢
  have hl : lv_has ls 2 [(0, .ref h0), (1, .int x)] := hl
  refine lv_aload_n hx hb dP_append_0 rfl (lv_at hl 0 rfl) ?_
  refine va_get (D := (dC, dI)) (ci := 0) (C := rP) (T := tP) (N := 3) hx hb hA inP hown hK hP 0 rfl rfl 2 (by decide) (hA _ wi_34) (fun _ h9 => h9) rfl dP_append_1 ?_
  refine lv_if_lt (tgt := 49) hx hb dP_append_4 (by decide) (fun c_4 => ?_) (fun c_4 => ?_)
  · have hPe : va_P (dC, dI) vwCl [(h0, .inr (0, [.ref w0, .ref o0, .int (pg_apN n)])), (w0, .inl (cI, 48, .inl (pg_apW ws n x))), (o0, .inl (cI, 48, .inl (pg_apO os n)))] s.heap := by simpa [pg_apN, pg_apW, pg_apO, c_4] using hP
    have hDe : va_D A [(h0, .inr (0, [.ref w0, .ref o0, .int (pg_apN n)])), (w0, .inl (cI, 48, .inl (pg_apW ws n x))), (o0, .inl (cI, 48, .inl (pg_apO os n)))] := sp_Dc hD rfl
    exact W.vret hx hb hr (sp_eWv hPe hDe hS) hS.2.2 dP_append_49
  · refine lv_aload_n hx hb dP_append_7 rfl (lv_at hl 0 rfl) ?_
    refine va_get (D := (dC, dI)) (ci := 0) (C := rP) (T := tP) (N := 3) hx hb hA inP hown hK hP 0 rfl rfl 2 (by decide) (hA _ wi_34) (fun _ h9 => h9) rfl dP_append_8 ?_
    refine lv_bipush (v := 48) hx hb dP_append_11 (by decide) ?_
    refine lv_icmp_ge (tgt := 49) hx hb dP_append_13 (by decide) (fun c_13 => ?_) (fun c_13 => ?_)
    · have hPe : va_P (dC, dI) vwCl [(h0, .inr (0, [.ref w0, .ref o0, .int (pg_apN n)])), (w0, .inl (cI, 48, .inl (pg_apW ws n x))), (o0, .inl (cI, 48, .inl (pg_apO os n)))] s.heap := by simpa [pg_apN, pg_apW, pg_apO, c_4, c_13] using hP
      have hDe : va_D A [(h0, .inr (0, [.ref w0, .ref o0, .int (pg_apN n)])), (w0, .inl (cI, 48, .inl (pg_apW ws n x))), (o0, .inl (cI, 48, .inl (pg_apO os n)))] := sp_Dc hD rfl
      exact W.vret hx hb hr (sp_eWv hPe hDe hS) hS.2.2 dP_append_49
    · refine lv_aload_n hx hb dP_append_16 rfl (lv_at hl 0 rfl) ?_
      refine va_get (D := (dC, dI)) (ci := 0) (C := rP) (T := tP) (N := 3) hx hb hA inP hown hK hP 0 rfl rfl 0 (by decide) (hA _ wi_32) (fun _ h9 => h9) rfl dP_append_17 ?_
      refine lv_aload_n hx hb dP_append_20 rfl (lv_at hl 0 rfl) ?_
      refine va_get (D := (dC, dI)) (ci := 0) (C := rP) (T := tP) (N := 3) hx hb hA inP hown hK hP 0 rfl rfl 2 (by decide) (hA _ wi_34) (fun _ h9 => h9) rfl dP_append_21 ?_
      refine lv_iload_n hx hb dP_append_24 rfl (lv_at hl 1 rfl) ?_
      refine va_iast hx hb hK hP hD hS 1 0 rfl rfl (ix_in c_4 c_13) dP_append_25 (fun H locs hP hD hS => ?_)
      have hP : va_P (dC, dI) vwCl [(h0, .inr (0, [.ref w0, .ref o0, .int n])), (w0, .inl (cI, 48, .inl (upd ws (Int32.toNatClampNeg n) x))), (o0, .inl (cI, 48, .inl os))] H := hP
      have hD : va_D A [(h0, .inr (0, [.ref w0, .ref o0, .int n])), (w0, .inl (cI, 48, .inl (upd ws (Int32.toNatClampNeg n) x))), (o0, .inl (cI, 48, .inl os))] := hD
      refine lv_aload_n hx hb dP_append_26 rfl (lv_at hl 0 rfl) ?_
      refine va_get (D := (dC, dI)) (ci := 0) (C := rP) (T := tP) (N := 3) hx hb hA inP hown hK hP 0 rfl rfl 1 (by decide) (hA _ wi_33) (fun _ h9 => h9) rfl dP_append_27 ?_
      refine lv_aload_n hx hb dP_append_30 rfl (lv_at hl 0 rfl) ?_
      refine va_get (D := (dC, dI)) (ci := 0) (C := rP) (T := tP) (N := 3) hx hb hA inP hown hK hP 0 rfl rfl 2 (by decide) (hA _ wi_34) (fun _ h9 => h9) rfl dP_append_31 ?_
      refine lv_aload_n hx hb dP_append_34 rfl (lv_at hl 0 rfl) ?_
      refine va_get (D := (dC, dI)) (ci := 0) (C := rP) (T := tP) (N := 3) hx hb hA inP hown hK hP 0 rfl rfl 2 (by decide) (hA _ wi_34) (fun _ h9 => h9) rfl dP_append_35 ?_
      refine va_iast hx hb hK hP hD hS 2 0 rfl rfl (ix_in c_4 c_13) dP_append_38 (fun H locs hP hD hS => ?_)
      have hP : va_P (dC, dI) vwCl [(h0, .inr (0, [.ref w0, .ref o0, .int n])), (w0, .inl (cI, 48, .inl (upd ws (Int32.toNatClampNeg n) x))), (o0, .inl (cI, 48, .inl (upd os (Int32.toNatClampNeg n) n)))] H := hP
      have hD : va_D A [(h0, .inr (0, [.ref w0, .ref o0, .int n])), (w0, .inl (cI, 48, .inl (upd ws (Int32.toNatClampNeg n) x))), (o0, .inl (cI, 48, .inl (upd os (Int32.toNatClampNeg n) n)))] := hD
      refine lv_aload_n hx hb dP_append_39 rfl (lv_at hl 0 rfl) ?_
      refine lv_dup hx hb dP_append_40 rfl ?_
      refine va_get (D := (dC, dI)) (ci := 0) (C := rP) (T := tP) (N := 3) hx hb hA inP hown hK hP 0 rfl rfl 2 (by decide) (hA _ wi_34) (fun _ h9 => h9) rfl dP_append_41 ?_
      refine lv_iconst (v := 1) hx hb dP_append_44 (by decide) ?_
      refine lv_iadd hx hb dP_append_45 ?_
      refine va_put (D := (dC, dI)) (ci := 0) (v := .int (n + 1)) (ty := .int) (C := rP) (T := tP) (N := 3) hx hb hA inP tyP tyP_ok nmP hown hK hP hD hS 0 rfl rfl 2 (by decide) (hA _ wi_34) (fun _ h9 => h9) rfl (by decide +kernel) rfl rfl (Nat.le_of_ble_eq_true rfl) dP_append_46 (fun H locs hP hD hS => ?_)
      have hP : va_P (dC, dI) vwCl [(h0, .inr (0, [.ref w0, .ref o0, .int (n + 1)])), (w0, .inl (cI, 48, .inl (upd ws (Int32.toNatClampNeg n) x))), (o0, .inl (cI, 48, .inl (upd os (Int32.toNatClampNeg n) n)))] H := hP
      have hD : va_D A [(h0, .inr (0, [.ref w0, .ref o0, .int (n + 1)])), (w0, .inl (cI, 48, .inl (upd ws (Int32.toNatClampNeg n) x))), (o0, .inl (cI, 48, .inl (upd os (Int32.toNatClampNeg n) n)))] := hD
      have hPe : va_P (dC, dI) vwCl [(h0, .inr (0, [.ref w0, .ref o0, .int (pg_apN n)])), (w0, .inl (cI, 48, .inl (pg_apW ws n x))), (o0, .inl (cI, 48, .inl (pg_apO os n)))] H := by simpa [pg_apN, pg_apW, pg_apO, c_4, c_13] using hP
      have hDe : va_D A [(h0, .inr (0, [.ref w0, .ref o0, .int (pg_apN n)])), (w0, .inl (cI, 48, .inl (pg_apW ws n x))), (o0, .inl (cI, 48, .inl (pg_apO os n)))] := sp_Dc hD rfl
      exact W.vret hx hb hr (sp_eWv hPe hDe hS) hS.2.2 dP_append_49

