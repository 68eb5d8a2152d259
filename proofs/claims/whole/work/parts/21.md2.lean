-- the reference: contracts with loops (by wip/gen/mdc2.py)
set_option maxHeartbeats 4000000 in
set_option maxRecDepth 100000 in
theorem kD_isAsked (l : Launch) (dC : Nat → ClassId) (dI : Nat → Nat → Nat) (cI cQ : ClassId) (x0 aw ao ac az aq an : Nat) (f : Nat → Int32) (Sz : Nat → Int32) (Aw : Nat → Int32) (Cd : Nat → Int32) (cz a : Nat) (hc : f 6 = nI cz) (hc48 : cz ≤ 48) (ha : a < 600) : Met l yD_isAsked (.code yD_isAsked cD_isAsked 3 (some .boolean) :: wA) ({ frames := 0, cells := 0, slots := 0, locals := 0 }) (sp_R (dC, dI) (kT cI cQ) [.ref x0, .int (nI a)] [(x0, .inr (5, [.int (f 0), .int (f 1), .int (f 2), .int (f 3), .ref aw, .ref ao, .int (f 6), .ref ac, .int (f 8), .int (f 9), .int (f 10), .int (f 11), .int (f 12), .int (f 13), .int (f 14), .int (f 15), .int (f 16), .int (f 17), .int (f 18), .ref az, .ref aq, .ref an, .int (f 22), .int (f 23), .int (f 24), .int (f 25), .int (f 26)])), (az, .inl (cI, 600, .inl Sz)), (aq, .inl (cI, 28800, .inl Aw)), (ac, .inl (cI, 48, .inl Cd))]) (sp_QRi (md_isI Sz Aw Cd cz a)) 0 0 (fun _ => False) := by
  refine Met.ofW (cc := cD_isAsked) (maxL := 3) (ret := (some .boolean)) (by decide) rfl ?_
  intro p e s m args below meth c s₁ B hml hv
  obtain ⟨rfl, hP, hK, hG⟩ := hv
  have hx := B.exec
  have hb := B.bytes
  have hr := B.returns
  have hA := sp_hA (atoms_spec (ws := (.code yD_isAsked cD_isAsked 3 (some .boolean) :: wA)) B.pre)
  have hown : s.vm.findClass rD = some m.cls := findClass_of_methodNamed B.named
  have hlocks := B.notSynchronized
  have hS : va_S (fun _ => False) s.heap s.heap [] := va_S.rf
  have hl := lv_entry ([.ref x0, .int (nI a)]) (n := 3) (Nat.le_of_ble_eq_true rfl)
  rw [lg_entry_eq]
  generalize (lg_sl ([.ref x0, .int (nI a)]) ++ List.replicate (3 - (lg_sl ([.ref x0, .int (nI a)])).length) Slot.unset).toArray = ls at hl ⊢
  have hl : lv_has ls 3 [(0, .ref x0), (1, .int (nI a))] := hl
  refine lv_aload_n hx hb dD_isAsked_0 rfl (lv_at hl 0 rfl) ?_
  refine va_get (D := (dC, dI)) (ci := 5) (C := rD) (T := tD) (N := 27) hx hb hA inD hown hK hP 0 rfl rfl 19 (by decide) (hA _ wi_507) (fun _ h9 => h9) rfl dD_isAsked_1 ?_
  refine lv_iload_n hx hb dD_isAsked_4 rfl (lv_at hl 1 rfl) ?_
  refine va_iald hx hb hK hP 1 0 rfl rfl (vp_in_nI ha (by decide)) dD_isAsked_5 ?_
  refine lv_aload_n hx hb dD_isAsked_6 rfl (lv_at hl 0 rfl) ?_
  refine va_get (D := (dC, dI)) (ci := 5) (C := rD) (T := tD) (N := 27) hx hb hA inD hown hK hP 0 rfl rfl 6 (by decide) (hA _ wi_494) (fun _ h9 => h9) rfl dD_isAsked_7 ?_
  refine lv_icmp_eq (tgt := 15) hx hb dD_isAsked_10 (by decide) (fun c_10 => ?_) (fun c_10 => ?_)
  · refine lv_iconst (v := 0) hx hb dD_isAsked_15 (by decide) ?_
    refine lv_istore_n (lv' := [(2, .int 0), (0, .ref x0), (1, .int (nI a))]) hx hb dD_isAsked_16 rfl hl (by decide) rfl (fun ls hl => ?_)
    have loop : ∀ (n9 : Nat) (i : Nat) (H : Heap) (locs : List Loc) (ls : Array Slot), cz - i < n9 → (i ≤ cz) → (∀ j, j < i → Aw (48 * a + j) = Cd j) → va_P (dC, dI) vwCl [(x0, .inr (5, [.int (f 0), .int (f 1), .int (f 2), .int (f 3), .ref aw, .ref ao, .int (f 6), .ref ac, .int (f 8), .int (f 9), .int (f 10), .int (f 11), .int (f 12), .int (f 13), .int (f 14), .int (f 15), .int (f 16), .int (f 17), .int (f 18), .ref az, .ref aq, .ref an, .int (f 22), .int (f 23), .int (f 24), .int (f 25), .int (f 26)])), (az, .inl (cI, 600, .inl Sz)), (aq, .inl (cI, 28800, .inl Aw)), (ac, .inl (cI, 48, .inl Cd))] H → va_S (fun _ => False) s.heap H locs → lv_has ls 3 [(2, .int (nI i)), (0, .ref x0), (1, .int (nI a))] → W p l e (headSpec (.code yD_isAsked cD_isAsked 3 (some .boolean) :: wA) ({ frames := 0, cells := 0, slots := 0, locals := 0 })).room s m ([.ref x0, .int (nI a)]).toArray below meth c H locs 0 0 (MQ below (sp_QRi (md_isI Sz Aw Cd cz a)) ([.ref x0, .int (nI a)]).toArray s 0 0 (fun _ => False)) (F0 m 17 ls []) := by
      intro n9
      induction n9 with
      | zero => intro i H locs ls hm9 hiM hsm hP hS hl; exact absurd hm9 (Nat.not_lt_zero _)
      | succ n9 ih =>
        intro i H locs ls hm9 hiM hsm hP hS hl
        refine lv_iload_n hx hb dD_isAsked_17 rfl (lv_at hl 0 rfl) ?_
        refine lv_aload_n hx hb dD_isAsked_18 rfl (lv_at hl 1 rfl) ?_
        refine va_get (D := (dC, dI)) (ci := 5) (C := rD) (T := tD) (N := 27) hx hb hA inD hown hK hP 0 rfl rfl 6 (by decide) (hA _ wi_494) (fun _ h9 => h9) rfl dD_isAsked_19 ?_
        refine lv_icmp_ge (tgt := 53) hx hb dD_isAsked_22 (by decide) (fun c_22 => ?_) (fun c_22 => ?_)
        · refine lv_iconst (v := 1) hx hb dD_isAsked_53 (by decide) ?_
          exact W.zret hx hb hr rfl (sp_eRi (by rw [nI_clamp (by omega), hc] at c_10; have := cl_le (show i < 2 ^ 31 by omega) c_22; rw [hc, nI_clamp (by omega)] at this; rw [md_isI, if_pos]; exact ⟨c_10, fun j hj => hsm j (by omega)⟩) hS) hS.2.2 dD_isAsked_54
        · refine lv_aload_n hx hb dD_isAsked_25 rfl (lv_at hl 1 rfl) ?_
          refine va_get (D := (dC, dI)) (ci := 5) (C := rD) (T := tD) (N := 27) hx hb hA inD hown hK hP 0 rfl rfl 20 (by decide) (hA _ wi_508) (fun _ h9 => h9) rfl dD_isAsked_26 ?_
          refine lv_bipush (v := 48) hx hb dD_isAsked_29 (by decide) ?_
          refine lv_iload_n hx hb dD_isAsked_31 rfl (lv_at hl 2 rfl) ?_
          refine lv_imul hx hb dD_isAsked_32 ?_
          refine lv_iload_n hx hb dD_isAsked_33 rfl (lv_at hl 0 rfl) ?_
          refine lv_iadd hx hb dD_isAsked_34 ?_
          refine va_iald hx hb hK hP 2 0 rfl rfl (by rw [nI_48]; exact vp_in_nI (by have := cl_lt (show i < 2 ^ 31 by omega) c_22; rw [hc, nI_clamp (by omega)] at this; omega) (by decide)) dD_isAsked_35 ?_
          refine lv_aload_n hx hb dD_isAsked_36 rfl (lv_at hl 1 rfl) ?_
          refine va_get (D := (dC, dI)) (ci := 5) (C := rD) (T := tD) (N := 27) hx hb hA inD hown hK hP 0 rfl rfl 7 (by decide) (hA _ wi_495) (fun _ h9 => h9) rfl dD_isAsked_37 ?_
          refine lv_iload_n hx hb dD_isAsked_40 rfl (lv_at hl 0 rfl) ?_
          refine va_iald hx hb hK hP 3 0 rfl rfl (vp_in_nI (by have := cl_lt (show i < 2 ^ 31 by omega) c_22; rw [hc, nI_clamp (by omega)] at this; omega) (by decide)) dD_isAsked_41 ?_
          refine lv_icmp_eq (tgt := 47) hx hb dD_isAsked_42 (by decide) (fun c_42 => ?_) (fun c_42 => ?_)
          · refine lv_iinc (v := ((nI i) + 1)) (lv' := [(2, .int ((nI i) + 1)), (0, .ref x0), (1, .int (nI a))]) hx hb dD_isAsked_47 hl (k := 0) rfl rfl (by decide) rfl (fun ls hl => ?_)
            refine lv_goto (tgt := 17) hx hb dD_isAsked_50 (by decide) ?_
            have hi : i < cz := by have := cl_lt (show i < 2 ^ 31 by omega) c_22; rw [hc, nI_clamp (by omega)] at this; exact this
            rw [nI_48, nI_clamp (show 48 * a + i < 2 ^ 31 by omega), nI_clamp (show i < 2 ^ 31 by omega)] at c_42
            refine ih (i + 1) H locs ls (by omega) (by omega) (lt_s hsm c_42) hP hS ?_
            have h9 := lv_sub hl [0, 1, 2] rfl
            rw [nI_1] at h9
            exact h9
          · refine lv_iconst (v := 0) hx hb dD_isAsked_45 (by decide) ?_
            have hi : i < cz := by have := cl_lt (show i < 2 ^ 31 by omega) c_22; rw [hc, nI_clamp (by omega)] at this; exact this
            rw [nI_48, nI_clamp (show 48 * a + i < 2 ^ 31 by omega), nI_clamp (show i < 2 ^ 31 by omega)] at c_42
            exact W.zret hx hb hr rfl (sp_eRi (by rw [md_isI, if_neg]; exact fun q => c_42 (q.2 i hi)) hS) hS.2.2 dD_isAsked_46
    exact loop ((cz - 0) + 1) 0 _ _ ls (Nat.lt_succ_self _) (Nat.zero_le _) lt_0 hP hS (lv_sub hl [0, 1, 2] rfl)
  · refine lv_iconst (v := 0) hx hb dD_isAsked_13 (by decide) ?_
    exact W.zret hx hb hr rfl (sp_eRi (by rw [nI_clamp (by omega), hc] at c_10; rw [md_isI, if_neg]; exact fun q => c_10 q.1) hS) hS.2.2 dD_isAsked_14
set_option maxHeartbeats 4000000 in
set_option maxRecDepth 100000 in
theorem kD_find (l : Launch) (dC : Nat → ClassId) (dI : Nat → Nat → Nat) (cI cQ : ClassId) (x0 aw ao ac az aq an : Nat) (f : Nat → Int32) (Sz : Nat → Int32) (Aw : Nat → Int32) (Cd : Nat → Int32) (cz a : Nat) (hc : f 6 = nI cz) (hc48 : cz ≤ 48) (hak : f 18 = nI a) (ha6 : a ≤ 600) : Met l yD_find (.code yD_find cD_find 2 (some .int) :: wA) ({ frames := 1, cells := 0, slots := 0, locals := 22 }) (sp_R (dC, dI) (kT cI cQ) [.ref x0] [(x0, .inr (5, [.int (f 0), .int (f 1), .int (f 2), .int (f 3), .ref aw, .ref ao, .int (f 6), .ref ac, .int (f 8), .int (f 9), .int (f 10), .int (f 11), .int (f 12), .int (f 13), .int (f 14), .int (f 15), .int (f 16), .int (f 17), .int (f 18), .ref az, .ref aq, .ref an, .int (f 22), .int (f 23), .int (f 24), .int (f 25), .int (f 26)])), (az, .inl (cI, 600, .inl Sz)), (aq, .inl (cI, 28800, .inl Aw)), (ac, .inl (cI, 48, .inl Cd))]) (sp_QRi (md_find Sz Aw Cd cz a)) 0 0 (fun _ => False) := by
  refine Met.ofW (cc := cD_find) (maxL := 2) (ret := (some .int)) (by decide) rfl ?_
  intro p e s m args below meth c s₁ B hml hv
  obtain ⟨rfl, hP, hK, hG⟩ := hv
  have hx := B.exec
  have hb := B.bytes
  have hr := B.returns
  have hA := sp_hA (atoms_spec (ws := (.code yD_find cD_find 2 (some .int) :: wA)) B.pre)
  have hown : s.vm.findClass rD = some m.cls := findClass_of_methodNamed B.named
  have hlocks := B.notSynchronized
  have hS : va_S (fun _ => False) s.heap s.heap [] := va_S.rf
  have hl := lv_entry ([.ref x0]) (n := 2) (Nat.le_of_ble_eq_true rfl)
  rw [lg_entry_eq]
  generalize (lg_sl ([.ref x0]) ++ List.replicate (2 - (lg_sl ([.ref x0])).length) Slot.unset).toArray = ls at hl ⊢
  have hl : lv_has ls 2 [(0, .ref x0)] := hl
  refine lv_iconst (v := 0) hx hb dD_find_0 (by decide) ?_
  refine lv_istore_n (lv' := [(1, .int 0), (0, .ref x0)]) hx hb dD_find_1 rfl hl (by decide) rfl (fun ls hl => ?_)
  have loop : ∀ (n9 : Nat) (i : Nat) (H : Heap) (locs : List Loc) (ls : Array Slot), a - i < n9 → (i ≤ a) → (∀ j, j < i → md_isI Sz Aw Cd cz j = 0) → va_P (dC, dI) vwCl [(x0, .inr (5, [.int (f 0), .int (f 1), .int (f 2), .int (f 3), .ref aw, .ref ao, .int (f 6), .ref ac, .int (f 8), .int (f 9), .int (f 10), .int (f 11), .int (f 12), .int (f 13), .int (f 14), .int (f 15), .int (f 16), .int (f 17), .int (f 18), .ref az, .ref aq, .ref an, .int (f 22), .int (f 23), .int (f 24), .int (f 25), .int (f 26)])), (az, .inl (cI, 600, .inl Sz)), (aq, .inl (cI, 28800, .inl Aw)), (ac, .inl (cI, 48, .inl Cd))] H → va_S (fun _ => False) s.heap H locs → lv_has ls 2 [(1, .int (nI i)), (0, .ref x0)] → W p l e (headSpec (.code yD_find cD_find 2 (some .int) :: wA) ({ frames := 1, cells := 0, slots := 0, locals := 22 })).room s m ([.ref x0]).toArray below meth c H locs 0 0 (MQ below (sp_QRi (md_find Sz Aw Cd cz a)) ([.ref x0]).toArray s 0 0 (fun _ => False)) (F0 m 2 ls []) := by
    intro n9
    induction n9 with
    | zero => intro i H locs ls hm9 hiM hno hP hS hl; exact absurd hm9 (Nat.not_lt_zero _)
    | succ n9 ih =>
      intro i H locs ls hm9 hiM hno hP hS hl
      refine lv_iload_n hx hb dD_find_2 rfl (lv_at hl 0 rfl) ?_
      refine lv_aload_n hx hb dD_find_3 rfl (lv_at hl 1 rfl) ?_
      refine va_get (D := (dC, dI)) (ci := 5) (C := rD) (T := tD) (N := 27) hx hb hA inD hown hK hP 0 rfl rfl 18 (by decide) (hA _ wi_506) (fun _ h9 => h9) rfl dD_find_4 ?_
      refine lv_icmp_ge (tgt := 26) hx hb dD_find_7 (by decide) (fun c_7 => ?_) (fun c_7 => ?_)
      · refine lv_iconst (v := (-1)) hx hb dD_find_26 (by decide) ?_
        exact W.iret hx hb hr (sp_eRi (by have := cl_le (show i < 2 ^ 31 by omega) c_7; rw [hak, nI_clamp (by omega)] at this; rw [md_find, md_find_n (fun j hj => hno j (by omega))]) hS) hS.2.2 dD_find_27
      · refine lv_aload_n hx hb dD_find_10 rfl (lv_at hl 1 rfl) ?_
        refine lv_iload_n hx hb dD_find_11 rfl (lv_at hl 0 rfl) ?_
        refine va_calli (va_runV (As := [.int (nI i)]) (rest := []) ⟨hx, hb, hml, hown, hA⟩ (kD_isAsked l dC dI cI cQ x0 aw ao ac az aq an f Sz Aw Cd cz i hc hc48 (by have := cl_lt (show i < 2 ^ 31 by omega) c_7; rw [hak, nI_clamp (by omega)] at this; omega)) (cwV 1 hA (gd_V wi_634 wi_635 wi_695 wi_6 wi_636) rfl rfl rfl (by decide +kernel) ⟨Nat.le_of_ble_eq_true rfl, Nat.le_of_ble_eq_true rfl⟩) ⟨sp_Rb, va_recv hK hP (ci := 5) (q0 := 0) rfl rfl, sp_Ro (hP.sub [0, 1, 2, 3] rfl) hK hG⟩ rfl rfl hl.1 rfl (lv_room (Nat.le_of_ble_eq_true rfl)) dD_find_12 ⟨Nat.le_of_ble_eq_true rfl, Nat.le_of_ble_eq_true rfl⟩) hS (fun _ _ h => h.elim) (fun _ h => h.elim) (fun r_12 u_12 t H locs ht hvm hw hB hz1 hk1 hS => ?_)
        rw [hw]
        have hP := sp_kp hP hk1
        refine lv_if_eq (tgt := 20) hx hb dD_find_15 (by decide) (fun c_15 => ?_) (fun c_15 => ?_)
        · refine lv_iinc (v := ((nI i) + 1)) (lv' := [(1, .int ((nI i) + 1)), (0, .ref x0)]) hx hb dD_find_20 hl (k := 0) rfl rfl (by decide) rfl (fun ls hl => ?_)
          refine lv_goto (tgt := 2) hx hb dD_find_23 (by decide) ?_
          have hi : i < a := by have := cl_lt (show i < 2 ^ 31 by omega) c_7; rw [hak, nI_clamp (by omega)] at this; exact this
          refine ih (i + 1) H locs ls (by omega) (by omega) (lt_s hno c_15) hP hS ?_
          have h9 := lv_sub hl [0, 1] rfl
          rw [nI_1] at h9
          exact h9
        · refine lv_iload_n hx hb dD_find_18 rfl (lv_at hl 0 rfl) ?_
          exact W.iret hx hb hr (sp_eRi (by rw [md_find, md_find_s (by have := cl_lt (show i < 2 ^ 31 by omega) c_7; rw [hak, nI_clamp (by omega)] at this; exact this) c_15 hno]) hS) hS.2.2 dD_find_19
  exact loop ((a - 0) + 1) 0 _ _ ls (Nat.lt_succ_self _) (Nat.zero_le _) lt_0 hP hS (lv_sub hl [0, 1] rfl)
set_option maxHeartbeats 4000000 in
set_option maxRecDepth 100000 in
theorem kD_wo (l : Launch) (dC : Nat → ClassId) (dI : Nat → Nat → Nat) (cI cQ : ClassId) (x0 aw ao ac az aq an : Nat) (f : Nat → Int32) (Wd : Nat → Int32) (Cd : Nat → Int32) (p_ many : Int32) (n : Nat) (sz : Nat) (hn : f 3 = nI n) (hn48 : n ≤ 48) : Met l yD_without (.code yD_without cD_without 4 none :: wA) ({ frames := 0, cells := 0, slots := 0, locals := 0 }) (sp_P (dC, dI) (kT cI cQ) [.ref x0, .int p_, .int many] [(x0, .inr (5, [.int (f 0), .int (f 1), .int (f 2), .int (f 3), .ref aw, .ref ao, .int (f 6), .ref ac, .int (f 8), .int (f 9), .int (f 10), .int (f 11), .int (f 12), .int (f 13), .int (f 14), .int (f 15), .int (f 16), .int (f 17), .int (f 18), .ref az, .ref aq, .ref an, .int (f 22), .int (f 23), .int (f 24), .int (f 25), .int (f 26)])), (aw, .inl (cI, 48, .inl Wd)), (ac, .inl (cI, 48, .inl Cd))] sz) (sp_QWv (dC, dI) [(x0, .inr (5, [.int ((upd f 6 (nI (md_wo Wd Cd p_ many n).1)) 0), .int ((upd f 6 (nI (md_wo Wd Cd p_ many n).1)) 1), .int ((upd f 6 (nI (md_wo Wd Cd p_ many n).1)) 2), .int ((upd f 6 (nI (md_wo Wd Cd p_ many n).1)) 3), .ref aw, .ref ao, .int ((upd f 6 (nI (md_wo Wd Cd p_ many n).1)) 6), .ref ac, .int ((upd f 6 (nI (md_wo Wd Cd p_ many n).1)) 8), .int ((upd f 6 (nI (md_wo Wd Cd p_ many n).1)) 9), .int ((upd f 6 (nI (md_wo Wd Cd p_ many n).1)) 10), .int ((upd f 6 (nI (md_wo Wd Cd p_ many n).1)) 11), .int ((upd f 6 (nI (md_wo Wd Cd p_ many n).1)) 12), .int ((upd f 6 (nI (md_wo Wd Cd p_ many n).1)) 13), .int ((upd f 6 (nI (md_wo Wd Cd p_ many n).1)) 14), .int ((upd f 6 (nI (md_wo Wd Cd p_ many n).1)) 15), .int ((upd f 6 (nI (md_wo Wd Cd p_ many n).1)) 16), .int ((upd f 6 (nI (md_wo Wd Cd p_ many n).1)) 17), .int ((upd f 6 (nI (md_wo Wd Cd p_ many n).1)) 18), .ref az, .ref aq, .ref an, .int ((upd f 6 (nI (md_wo Wd Cd p_ many n).1)) 22), .int ((upd f 6 (nI (md_wo Wd Cd p_ many n).1)) 23), .int ((upd f 6 (nI (md_wo Wd Cd p_ many n).1)) 24), .int ((upd f 6 (nI (md_wo Wd Cd p_ many n).1)) 25), .int ((upd f 6 (nI (md_wo Wd Cd p_ many n).1)) 26)])), (aw, .inl (cI, 48, .inl Wd)), (ac, .inl (cI, 48, .inl ((md_wo Wd Cd p_ many n).2)))] (va_A [(x0, .inr (5, [.int (f 0), .int (f 1), .int (f 2), .int (f 3), .ref aw, .ref ao, .int (f 6), .ref ac, .int (f 8), .int (f 9), .int (f 10), .int (f 11), .int (f 12), .int (f 13), .int (f 14), .int (f 15), .int (f 16), .int (f 17), .int (f 18), .ref az, .ref aq, .ref an, .int (f 22), .int (f 23), .int (f 24), .int (f 25), .int (f 26)])), (aw, .inl (cI, 48, .inl Wd)), (ac, .inl (cI, 48, .inl Cd))] sz)) 0 0 (va_A [(x0, .inr (5, [.int (f 0), .int (f 1), .int (f 2), .int (f 3), .ref aw, .ref ao, .int (f 6), .ref ac, .int (f 8), .int (f 9), .int (f 10), .int (f 11), .int (f 12), .int (f 13), .int (f 14), .int (f 15), .int (f 16), .int (f 17), .int (f 18), .ref az, .ref aq, .ref an, .int (f 22), .int (f 23), .int (f 24), .int (f 25), .int (f 26)])), (aw, .inl (cI, 48, .inl Wd)), (ac, .inl (cI, 48, .inl Cd))] sz) := by
  refine Met.ofW (cc := cD_without) (maxL := 4) (ret := none) (by decide) rfl ?_
  intro p e s m args below meth c s₁ B hml hv
  obtain ⟨rfl, hsz, hP, hK, hD0, hG⟩ := hv
  have hx := B.exec
  have hb := B.bytes
  have hr := B.returns
  have hA := sp_hA (atoms_spec (ws := (.code yD_without cD_without 4 none :: wA)) B.pre)
  have hown : s.vm.findClass rD = some m.cls := findClass_of_methodNamed B.named
  have hlocks := B.notSynchronized
  subst hsz
  have hD := hD0.self (sz := s.heap.size)
  generalize hAe : va_A [(x0, .inr (5, [.int (f 0), .int (f 1), .int (f 2), .int (f 3), .ref aw, .ref ao, .int (f 6), .ref ac, .int (f 8), .int (f 9), .int (f 10), .int (f 11), .int (f 12), .int (f 13), .int (f 14), .int (f 15), .int (f 16), .int (f 17), .int (f 18), .ref az, .ref aq, .ref an, .int (f 22), .int (f 23), .int (f 24), .int (f 25), .int (f 26)])), (aw, .inl (cI, 48, .inl Wd)), (ac, .inl (cI, 48, .inl Cd))] s.heap.size = A at hD ⊢
  have hF : ∀ q : Nat, s.heap.size ≤ q → A q := fun q h => by rw [← hAe]; exact Or.inr h
  have hS : va_S A s.heap s.heap [] := va_S.rf
  have hl := lv_entry ([.ref x0, .int p_, .int many]) (n := 4) (Nat.le_of_ble_eq_true rfl)
  rw [lg_entry_eq]
  generalize (lg_sl ([.ref x0, .int p_, .int many]) ++ List.replicate (4 - (lg_sl ([.ref x0, .int p_, .int many])).length) Slot.unset).toArray = ls at hl ⊢
  have hl : lv_has ls 4 [(0, .ref x0), (1, .int p_), (2, .int many)] := hl
  refine lv_aload_n hx hb dD_without_0 rfl (lv_at hl 0 rfl) ?_
  refine lv_iconst (v := 0) hx hb dD_without_1 (by decide) ?_
  refine va_put (D := (dC, dI)) (ci := 5) (v := .int 0) (ty := .int) (C := rD) (T := tD) (N := 27) hx hb hA inD tyD tyD_ok nmD hown hK hP hD hS 0 rfl rfl 6 (by decide) (hA _ wi_494) (fun _ h9 => h9) rfl (by decide +kernel) rfl rfl (Nat.le_of_ble_eq_true rfl) dD_without_2 (fun H locs hP hD hS => ?_)
  have hP : va_P (dC, dI) vwCl [(x0, .inr (5, [.int (f 0), .int (f 1), .int (f 2), .int (f 3), .ref aw, .ref ao, .int 0, .ref ac, .int (f 8), .int (f 9), .int (f 10), .int (f 11), .int (f 12), .int (f 13), .int (f 14), .int (f 15), .int (f 16), .int (f 17), .int (f 18), .ref az, .ref aq, .ref an, .int (f 22), .int (f 23), .int (f 24), .int (f 25), .int (f 26)])), (aw, .inl (cI, 48, .inl Wd)), (ac, .inl (cI, 48, .inl Cd))] H := hP
  have hD : va_D A [(x0, .inr (5, [.int (f 0), .int (f 1), .int (f 2), .int (f 3), .ref aw, .ref ao, .int 0, .ref ac, .int (f 8), .int (f 9), .int (f 10), .int (f 11), .int (f 12), .int (f 13), .int (f 14), .int (f 15), .int (f 16), .int (f 17), .int (f 18), .ref az, .ref aq, .ref an, .int (f 22), .int (f 23), .int (f 24), .int (f 25), .int (f 26)])), (aw, .inl (cI, 48, .inl Wd)), (ac, .inl (cI, 48, .inl Cd))] := hD
  refine lv_iconst (v := 0) hx hb dD_without_5 (by decide) ?_
  refine lv_istore_n (lv' := [(3, .int 0), (0, .ref x0), (1, .int p_), (2, .int many)]) hx hb dD_without_6 rfl hl (by decide) rfl (fun ls hl => ?_)
  have loop : ∀ (n9 : Nat) (i : Nat) (H : Heap) (locs : List Loc) (ls : Array Slot), n - i < n9 → (i ≤ n) → va_P (dC, dI) vwCl [(x0, .inr (5, [.int (f 0), .int (f 1), .int (f 2), .int (f 3), .ref aw, .ref ao, .int (nI (md_wo Wd Cd p_ many i).1), .ref ac, .int (f 8), .int (f 9), .int (f 10), .int (f 11), .int (f 12), .int (f 13), .int (f 14), .int (f 15), .int (f 16), .int (f 17), .int (f 18), .ref az, .ref aq, .ref an, .int (f 22), .int (f 23), .int (f 24), .int (f 25), .int (f 26)])), (aw, .inl (cI, 48, .inl Wd)), (ac, .inl (cI, 48, .inl ((md_wo Wd Cd p_ many i).2)))] H → va_D A [(x0, .inr (5, [.int (f 0), .int (f 1), .int (f 2), .int (f 3), .ref aw, .ref ao, .int (nI (md_wo Wd Cd p_ many i).1), .ref ac, .int (f 8), .int (f 9), .int (f 10), .int (f 11), .int (f 12), .int (f 13), .int (f 14), .int (f 15), .int (f 16), .int (f 17), .int (f 18), .ref az, .ref aq, .ref an, .int (f 22), .int (f 23), .int (f 24), .int (f 25), .int (f 26)])), (aw, .inl (cI, 48, .inl Wd)), (ac, .inl (cI, 48, .inl ((md_wo Wd Cd p_ many i).2)))] → va_S A s.heap H locs → lv_has ls 4 [(3, .int (nI i)), (0, .ref x0), (1, .int p_), (2, .int many)] → W p l e (headSpec (.code yD_without cD_without 4 none :: wA) ({ frames := 0, cells := 0, slots := 0, locals := 0 })).room s m ([.ref x0, .int p_, .int many]).toArray below meth c H locs 0 0 (MQ below (sp_QWv (dC, dI) [(x0, .inr (5, [.int ((upd f 6 (nI (md_wo Wd Cd p_ many n).1)) 0), .int ((upd f 6 (nI (md_wo Wd Cd p_ many n).1)) 1), .int ((upd f 6 (nI (md_wo Wd Cd p_ many n).1)) 2), .int ((upd f 6 (nI (md_wo Wd Cd p_ many n).1)) 3), .ref aw, .ref ao, .int ((upd f 6 (nI (md_wo Wd Cd p_ many n).1)) 6), .ref ac, .int ((upd f 6 (nI (md_wo Wd Cd p_ many n).1)) 8), .int ((upd f 6 (nI (md_wo Wd Cd p_ many n).1)) 9), .int ((upd f 6 (nI (md_wo Wd Cd p_ many n).1)) 10), .int ((upd f 6 (nI (md_wo Wd Cd p_ many n).1)) 11), .int ((upd f 6 (nI (md_wo Wd Cd p_ many n).1)) 12), .int ((upd f 6 (nI (md_wo Wd Cd p_ many n).1)) 13), .int ((upd f 6 (nI (md_wo Wd Cd p_ many n).1)) 14), .int ((upd f 6 (nI (md_wo Wd Cd p_ many n).1)) 15), .int ((upd f 6 (nI (md_wo Wd Cd p_ many n).1)) 16), .int ((upd f 6 (nI (md_wo Wd Cd p_ many n).1)) 17), .int ((upd f 6 (nI (md_wo Wd Cd p_ many n).1)) 18), .ref az, .ref aq, .ref an, .int ((upd f 6 (nI (md_wo Wd Cd p_ many n).1)) 22), .int ((upd f 6 (nI (md_wo Wd Cd p_ many n).1)) 23), .int ((upd f 6 (nI (md_wo Wd Cd p_ many n).1)) 24), .int ((upd f 6 (nI (md_wo Wd Cd p_ many n).1)) 25), .int ((upd f 6 (nI (md_wo Wd Cd p_ many n).1)) 26)])), (aw, .inl (cI, 48, .inl Wd)), (ac, .inl (cI, 48, .inl ((md_wo Wd Cd p_ many n).2)))] A) ([.ref x0, .int p_, .int many]).toArray s 0 0 A) (F0 m 7 ls []) := by
    intro n9
    induction n9 with
    | zero => intro i H locs ls hm9 hiM hP hD hS hl; exact absurd hm9 (Nat.not_lt_zero _)
    | succ n9 ih =>
      intro i H locs ls hm9 hiM hP hD hS hl
      refine lv_iload_n hx hb dD_without_7 rfl (lv_at hl 0 rfl) ?_
      refine lv_aload_n hx hb dD_without_8 rfl (lv_at hl 1 rfl) ?_
      refine va_get (D := (dC, dI)) (ci := 5) (C := rD) (T := tD) (N := 27) hx hb hA inD hown hK hP 0 rfl rfl 3 (by decide) (hA _ wi_491) (fun _ h9 => h9) rfl dD_without_9 ?_
      refine lv_icmp_ge (tgt := 58) hx hb dD_without_12 (by decide) (fun c_12 => ?_) (fun c_12 => ?_)
      · have hPe : va_P (dC, dI) vwCl [(x0, .inr (5, [.int ((upd f 6 (nI (md_wo Wd Cd p_ many n).1)) 0), .int ((upd f 6 (nI (md_wo Wd Cd p_ many n).1)) 1), .int ((upd f 6 (nI (md_wo Wd Cd p_ many n).1)) 2), .int ((upd f 6 (nI (md_wo Wd Cd p_ many n).1)) 3), .ref aw, .ref ao, .int ((upd f 6 (nI (md_wo Wd Cd p_ many n).1)) 6), .ref ac, .int ((upd f 6 (nI (md_wo Wd Cd p_ many n).1)) 8), .int ((upd f 6 (nI (md_wo Wd Cd p_ many n).1)) 9), .int ((upd f 6 (nI (md_wo Wd Cd p_ many n).1)) 10), .int ((upd f 6 (nI (md_wo Wd Cd p_ many n).1)) 11), .int ((upd f 6 (nI (md_wo Wd Cd p_ many n).1)) 12), .int ((upd f 6 (nI (md_wo Wd Cd p_ many n).1)) 13), .int ((upd f 6 (nI (md_wo Wd Cd p_ many n).1)) 14), .int ((upd f 6 (nI (md_wo Wd Cd p_ many n).1)) 15), .int ((upd f 6 (nI (md_wo Wd Cd p_ many n).1)) 16), .int ((upd f 6 (nI (md_wo Wd Cd p_ many n).1)) 17), .int ((upd f 6 (nI (md_wo Wd Cd p_ many n).1)) 18), .ref az, .ref aq, .ref an, .int ((upd f 6 (nI (md_wo Wd Cd p_ many n).1)) 22), .int ((upd f 6 (nI (md_wo Wd Cd p_ many n).1)) 23), .int ((upd f 6 (nI (md_wo Wd Cd p_ many n).1)) 24), .int ((upd f 6 (nI (md_wo Wd Cd p_ many n).1)) 25), .int ((upd f 6 (nI (md_wo Wd Cd p_ many n).1)) 26)])), (aw, .inl (cI, 48, .inl Wd)), (ac, .inl (cI, 48, .inl ((md_wo Wd Cd p_ many n).2)))] H := by have e9 : i = n := Nat.le_antisymm hiM (by have := cl_le (show i < 2 ^ 31 by omega) c_12; rw [hn, nI_clamp (by omega)] at this; exact this); subst e9; exact hP
        have hDe : va_D A [(x0, .inr (5, [.int ((upd f 6 (nI (md_wo Wd Cd p_ many n).1)) 0), .int ((upd f 6 (nI (md_wo Wd Cd p_ many n).1)) 1), .int ((upd f 6 (nI (md_wo Wd Cd p_ many n).1)) 2), .int ((upd f 6 (nI (md_wo Wd Cd p_ many n).1)) 3), .ref aw, .ref ao, .int ((upd f 6 (nI (md_wo Wd Cd p_ many n).1)) 6), .ref ac, .int ((upd f 6 (nI (md_wo Wd Cd p_ many n).1)) 8), .int ((upd f 6 (nI (md_wo Wd Cd p_ many n).1)) 9), .int ((upd f 6 (nI (md_wo Wd Cd p_ many n).1)) 10), .int ((upd f 6 (nI (md_wo Wd Cd p_ many n).1)) 11), .int ((upd f 6 (nI (md_wo Wd Cd p_ many n).1)) 12), .int ((upd f 6 (nI (md_wo Wd Cd p_ many n).1)) 13), .int ((upd f 6 (nI (md_wo Wd Cd p_ many n).1)) 14), .int ((upd f 6 (nI (md_wo Wd Cd p_ many n).1)) 15), .int ((upd f 6 (nI (md_wo Wd Cd p_ many n).1)) 16), .int ((upd f 6 (nI (md_wo Wd Cd p_ many n).1)) 17), .int ((upd f 6 (nI (md_wo Wd Cd p_ many n).1)) 18), .ref az, .ref aq, .ref an, .int ((upd f 6 (nI (md_wo Wd Cd p_ many n).1)) 22), .int ((upd f 6 (nI (md_wo Wd Cd p_ many n).1)) 23), .int ((upd f 6 (nI (md_wo Wd Cd p_ many n).1)) 24), .int ((upd f 6 (nI (md_wo Wd Cd p_ many n).1)) 25), .int ((upd f 6 (nI (md_wo Wd Cd p_ many n).1)) 26)])), (aw, .inl (cI, 48, .inl Wd)), (ac, .inl (cI, 48, .inl ((md_wo Wd Cd p_ many n).2)))] := sp_Dc hD rfl
        exact W.vret hx hb hr (sp_eWv hPe hDe hS) hS.2.2 dD_without_58
      · refine lv_iload_n hx hb dD_without_15 rfl (lv_at hl 0 rfl) ?_
        refine lv_iload_n hx hb dD_without_16 rfl (lv_at hl 2 rfl) ?_
        refine lv_icmp_lt (tgt := 27) hx hb dD_without_17 (by decide) (fun c_17 => ?_) (fun c_17 => ?_)
        · refine lv_aload_n hx hb dD_without_27 rfl (lv_at hl 1 rfl) ?_
          refine va_get (D := (dC, dI)) (ci := 5) (C := rD) (T := tD) (N := 27) hx hb hA inD hown hK hP 0 rfl rfl 7 (by decide) (hA _ wi_495) (fun _ h9 => h9) rfl dD_without_28 ?_
          refine lv_aload_n hx hb dD_without_31 rfl (lv_at hl 1 rfl) ?_
          refine va_get (D := (dC, dI)) (ci := 5) (C := rD) (T := tD) (N := 27) hx hb hA inD hown hK hP 0 rfl rfl 6 (by decide) (hA _ wi_494) (fun _ h9 => h9) rfl dD_without_32 ?_
          refine lv_aload_n hx hb dD_without_35 rfl (lv_at hl 1 rfl) ?_
          refine va_get (D := (dC, dI)) (ci := 5) (C := rD) (T := tD) (N := 27) hx hb hA inD hown hK hP 0 rfl rfl 4 (by decide) (hA _ wi_492) (fun _ h9 => h9) rfl dD_without_36 ?_
          refine lv_iload_n hx hb dD_without_39 rfl (lv_at hl 0 rfl) ?_
          refine va_iald hx hb hK hP 1 0 rfl rfl (vp_in_nI (Nat.lt_of_lt_of_le (show i < n from (by have := cl_lt (show i < 2 ^ 31 by omega) c_12; rw [hn, nI_clamp (by omega)] at this; exact this)) hn48) (by decide)) dD_without_40 ?_
          refine va_iast hx hb hK hP hD hS 2 0 rfl rfl (vp_in_nI (Nat.lt_of_le_of_lt (md_wo_le Wd Cd p_ many i) (Nat.lt_of_lt_of_le (show i < n from (by have := cl_lt (show i < 2 ^ 31 by omega) c_12; rw [hn, nI_clamp (by omega)] at this; exact this)) hn48)) (by decide)) dD_without_41 (fun H locs hP hD hS => ?_)
          have hP : va_P (dC, dI) vwCl [(x0, .inr (5, [.int (f 0), .int (f 1), .int (f 2), .int (f 3), .ref aw, .ref ao, .int (nI (md_wo Wd Cd p_ many i).1), .ref ac, .int (f 8), .int (f 9), .int (f 10), .int (f 11), .int (f 12), .int (f 13), .int (f 14), .int (f 15), .int (f 16), .int (f 17), .int (f 18), .ref az, .ref aq, .ref an, .int (f 22), .int (f 23), .int (f 24), .int (f 25), .int (f 26)])), (aw, .inl (cI, 48, .inl Wd)), (ac, .inl (cI, 48, .inl (upd ((md_wo Wd Cd p_ many i).2) (Int32.toNatClampNeg (nI (md_wo Wd Cd p_ many i).1)) (Wd (Int32.toNatClampNeg (nI i))))))] H := hP
          have hD : va_D A [(x0, .inr (5, [.int (f 0), .int (f 1), .int (f 2), .int (f 3), .ref aw, .ref ao, .int (nI (md_wo Wd Cd p_ many i).1), .ref ac, .int (f 8), .int (f 9), .int (f 10), .int (f 11), .int (f 12), .int (f 13), .int (f 14), .int (f 15), .int (f 16), .int (f 17), .int (f 18), .ref az, .ref aq, .ref an, .int (f 22), .int (f 23), .int (f 24), .int (f 25), .int (f 26)])), (aw, .inl (cI, 48, .inl Wd)), (ac, .inl (cI, 48, .inl (upd ((md_wo Wd Cd p_ many i).2) (Int32.toNatClampNeg (nI (md_wo Wd Cd p_ many i).1)) (Wd (Int32.toNatClampNeg (nI i))))))] := hD
          refine lv_aload_n hx hb dD_without_42 rfl (lv_at hl 1 rfl) ?_
          refine lv_dup hx hb dD_without_43 rfl ?_
          refine va_get (D := (dC, dI)) (ci := 5) (C := rD) (T := tD) (N := 27) hx hb hA inD hown hK hP 0 rfl rfl 6 (by decide) (hA _ wi_494) (fun _ h9 => h9) rfl dD_without_44 ?_
          refine lv_iconst (v := 1) hx hb dD_without_47 (by decide) ?_
          refine lv_iadd hx hb dD_without_48 ?_
          refine va_put (D := (dC, dI)) (ci := 5) (v := .int ((nI (md_wo Wd Cd p_ many i).1) + 1)) (ty := .int) (C := rD) (T := tD) (N := 27) hx hb hA inD tyD tyD_ok nmD hown hK hP hD hS 0 rfl rfl 6 (by decide) (hA _ wi_494) (fun _ h9 => h9) rfl (by decide +kernel) rfl rfl (Nat.le_of_ble_eq_true rfl) dD_without_49 (fun H locs hP hD hS => ?_)
          have hP : va_P (dC, dI) vwCl [(x0, .inr (5, [.int (f 0), .int (f 1), .int (f 2), .int (f 3), .ref aw, .ref ao, .int ((nI (md_wo Wd Cd p_ many i).1) + 1), .ref ac, .int (f 8), .int (f 9), .int (f 10), .int (f 11), .int (f 12), .int (f 13), .int (f 14), .int (f 15), .int (f 16), .int (f 17), .int (f 18), .ref az, .ref aq, .ref an, .int (f 22), .int (f 23), .int (f 24), .int (f 25), .int (f 26)])), (aw, .inl (cI, 48, .inl Wd)), (ac, .inl (cI, 48, .inl (upd ((md_wo Wd Cd p_ many i).2) (Int32.toNatClampNeg (nI (md_wo Wd Cd p_ many i).1)) (Wd (Int32.toNatClampNeg (nI i))))))] H := hP
          have hD : va_D A [(x0, .inr (5, [.int (f 0), .int (f 1), .int (f 2), .int (f 3), .ref aw, .ref ao, .int ((nI (md_wo Wd Cd p_ many i).1) + 1), .ref ac, .int (f 8), .int (f 9), .int (f 10), .int (f 11), .int (f 12), .int (f 13), .int (f 14), .int (f 15), .int (f 16), .int (f 17), .int (f 18), .ref az, .ref aq, .ref an, .int (f 22), .int (f 23), .int (f 24), .int (f 25), .int (f 26)])), (aw, .inl (cI, 48, .inl Wd)), (ac, .inl (cI, 48, .inl (upd ((md_wo Wd Cd p_ many i).2) (Int32.toNatClampNeg (nI (md_wo Wd Cd p_ many i).1)) (Wd (Int32.toNatClampNeg (nI i))))))] := hD
          refine lv_iinc (v := ((nI i) + 1)) (lv' := [(3, .int ((nI i) + 1)), (0, .ref x0), (1, .int p_), (2, .int many)]) hx hb dD_without_52 hl (k := 0) rfl rfl (by decide) rfl (fun ls hl => ?_)
          refine lv_goto (tgt := 7) hx hb dD_without_55 (by decide) ?_
          have hi : i < n := (by have := cl_lt (show i < 2 ^ 31 by omega) c_12; rw [hn, nI_clamp (by omega)] at this; exact this)
          have hwl := md_wo_le Wd Cd p_ many i
          have e1 : (nI i).toNatClampNeg = i := nI_clamp (by omega)
          have e3 : (nI (md_wo Wd Cd p_ many i).1).toNatClampNeg = (md_wo Wd Cd p_ many i).1 := nI_clamp (by omega)
          rw [e1, e3, nI_1] at hP
          have e2 := md_wo_a (W := Wd) (C := Cd) (many := many) c_17
          refine ih (i + 1) H locs ls (by omega) (by omega) (by rw [e2]; exact hP) (sp_Dc hD rfl) hS ?_
          have h9 := lv_sub hl [0, 1, 2, 3] rfl
          rw [nI_1] at h9
          exact h9
        · refine lv_iload_n hx hb dD_without_20 rfl (lv_at hl 0 rfl) ?_
          refine lv_iload_n hx hb dD_without_21 rfl (lv_at hl 2 rfl) ?_
          refine lv_iload_n hx hb dD_without_22 rfl (lv_at hl 3 rfl) ?_
          refine lv_iadd hx hb dD_without_23 ?_
          refine lv_icmp_lt (tgt := 52) hx hb dD_without_24 (by decide) (fun c_24 => ?_) (fun c_24 => ?_)
          · refine lv_iinc (v := ((nI i) + 1)) (lv' := [(3, .int ((nI i) + 1)), (0, .ref x0), (1, .int p_), (2, .int many)]) hx hb dD_without_52 hl (k := 0) rfl rfl (by decide) rfl (fun ls hl => ?_)
            refine lv_goto (tgt := 7) hx hb dD_without_55 (by decide) ?_
            have hi : i < n := (by have := cl_lt (show i < 2 ^ 31 by omega) c_12; rw [hn, nI_clamp (by omega)] at this; exact this)
            have hwl := md_wo_le Wd Cd p_ many i
            have e2 := md_wo_b (W := Wd) (C := Cd) c_17 c_24
            refine ih (i + 1) H locs ls (by omega) (by omega) (by rw [e2]; exact hP) (sp_Dc hD rfl) hS ?_
            have h9 := lv_sub hl [0, 1, 2, 3] rfl
            rw [nI_1] at h9
            exact h9
          · refine lv_aload_n hx hb dD_without_27 rfl (lv_at hl 1 rfl) ?_
            refine va_get (D := (dC, dI)) (ci := 5) (C := rD) (T := tD) (N := 27) hx hb hA inD hown hK hP 0 rfl rfl 7 (by decide) (hA _ wi_495) (fun _ h9 => h9) rfl dD_without_28 ?_
            refine lv_aload_n hx hb dD_without_31 rfl (lv_at hl 1 rfl) ?_
            refine va_get (D := (dC, dI)) (ci := 5) (C := rD) (T := tD) (N := 27) hx hb hA inD hown hK hP 0 rfl rfl 6 (by decide) (hA _ wi_494) (fun _ h9 => h9) rfl dD_without_32 ?_
            refine lv_aload_n hx hb dD_without_35 rfl (lv_at hl 1 rfl) ?_
            refine va_get (D := (dC, dI)) (ci := 5) (C := rD) (T := tD) (N := 27) hx hb hA inD hown hK hP 0 rfl rfl 4 (by decide) (hA _ wi_492) (fun _ h9 => h9) rfl dD_without_36 ?_
            refine lv_iload_n hx hb dD_without_39 rfl (lv_at hl 0 rfl) ?_
            refine va_iald hx hb hK hP 1 0 rfl rfl (vp_in_nI (Nat.lt_of_lt_of_le (show i < n from (by have := cl_lt (show i < 2 ^ 31 by omega) c_12; rw [hn, nI_clamp (by omega)] at this; exact this)) hn48) (by decide)) dD_without_40 ?_
            refine va_iast hx hb hK hP hD hS 2 0 rfl rfl (vp_in_nI (Nat.lt_of_le_of_lt (md_wo_le Wd Cd p_ many i) (Nat.lt_of_lt_of_le (show i < n from (by have := cl_lt (show i < 2 ^ 31 by omega) c_12; rw [hn, nI_clamp (by omega)] at this; exact this)) hn48)) (by decide)) dD_without_41 (fun H locs hP hD hS => ?_)
            have hP : va_P (dC, dI) vwCl [(x0, .inr (5, [.int (f 0), .int (f 1), .int (f 2), .int (f 3), .ref aw, .ref ao, .int (nI (md_wo Wd Cd p_ many i).1), .ref ac, .int (f 8), .int (f 9), .int (f 10), .int (f 11), .int (f 12), .int (f 13), .int (f 14), .int (f 15), .int (f 16), .int (f 17), .int (f 18), .ref az, .ref aq, .ref an, .int (f 22), .int (f 23), .int (f 24), .int (f 25), .int (f 26)])), (aw, .inl (cI, 48, .inl Wd)), (ac, .inl (cI, 48, .inl (upd ((md_wo Wd Cd p_ many i).2) (Int32.toNatClampNeg (nI (md_wo Wd Cd p_ many i).1)) (Wd (Int32.toNatClampNeg (nI i))))))] H := hP
            have hD : va_D A [(x0, .inr (5, [.int (f 0), .int (f 1), .int (f 2), .int (f 3), .ref aw, .ref ao, .int (nI (md_wo Wd Cd p_ many i).1), .ref ac, .int (f 8), .int (f 9), .int (f 10), .int (f 11), .int (f 12), .int (f 13), .int (f 14), .int (f 15), .int (f 16), .int (f 17), .int (f 18), .ref az, .ref aq, .ref an, .int (f 22), .int (f 23), .int (f 24), .int (f 25), .int (f 26)])), (aw, .inl (cI, 48, .inl Wd)), (ac, .inl (cI, 48, .inl (upd ((md_wo Wd Cd p_ many i).2) (Int32.toNatClampNeg (nI (md_wo Wd Cd p_ many i).1)) (Wd (Int32.toNatClampNeg (nI i))))))] := hD
            refine lv_aload_n hx hb dD_without_42 rfl (lv_at hl 1 rfl) ?_
            refine lv_dup hx hb dD_without_43 rfl ?_
            refine va_get (D := (dC, dI)) (ci := 5) (C := rD) (T := tD) (N := 27) hx hb hA inD hown hK hP 0 rfl rfl 6 (by decide) (hA _ wi_494) (fun _ h9 => h9) rfl dD_without_44 ?_
            refine lv_iconst (v := 1) hx hb dD_without_47 (by decide) ?_
            refine lv_iadd hx hb dD_without_48 ?_
            refine va_put (D := (dC, dI)) (ci := 5) (v := .int ((nI (md_wo Wd Cd p_ many i).1) + 1)) (ty := .int) (C := rD) (T := tD) (N := 27) hx hb hA inD tyD tyD_ok nmD hown hK hP hD hS 0 rfl rfl 6 (by decide) (hA _ wi_494) (fun _ h9 => h9) rfl (by decide +kernel) rfl rfl (Nat.le_of_ble_eq_true rfl) dD_without_49 (fun H locs hP hD hS => ?_)
            have hP : va_P (dC, dI) vwCl [(x0, .inr (5, [.int (f 0), .int (f 1), .int (f 2), .int (f 3), .ref aw, .ref ao, .int ((nI (md_wo Wd Cd p_ many i).1) + 1), .ref ac, .int (f 8), .int (f 9), .int (f 10), .int (f 11), .int (f 12), .int (f 13), .int (f 14), .int (f 15), .int (f 16), .int (f 17), .int (f 18), .ref az, .ref aq, .ref an, .int (f 22), .int (f 23), .int (f 24), .int (f 25), .int (f 26)])), (aw, .inl (cI, 48, .inl Wd)), (ac, .inl (cI, 48, .inl (upd ((md_wo Wd Cd p_ many i).2) (Int32.toNatClampNeg (nI (md_wo Wd Cd p_ many i).1)) (Wd (Int32.toNatClampNeg (nI i))))))] H := hP
            have hD : va_D A [(x0, .inr (5, [.int (f 0), .int (f 1), .int (f 2), .int (f 3), .ref aw, .ref ao, .int ((nI (md_wo Wd Cd p_ many i).1) + 1), .ref ac, .int (f 8), .int (f 9), .int (f 10), .int (f 11), .int (f 12), .int (f 13), .int (f 14), .int (f 15), .int (f 16), .int (f 17), .int (f 18), .ref az, .ref aq, .ref an, .int (f 22), .int (f 23), .int (f 24), .int (f 25), .int (f 26)])), (aw, .inl (cI, 48, .inl Wd)), (ac, .inl (cI, 48, .inl (upd ((md_wo Wd Cd p_ many i).2) (Int32.toNatClampNeg (nI (md_wo Wd Cd p_ many i).1)) (Wd (Int32.toNatClampNeg (nI i))))))] := hD
            refine lv_iinc (v := ((nI i) + 1)) (lv' := [(3, .int ((nI i) + 1)), (0, .ref x0), (1, .int p_), (2, .int many)]) hx hb dD_without_52 hl (k := 0) rfl rfl (by decide) rfl (fun ls hl => ?_)
            refine lv_goto (tgt := 7) hx hb dD_without_55 (by decide) ?_
            have hi : i < n := (by have := cl_lt (show i < 2 ^ 31 by omega) c_12; rw [hn, nI_clamp (by omega)] at this; exact this)
            have hwl := md_wo_le Wd Cd p_ many i
            have e1 : (nI i).toNatClampNeg = i := nI_clamp (by omega)
            have e3 : (nI (md_wo Wd Cd p_ many i).1).toNatClampNeg = (md_wo Wd Cd p_ many i).1 := nI_clamp (by omega)
            rw [e1, e3, nI_1] at hP
            have e2 := md_wo_c (W := Wd) (C := Cd) c_17 c_24
            refine ih (i + 1) H locs ls (by omega) (by omega) (by rw [e2]; exact hP) (sp_Dc hD rfl) hS ?_
            have h9 := lv_sub hl [0, 1, 2, 3] rfl
            rw [nI_1] at h9
            exact h9
  exact loop ((n - 0) + 1) 0 _ _ ls (Nat.lt_succ_self _) (Nat.zero_le _) hP (sp_Dc hD rfl) hS (lv_sub hl [0, 1, 2, 3] rfl)
set_option maxHeartbeats 4000000 in
set_option maxRecDepth 100000 in
theorem kD_wb (l : Launch) (dC : Nat → ClassId) (dI : Nat → Nat → Nat) (cI cQ : ClassId) (x0 aw ao ac az aq an : Nat) (f : Nat → Int32) (Wd : Nat → Int32) (Cd : Nat → Int32) (k b v : Int32) (n : Nat) (sz : Nat) (hn : f 3 = nI n) (hn48 : n ≤ 48) (hki : vp_in k 48) : Met l yD_withByte (.code yD_withByte cD_withByte 5 none :: wA) ({ frames := 0, cells := 0, slots := 0, locals := 0 }) (sp_P (dC, dI) (kT cI cQ) [.ref x0, .int k, .int b, .int v] [(x0, .inr (5, [.int (f 0), .int (f 1), .int (f 2), .int (f 3), .ref aw, .ref ao, .int (f 6), .ref ac, .int (f 8), .int (f 9), .int (f 10), .int (f 11), .int (f 12), .int (f 13), .int (f 14), .int (f 15), .int (f 16), .int (f 17), .int (f 18), .ref az, .ref aq, .ref an, .int (f 22), .int (f 23), .int (f 24), .int (f 25), .int (f 26)])), (aw, .inl (cI, 48, .inl Wd)), (ac, .inl (cI, 48, .inl Cd))] sz) (sp_QWv (dC, dI) [(x0, .inr (5, [.int ((upd f 6 (f 3)) 0), .int ((upd f 6 (f 3)) 1), .int ((upd f 6 (f 3)) 2), .int ((upd f 6 (f 3)) 3), .ref aw, .ref ao, .int ((upd f 6 (f 3)) 6), .ref ac, .int ((upd f 6 (f 3)) 8), .int ((upd f 6 (f 3)) 9), .int ((upd f 6 (f 3)) 10), .int ((upd f 6 (f 3)) 11), .int ((upd f 6 (f 3)) 12), .int ((upd f 6 (f 3)) 13), .int ((upd f 6 (f 3)) 14), .int ((upd f 6 (f 3)) 15), .int ((upd f 6 (f 3)) 16), .int ((upd f 6 (f 3)) 17), .int ((upd f 6 (f 3)) 18), .ref az, .ref aq, .ref an, .int ((upd f 6 (f 3)) 22), .int ((upd f 6 (f 3)) 23), .int ((upd f 6 (f 3)) 24), .int ((upd f 6 (f 3)) 25), .int ((upd f 6 (f 3)) 26)])), (aw, .inl (cI, 48, .inl Wd)), (ac, .inl (cI, 48, .inl (md_wb Wd Cd n k b v)))] (va_A [(x0, .inr (5, [.int (f 0), .int (f 1), .int (f 2), .int (f 3), .ref aw, .ref ao, .int (f 6), .ref ac, .int (f 8), .int (f 9), .int (f 10), .int (f 11), .int (f 12), .int (f 13), .int (f 14), .int (f 15), .int (f 16), .int (f 17), .int (f 18), .ref az, .ref aq, .ref an, .int (f 22), .int (f 23), .int (f 24), .int (f 25), .int (f 26)])), (aw, .inl (cI, 48, .inl Wd)), (ac, .inl (cI, 48, .inl Cd))] sz)) 0 0 (va_A [(x0, .inr (5, [.int (f 0), .int (f 1), .int (f 2), .int (f 3), .ref aw, .ref ao, .int (f 6), .ref ac, .int (f 8), .int (f 9), .int (f 10), .int (f 11), .int (f 12), .int (f 13), .int (f 14), .int (f 15), .int (f 16), .int (f 17), .int (f 18), .ref az, .ref aq, .ref an, .int (f 22), .int (f 23), .int (f 24), .int (f 25), .int (f 26)])), (aw, .inl (cI, 48, .inl Wd)), (ac, .inl (cI, 48, .inl Cd))] sz) := by
  refine Met.ofW (cc := cD_withByte) (maxL := 5) (ret := none) (by decide) rfl ?_
  intro p e s m args below meth c s₁ B hml hv
  obtain ⟨rfl, hsz, hP, hK, hD0, hG⟩ := hv
  have hx := B.exec
  have hb := B.bytes
  have hr := B.returns
  have hA := sp_hA (atoms_spec (ws := (.code yD_withByte cD_withByte 5 none :: wA)) B.pre)
  have hown : s.vm.findClass rD = some m.cls := findClass_of_methodNamed B.named
  have hlocks := B.notSynchronized
  subst hsz
  have hD := hD0.self (sz := s.heap.size)
  generalize hAe : va_A [(x0, .inr (5, [.int (f 0), .int (f 1), .int (f 2), .int (f 3), .ref aw, .ref ao, .int (f 6), .ref ac, .int (f 8), .int (f 9), .int (f 10), .int (f 11), .int (f 12), .int (f 13), .int (f 14), .int (f 15), .int (f 16), .int (f 17), .int (f 18), .ref az, .ref aq, .ref an, .int (f 22), .int (f 23), .int (f 24), .int (f 25), .int (f 26)])), (aw, .inl (cI, 48, .inl Wd)), (ac, .inl (cI, 48, .inl Cd))] s.heap.size = A at hD ⊢
  have hF : ∀ q : Nat, s.heap.size ≤ q → A q := fun q h => by rw [← hAe]; exact Or.inr h
  have hS : va_S A s.heap s.heap [] := va_S.rf
  have hl := lv_entry ([.ref x0, .int k, .int b, .int v]) (n := 5) (Nat.le_of_ble_eq_true rfl)
  rw [lg_entry_eq]
  generalize (lg_sl ([.ref x0, .int k, .int b, .int v]) ++ List.replicate (5 - (lg_sl ([.ref x0, .int k, .int b, .int v])).length) Slot.unset).toArray = ls at hl ⊢
  have hl : lv_has ls 5 [(0, .ref x0), (1, .int k), (2, .int b), (3, .int v)] := hl
  refine lv_iconst (v := 0) hx hb dD_withByte_0 (by decide) ?_
  refine lv_istore (lv' := [(4, .int 0), (0, .ref x0), (1, .int k), (2, .int b), (3, .int v)]) hx hb dD_withByte_1 hl (by decide) rfl (fun ls hl => ?_)
  have loop : ∀ (n9 : Nat) (i : Nat) (H : Heap) (locs : List Loc) (ls : Array Slot), n - i < n9 → (i ≤ n) → va_P (dC, dI) vwCl [(x0, .inr (5, [.int (f 0), .int (f 1), .int (f 2), .int (f 3), .ref aw, .ref ao, .int (f 6), .ref ac, .int (f 8), .int (f 9), .int (f 10), .int (f 11), .int (f 12), .int (f 13), .int (f 14), .int (f 15), .int (f 16), .int (f 17), .int (f 18), .ref az, .ref aq, .ref an, .int (f 22), .int (f 23), .int (f 24), .int (f 25), .int (f 26)])), (aw, .inl (cI, 48, .inl Wd)), (ac, .inl (cI, 48, .inl (pg_cp Wd Cd i)))] H → va_D A [(x0, .inr (5, [.int (f 0), .int (f 1), .int (f 2), .int (f 3), .ref aw, .ref ao, .int (f 6), .ref ac, .int (f 8), .int (f 9), .int (f 10), .int (f 11), .int (f 12), .int (f 13), .int (f 14), .int (f 15), .int (f 16), .int (f 17), .int (f 18), .ref az, .ref aq, .ref an, .int (f 22), .int (f 23), .int (f 24), .int (f 25), .int (f 26)])), (aw, .inl (cI, 48, .inl Wd)), (ac, .inl (cI, 48, .inl (pg_cp Wd Cd i)))] → va_S A s.heap H locs → lv_has ls 5 [(4, .int (nI i)), (0, .ref x0), (1, .int k), (2, .int b), (3, .int v)] → W p l e (headSpec (.code yD_withByte cD_withByte 5 none :: wA) ({ frames := 0, cells := 0, slots := 0, locals := 0 })).room s m ([.ref x0, .int k, .int b, .int v]).toArray below meth c H locs 0 0 (MQ below (sp_QWv (dC, dI) [(x0, .inr (5, [.int ((upd f 6 (f 3)) 0), .int ((upd f 6 (f 3)) 1), .int ((upd f 6 (f 3)) 2), .int ((upd f 6 (f 3)) 3), .ref aw, .ref ao, .int ((upd f 6 (f 3)) 6), .ref ac, .int ((upd f 6 (f 3)) 8), .int ((upd f 6 (f 3)) 9), .int ((upd f 6 (f 3)) 10), .int ((upd f 6 (f 3)) 11), .int ((upd f 6 (f 3)) 12), .int ((upd f 6 (f 3)) 13), .int ((upd f 6 (f 3)) 14), .int ((upd f 6 (f 3)) 15), .int ((upd f 6 (f 3)) 16), .int ((upd f 6 (f 3)) 17), .int ((upd f 6 (f 3)) 18), .ref az, .ref aq, .ref an, .int ((upd f 6 (f 3)) 22), .int ((upd f 6 (f 3)) 23), .int ((upd f 6 (f 3)) 24), .int ((upd f 6 (f 3)) 25), .int ((upd f 6 (f 3)) 26)])), (aw, .inl (cI, 48, .inl Wd)), (ac, .inl (cI, 48, .inl (md_wb Wd Cd n k b v)))] A) ([.ref x0, .int k, .int b, .int v]).toArray s 0 0 A) (F0 m 3 ls []) := by
    intro n9
    induction n9 with
    | zero => intro i H locs ls hm9 hiM hP hD hS hl; exact absurd hm9 (Nat.not_lt_zero _)
    | succ n9 ih =>
      intro i H locs ls hm9 hiM hP hD hS hl
      refine lv_iload hx hb dD_withByte_3 (lv_at hl 0 rfl) ?_
      refine lv_aload_n hx hb dD_withByte_5 rfl (lv_at hl 1 rfl) ?_
      refine va_get (D := (dC, dI)) (ci := 5) (C := rD) (T := tD) (N := 27) hx hb hA inD hown hK hP 0 rfl rfl 3 (by decide) (hA _ wi_491) (fun _ h9 => h9) rfl dD_withByte_6 ?_
      refine lv_icmp_ge (tgt := 32) hx hb dD_withByte_9 (by decide) (fun c_9 => ?_) (fun c_9 => ?_)
      · refine lv_bipush (v := 24) hx hb dD_withByte_32 (by decide) ?_
        refine lv_bipush (v := 8) hx hb dD_withByte_34 (by decide) ?_
        refine lv_iload_n hx hb dD_withByte_36 rfl (lv_at hl 3 rfl) ?_
        refine lv_imul hx hb dD_withByte_37 ?_
        refine lv_isub hx hb dD_withByte_38 ?_
        refine lv_istore (lv' := [(4, .int (24 - (8 * b))), (0, .ref x0), (1, .int k), (2, .int b), (3, .int v)]) hx hb dD_withByte_39 hl (by decide) rfl (fun ls hl => ?_)
        refine lv_aload_n hx hb dD_withByte_41 rfl (lv_at hl 1 rfl) ?_
        refine va_get (D := (dC, dI)) (ci := 5) (C := rD) (T := tD) (N := 27) hx hb hA inD hown hK hP 0 rfl rfl 7 (by decide) (hA _ wi_495) (fun _ h9 => h9) rfl dD_withByte_42 ?_
        refine lv_iload_n hx hb dD_withByte_45 rfl (lv_at hl 2 rfl) ?_
        refine lv_aload_n hx hb dD_withByte_46 rfl (lv_at hl 1 rfl) ?_
        refine va_get (D := (dC, dI)) (ci := 5) (C := rD) (T := tD) (N := 27) hx hb hA inD hown hK hP 0 rfl rfl 4 (by decide) (hA _ wi_492) (fun _ h9 => h9) rfl dD_withByte_47 ?_
        refine lv_iload_n hx hb dD_withByte_50 rfl (lv_at hl 2 rfl) ?_
        refine va_iald hx hb hK hP 1 0 rfl rfl hki dD_withByte_51 ?_
        refine lv_sipush (v := 255) hx hb dD_withByte_52 (by decide) ?_
        refine lv_iload hx hb dD_withByte_55 (lv_at hl 0 rfl) ?_
        refine lv_ishl hx hb dD_withByte_57 ?_
        refine lv_iconst (v := (-1)) hx hb dD_withByte_58 (by decide) ?_
        refine lv_ixor hx hb dD_withByte_59 ?_
        refine lv_iand hx hb dD_withByte_60 ?_
        refine lv_iload_n hx hb dD_withByte_61 rfl (lv_at hl 4 rfl) ?_
        refine lv_iload hx hb dD_withByte_62 (lv_at hl 0 rfl) ?_
        refine lv_ishl hx hb dD_withByte_64 ?_
        refine lv_ior hx hb dD_withByte_65 ?_
        refine va_iast hx hb hK hP hD hS 2 0 rfl rfl hki dD_withByte_66 (fun H locs hP hD hS => ?_)
        have hP : va_P (dC, dI) vwCl [(x0, .inr (5, [.int (f 0), .int (f 1), .int (f 2), .int (f 3), .ref aw, .ref ao, .int (f 6), .ref ac, .int (f 8), .int (f 9), .int (f 10), .int (f 11), .int (f 12), .int (f 13), .int (f 14), .int (f 15), .int (f 16), .int (f 17), .int (f 18), .ref az, .ref aq, .ref an, .int (f 22), .int (f 23), .int (f 24), .int (f 25), .int (f 26)])), (aw, .inl (cI, 48, .inl Wd)), (ac, .inl (cI, 48, .inl (upd (pg_cp Wd Cd i) (Int32.toNatClampNeg k) (((Wd (Int32.toNatClampNeg k)) &&& ((255 <<< ((24 - (8 * b)) &&& 31)) ^^^ (-1))) ||| (v <<< ((24 - (8 * b)) &&& 31))))))] H := hP
        have hD : va_D A [(x0, .inr (5, [.int (f 0), .int (f 1), .int (f 2), .int (f 3), .ref aw, .ref ao, .int (f 6), .ref ac, .int (f 8), .int (f 9), .int (f 10), .int (f 11), .int (f 12), .int (f 13), .int (f 14), .int (f 15), .int (f 16), .int (f 17), .int (f 18), .ref az, .ref aq, .ref an, .int (f 22), .int (f 23), .int (f 24), .int (f 25), .int (f 26)])), (aw, .inl (cI, 48, .inl Wd)), (ac, .inl (cI, 48, .inl (upd (pg_cp Wd Cd i) (Int32.toNatClampNeg k) (((Wd (Int32.toNatClampNeg k)) &&& ((255 <<< ((24 - (8 * b)) &&& 31)) ^^^ (-1))) ||| (v <<< ((24 - (8 * b)) &&& 31))))))] := hD
        refine lv_aload_n hx hb dD_withByte_67 rfl (lv_at hl 1 rfl) ?_
        refine lv_aload_n hx hb dD_withByte_68 rfl (lv_at hl 1 rfl) ?_
        refine va_get (D := (dC, dI)) (ci := 5) (C := rD) (T := tD) (N := 27) hx hb hA inD hown hK hP 0 rfl rfl 3 (by decide) (hA _ wi_491) (fun _ h9 => h9) rfl dD_withByte_69 ?_
        refine va_put (D := (dC, dI)) (ci := 5) (v := .int (f 3)) (ty := .int) (C := rD) (T := tD) (N := 27) hx hb hA inD tyD tyD_ok nmD hown hK hP hD hS 0 rfl rfl 6 (by decide) (hA _ wi_494) (fun _ h9 => h9) rfl (by decide +kernel) rfl rfl (Nat.le_of_ble_eq_true rfl) dD_withByte_72 (fun H locs hP hD hS => ?_)
        have hP : va_P (dC, dI) vwCl [(x0, .inr (5, [.int (f 0), .int (f 1), .int (f 2), .int (f 3), .ref aw, .ref ao, .int (f 3), .ref ac, .int (f 8), .int (f 9), .int (f 10), .int (f 11), .int (f 12), .int (f 13), .int (f 14), .int (f 15), .int (f 16), .int (f 17), .int (f 18), .ref az, .ref aq, .ref an, .int (f 22), .int (f 23), .int (f 24), .int (f 25), .int (f 26)])), (aw, .inl (cI, 48, .inl Wd)), (ac, .inl (cI, 48, .inl (upd (pg_cp Wd Cd i) (Int32.toNatClampNeg k) (((Wd (Int32.toNatClampNeg k)) &&& ((255 <<< ((24 - (8 * b)) &&& 31)) ^^^ (-1))) ||| (v <<< ((24 - (8 * b)) &&& 31))))))] H := hP
        have hD : va_D A [(x0, .inr (5, [.int (f 0), .int (f 1), .int (f 2), .int (f 3), .ref aw, .ref ao, .int (f 3), .ref ac, .int (f 8), .int (f 9), .int (f 10), .int (f 11), .int (f 12), .int (f 13), .int (f 14), .int (f 15), .int (f 16), .int (f 17), .int (f 18), .ref az, .ref aq, .ref an, .int (f 22), .int (f 23), .int (f 24), .int (f 25), .int (f 26)])), (aw, .inl (cI, 48, .inl Wd)), (ac, .inl (cI, 48, .inl (upd (pg_cp Wd Cd i) (Int32.toNatClampNeg k) (((Wd (Int32.toNatClampNeg k)) &&& ((255 <<< ((24 - (8 * b)) &&& 31)) ^^^ (-1))) ||| (v <<< ((24 - (8 * b)) &&& 31))))))] := hD
        have hPe : va_P (dC, dI) vwCl [(x0, .inr (5, [.int ((upd f 6 (f 3)) 0), .int ((upd f 6 (f 3)) 1), .int ((upd f 6 (f 3)) 2), .int ((upd f 6 (f 3)) 3), .ref aw, .ref ao, .int ((upd f 6 (f 3)) 6), .ref ac, .int ((upd f 6 (f 3)) 8), .int ((upd f 6 (f 3)) 9), .int ((upd f 6 (f 3)) 10), .int ((upd f 6 (f 3)) 11), .int ((upd f 6 (f 3)) 12), .int ((upd f 6 (f 3)) 13), .int ((upd f 6 (f 3)) 14), .int ((upd f 6 (f 3)) 15), .int ((upd f 6 (f 3)) 16), .int ((upd f 6 (f 3)) 17), .int ((upd f 6 (f 3)) 18), .ref az, .ref aq, .ref an, .int ((upd f 6 (f 3)) 22), .int ((upd f 6 (f 3)) 23), .int ((upd f 6 (f 3)) 24), .int ((upd f 6 (f 3)) 25), .int ((upd f 6 (f 3)) 26)])), (aw, .inl (cI, 48, .inl Wd)), (ac, .inl (cI, 48, .inl (md_wb Wd Cd n k b v)))] H := by have e9 : i = n := Nat.le_antisymm hiM (by have := cl_le (show i < 2 ^ 31 by omega) c_9; rw [hn, nI_clamp (by omega)] at this; exact this); subst e9; exact hP
        have hDe : va_D A [(x0, .inr (5, [.int ((upd f 6 (f 3)) 0), .int ((upd f 6 (f 3)) 1), .int ((upd f 6 (f 3)) 2), .int ((upd f 6 (f 3)) 3), .ref aw, .ref ao, .int ((upd f 6 (f 3)) 6), .ref ac, .int ((upd f 6 (f 3)) 8), .int ((upd f 6 (f 3)) 9), .int ((upd f 6 (f 3)) 10), .int ((upd f 6 (f 3)) 11), .int ((upd f 6 (f 3)) 12), .int ((upd f 6 (f 3)) 13), .int ((upd f 6 (f 3)) 14), .int ((upd f 6 (f 3)) 15), .int ((upd f 6 (f 3)) 16), .int ((upd f 6 (f 3)) 17), .int ((upd f 6 (f 3)) 18), .ref az, .ref aq, .ref an, .int ((upd f 6 (f 3)) 22), .int ((upd f 6 (f 3)) 23), .int ((upd f 6 (f 3)) 24), .int ((upd f 6 (f 3)) 25), .int ((upd f 6 (f 3)) 26)])), (aw, .inl (cI, 48, .inl Wd)), (ac, .inl (cI, 48, .inl (md_wb Wd Cd n k b v)))] := sp_Dc hD rfl
        exact W.vret hx hb hr (sp_eWv hPe hDe hS) hS.2.2 dD_withByte_75
      · refine lv_aload_n hx hb dD_withByte_12 rfl (lv_at hl 1 rfl) ?_
        refine va_get (D := (dC, dI)) (ci := 5) (C := rD) (T := tD) (N := 27) hx hb hA inD hown hK hP 0 rfl rfl 7 (by decide) (hA _ wi_495) (fun _ h9 => h9) rfl dD_withByte_13 ?_
        refine lv_iload hx hb dD_withByte_16 (lv_at hl 0 rfl) ?_
        refine lv_aload_n hx hb dD_withByte_18 rfl (lv_at hl 1 rfl) ?_
        refine va_get (D := (dC, dI)) (ci := 5) (C := rD) (T := tD) (N := 27) hx hb hA inD hown hK hP 0 rfl rfl 4 (by decide) (hA _ wi_492) (fun _ h9 => h9) rfl dD_withByte_19 ?_
        refine lv_iload hx hb dD_withByte_22 (lv_at hl 0 rfl) ?_
        refine va_iald hx hb hK hP 1 0 rfl rfl (vp_in_nI (Nat.lt_of_lt_of_le (show i < n from (by have := cl_lt (show i < 2 ^ 31 by omega) c_9; rw [hn, nI_clamp (by omega)] at this; exact this)) hn48) (by decide)) dD_withByte_24 ?_
        refine va_iast hx hb hK hP hD hS 2 0 rfl rfl (vp_in_nI (Nat.lt_of_lt_of_le (show i < n from (by have := cl_lt (show i < 2 ^ 31 by omega) c_9; rw [hn, nI_clamp (by omega)] at this; exact this)) hn48) (by decide)) dD_withByte_25 (fun H locs hP hD hS => ?_)
        have hP : va_P (dC, dI) vwCl [(x0, .inr (5, [.int (f 0), .int (f 1), .int (f 2), .int (f 3), .ref aw, .ref ao, .int (f 6), .ref ac, .int (f 8), .int (f 9), .int (f 10), .int (f 11), .int (f 12), .int (f 13), .int (f 14), .int (f 15), .int (f 16), .int (f 17), .int (f 18), .ref az, .ref aq, .ref an, .int (f 22), .int (f 23), .int (f 24), .int (f 25), .int (f 26)])), (aw, .inl (cI, 48, .inl Wd)), (ac, .inl (cI, 48, .inl (upd (pg_cp Wd Cd i) (Int32.toNatClampNeg (nI i)) (Wd (Int32.toNatClampNeg (nI i))))))] H := hP
        have hD : va_D A [(x0, .inr (5, [.int (f 0), .int (f 1), .int (f 2), .int (f 3), .ref aw, .ref ao, .int (f 6), .ref ac, .int (f 8), .int (f 9), .int (f 10), .int (f 11), .int (f 12), .int (f 13), .int (f 14), .int (f 15), .int (f 16), .int (f 17), .int (f 18), .ref az, .ref aq, .ref an, .int (f 22), .int (f 23), .int (f 24), .int (f 25), .int (f 26)])), (aw, .inl (cI, 48, .inl Wd)), (ac, .inl (cI, 48, .inl (upd (pg_cp Wd Cd i) (Int32.toNatClampNeg (nI i)) (Wd (Int32.toNatClampNeg (nI i))))))] := hD
        refine lv_iinc (v := ((nI i) + 1)) (lv' := [(4, .int ((nI i) + 1)), (0, .ref x0), (1, .int k), (2, .int b), (3, .int v)]) hx hb dD_withByte_26 hl (k := 0) rfl rfl (by decide) rfl (fun ls hl => ?_)
        refine lv_goto (tgt := 3) hx hb dD_withByte_29 (by decide) ?_
        have hi : i < n := (by have := cl_lt (show i < 2 ^ 31 by omega) c_9; rw [hn, nI_clamp (by omega)] at this; exact this)
        have e1 : (nI i).toNatClampNeg = i := nI_clamp (by omega)
        rw [e1, pg_cps] at hP
        refine ih (i + 1) H locs ls (by omega) (by omega) hP (sp_Dc hD rfl) hS ?_
        have h9 := lv_sub hl [0, 1, 2, 3, 4] rfl
        rw [nI_1] at h9
        exact h9
  exact loop ((n - 0) + 1) 0 _ _ ls (Nat.lt_succ_self _) (Nat.zero_le _) (by rw [pg_cp0]; exact hP) (sp_Dc hD rfl) hS (lv_sub hl [0, 1, 2, 3, 4] rfl)
