-- Math.floorMod of longs
theorem dJ_fm_0 : decode prog_12_method_52_code 0 = .ok (.lload_n 0, 1) := by decide +kernel
theorem dJ_fm_1 : decode prog_12_method_52_code 1 = .ok (.lload_n 2, 1) := by decide +kernel
theorem dJ_fm_2 : decode prog_12_method_52_code 2 = .ok (.lrem, 1) := by decide +kernel
theorem dJ_fm_3 : decode prog_12_method_52_code 3 = .ok (.lstore 4, 2) := by decide +kernel
theorem dJ_fm_5 : decode prog_12_method_52_code 5 = .ok (.lload_n 0, 1) := by decide +kernel
theorem dJ_fm_6 : decode prog_12_method_52_code 6 = .ok (.lload_n 2, 1) := by decide +kernel
theorem dJ_fm_7 : decode prog_12_method_52_code 7 = .ok (.lxor, 1) := by decide +kernel
theorem dJ_fm_8 : decode prog_12_method_52_code 8 = .ok (.lconst 0, 1) := by decide +kernel
theorem dJ_fm_9 : decode prog_12_method_52_code 9 = .ok (.lcmp, 1) := by decide +kernel
theorem dJ_fm_10 : decode prog_12_method_52_code 10 = .ok (.ifCond .ge 15, 3) := by decide +kernel
theorem dJ_fm_13 : decode prog_12_method_52_code 13 = .ok (.lload 4, 2) := by decide +kernel
theorem dJ_fm_15 : decode prog_12_method_52_code 15 = .ok (.lconst 0, 1) := by decide +kernel
theorem dJ_fm_16 : decode prog_12_method_52_code 16 = .ok (.lcmp, 1) := by decide +kernel
theorem dJ_fm_17 : decode prog_12_method_52_code 17 = .ok (.ifCond .eq 8, 3) := by decide +kernel
theorem dJ_fm_20 : decode prog_12_method_52_code 20 = .ok (.lload 4, 2) := by decide +kernel
theorem dJ_fm_22 : decode prog_12_method_52_code 22 = .ok (.lload_n 2, 1) := by decide +kernel
theorem dJ_fm_23 : decode prog_12_method_52_code 23 = .ok (.ladd, 1) := by decide +kernel
theorem dJ_fm_24 : decode prog_12_method_52_code 24 = .ok (.lreturn, 1) := by decide +kernel
theorem dJ_fm_25 : decode prog_12_method_52_code 25 = .ok (.lload 4, 2) := by decide +kernel
theorem dJ_fm_27 : decode prog_12_method_52_code 27 = .ok (.lreturn, 1) := by decide +kernel
def fm_v (x y : Int64) : Int64 := if 0 ≤ lg_cmp (x ^^^ y) 0 then x - x / y * y else if lg_cmp (x - x / y * y) 0 = 0 then x - x / y * y else x - x / y * y + y
set_option maxHeartbeats 4000000 in
set_option maxRecDepth 100000 in
theorem kJ_fm (l : Launch) (x y : Int64) (hy : ¬ y = 0) : Met l ⟨"java/lang/Math", "floorMod", "(JJ)J"⟩ (.code ⟨"java/lang/Math", "floorMod", "(JJ)J"⟩ prog_12_method_52_code 6 (some .long) :: wA) ({ frames := 0, cells := 0, slots := 0, locals := 0 }) (va_Pc [.long x, .long y] (fun _ => True)) (va_Ql (fun r (_ : Unit) => r = fm_v x y) (fun _ _ => True) (fun _ => False)) 0 0 (fun _ => False) := by
  refine va_MetF (cc := prog_12_method_52_code) (maxL := 6) (ret := (some .long)) (by decide +kernel) rfl ?_
  intro p e s m args below meth c s₁ B hml hv
  obtain ⟨rfl, -⟩ := hv
  have hx := B.exec
  have hb := B.bytes
  have hr := B.returns
  have hlocks := B.notSynchronized
  have hS : va_S (fun _ => False) s.heap s.heap [] := va_S.rf
  have hl := lv_entry ([.long x, .long y]) (n := 6) (Nat.le_of_ble_eq_true rfl)
  rw [lg_entry_eq]
  generalize (lg_sl ([.long x, .long y]) ++ List.replicate (6 - (lg_sl ([.long x, .long y])).length) Slot.unset).toArray = ls at hl ⊢
  have hl : lv_has ls 6 [(0, .long x), (2, .long y)] := hl
  refine lv_lload_n hx hb dJ_fm_0 rfl (lv_at hl 0 rfl) ?_
  refine lv_lload_n hx hb dJ_fm_1 rfl (lv_at hl 1 rfl) ?_
  refine lv_lrem hx hb dJ_fm_2 hy ?_
  refine lv_lstore (lv' := [(4, .long (x - x / y * y)), (0, .long x), (2, .long y)]) hx hb dJ_fm_3 hl (by decide) rfl (fun ls hl => ?_)
  refine lv_lload_n hx hb dJ_fm_5 rfl (lv_at hl 1 rfl) ?_
  refine lv_lload_n hx hb dJ_fm_6 rfl (lv_at hl 2 rfl) ?_
  refine lv_lxor hx hb dJ_fm_7 ?_
  refine lv_lconst (v := 0) hx hb dJ_fm_8 (by decide) ?_
  refine W.lcmp hx hb dJ_fm_9 ?_
  refine lv_if_ge (tgt := 25) hx hb dJ_fm_10 (by decide) (fun c_10 => ?_) (fun c_10 => ?_)
  · refine lv_lload hx hb dJ_fm_25 (lv_at hl 0 rfl) ?_
    exact W.lret hx hb hr (fun t ht _ => ⟨⟨_, (), rfl, by rw [fm_v, if_pos c_10], trivial⟩, hS.F ht⟩) hS.2.2 dJ_fm_27
  · refine lv_lload hx hb dJ_fm_13 (lv_at hl 0 rfl) ?_
    refine lv_lconst (v := 0) hx hb dJ_fm_15 (by decide) ?_
    refine W.lcmp hx hb dJ_fm_16 ?_
    refine lv_if_eq (tgt := 25) hx hb dJ_fm_17 (by decide) (fun c_17 => ?_) (fun c_17 => ?_)
    · refine lv_lload hx hb dJ_fm_25 (lv_at hl 0 rfl) ?_
      exact W.lret hx hb hr (fun t ht _ => ⟨⟨_, (), rfl, by rw [fm_v, if_neg c_10, if_pos c_17], trivial⟩, hS.F ht⟩) hS.2.2 dJ_fm_27
    · refine lv_lload hx hb dJ_fm_20 (lv_at hl 0 rfl) ?_
      refine lv_lload_n hx hb dJ_fm_22 rfl (lv_at hl 2 rfl) ?_
      refine lv_ladd hx hb dJ_fm_23 ?_
      exact W.lret hx hb hr (fun t ht _ => ⟨⟨_, (), rfl, by rw [fm_v, if_neg c_10, if_neg c_17], trivial⟩, hS.F ht⟩) hS.2.2 dJ_fm_24
theorem fm_blind (x y : Int64) : FrameBlind (va_Pc [.long x, .long y] (fun _ => True)) := fun a U g mk q => q
