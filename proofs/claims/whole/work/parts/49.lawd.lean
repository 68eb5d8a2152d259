-- THE LAW: its loop (by wip/gen/law3.py)
theorem sw_out8 {x : Int32} (e0 : ¬ x = 0) (e1 : ¬ x = 1) (e2 : ¬ x = 2) (e3 : ¬ x = 3) (e4 : ¬ x = 4) (e5 : ¬ x = 5) (e6 : ¬ x = 6) (e7 : ¬ x = 7) (e8 : ¬ x = 8) : x.toInt < 0 ∨ 8 < x.toInt := by
  by_cases h0 : x.toInt < 0
  · exact Or.inl h0
  · refine Or.inr ?_
    by_cases h9 : 8 < x.toInt
    · exact h9
    · exfalso
      have hn : ¬ x < 0 := by rw [Int32.lt_iff_toInt_lt]; exact h0
      obtain ⟨j, hj, rfl⟩ := nI_of hn
      rw [nI_toInt hj] at h9
      have : j < 9 := by omega
      rcases (show j = 0 ∨ j = 1 ∨ j = 2 ∨ j = 3 ∨ j = 4 ∨ j = 5 ∨ j = 6 ∨ j = 7 ∨ j = 8 by omega) with rfl | rfl | rfl | rfl | rfl | rfl | rfl | rfl | rfl
      · exact e0 rfl
      · exact e1 rfl
      · exact e2 rfl
      · exact e3 rfl
      · exact e4 rfl
      · exact e5 rfl
      · exact e6 rfl
      · exact e7 rfl
      · exact e8 rfl
theorem lw_lt {i L : Nat} (hL : L ≤ 2561) (hi : i ≤ L + 1) (h : L < i + 5) : Int32.ofNat L - 5 < nI i := by
  have e1 : (nI L).toInt = (L : Int) := nI_toInt (by omega)
  have e2 : (nI i).toInt = (i : Int) := nI_toInt (by omega)
  have e5 : (5 : Int32).toInt = 5 := by decide
  show nI L - 5 < nI i
  rw [Int32.lt_iff_toInt_lt, Int32.toInt_sub, e1, e2, e5, Int.bmod_eq_of_le (by omega) (by omega)]
  omega
set_option maxHeartbeats 4000000 in
set_option maxRecDepth 100000 in
theorem law_loop {p : Program} {l : Launch} {e : Env} {s : State} {m : MethodId} {below : List Frame} {meth : Method} {c : Code} {b L : Nat} {xs : Nat → Int32} {dC : Nat → ClassId} {dI : Nat → Nat → Nat} {cI cQ cJ : ClassId} {A : Nat → Prop} (hC : lw_Ctx p l s m meth c b L xs dC dI cI cQ cJ A) (hAs : ∀ q : Nat, A q → s.heap.size ≤ q) (hL : L ≤ 2561) (s0 c0 d0 m0 k0 cw co dw do_ aa o0 x0 aw ao ac az aq ax : Nat) : ∀ (n i kc ks : Nat), i ≤ L + 1 → L + 2 ≤ i + 5 * n → kc + 4 * n ≤ 601024 → ks + 102 * n ≤ 7292999 → lw_K p l e s m below meth c b dC dI cI cQ cJ A s0 c0 d0 m0 k0 cw co dw do_ aa o0 x0 aw ao ac az aq ax kc ks 33 i := by
  obtain ⟨⟨hx, hb, hr, hml, hown, hts, hX, hbl, hlocks, hgv⟩, hl0, hKL, hG, hE, hZ, hN, hF, hbA⟩ := id hC
  have hb : c.code = cL_law := hb
  intro n
  induction n with
  | zero => intro i kc ks h1 h2; exact absurd h2 (by omega)
  | succ n ih =>
    intro i kc ks hi hn hkc hks C D ov H locs ls hI hP hD hS hl
    have back : lw_K p l e s m below meth c b dC dI cI cQ cJ A s0 c0 d0 m0 k0 cw co dw do_ aa o0 x0 aw ao ac az aq ax (kc + 4) (ks + 102) 565 i ∨ ¬ i + 5 ≤ L := by
      rcases Nat.lt_or_ge L (i + 5) with q | q
      · exact Or.inr (by omega)
      · refine Or.inl ?_
        intro C D ov H locs ls hI hP hD hS hl
        refine lv_iinc (v := nI i + 5) (lv' := [(4, .int (nI i + 5)), (0, .ref b), (1, .ref s0), (2, .ref x0), (3, .ref o0)]) hx hb dL_law_565 hl (k := 4) rfl rfl (by decide) rfl (fun ls hl => ?_)
        rw [show (nI i + 5 : Int32) = nI (i + 5) from nI_add i 5] at hl
        refine lv_goto (tgt := 33) hx hb dL_law_568 (by decide) ?_
        exact ih (i + 5) (kc + 4) (ks + 102) (by omega) (by omega) (by omega) (by omega) C D ov H locs ls hI hP hD hS (lv_sub hl [1, 2, 3, 4, 0] rfl)
    refine lv_iload hx hb dL_law_33 (lv_at hl 4 rfl) ?_
    refine lv_aload_n hx hb dL_law_35 rfl (lv_at hl 0 rfl) ?_
    refine va_slen hx hb hX hbl hbA hS dL_law_36 ?_
    refine lv_iconst (v := 5) hx hb dL_law_37 (by decide) ?_
    refine lv_isub hx hb dL_law_38 ?_
    refine lv_icmp_gt (tgt := 571) hx hb dL_law_39 (by decide) (fun c_39 => ?_) (fun c_39 => ?_)
    · refine lv_iconst (v := 1) hx hb dL_law_571 (by decide) ?_
      refine va_forget (fun q hq => hAs _ (hS.2.2 q hq)) ?_
      refine W.widen (k := 601024) (n := 7292999) (by omega) (by omega) ?_
      exact lw_ret hx hb hr hlocks dL_law_572
    · have hi5 : i + 5 ≤ L := by
        rcases Nat.lt_or_ge L (i + 5) with q | q
        · exact absurd (lw_lt hL hi q) c_39
        · exact q
      have back := back.resolve_right (fun q => q hi5)
      refine lv_aload_n hx hb dL_law_42 rfl (lv_at hl 0 rfl) ?_
      refine lv_iload hx hb dL_law_43 (lv_at hl 4 rfl) ?_
      refine va_sld hx hb hX hbl hbA hS (vp_in_nI (n := i) (by omega) (by omega)) dL_law_45 ?_
      refine lv_bipush (v := 15) hx hb dL_law_46 (by decide) ?_
      refine lv_iand hx hb dL_law_48 ?_
      generalize (xs (Int32.toNatClampNeg (nI i)) &&& 15) = z
      by_cases e_0 : z = 0
      · refine lv_tableIn (tgt := 100) hx hb dL_law_49 (by rw [e_0]; decide) (by rw [e_0]; decide) (by rw [e_0]; rfl) (by decide) ?_
        exact lw_c0 hC hL s0 c0 d0 m0 k0 cw co dw do_ aa o0 x0 aw ao ac az aq ax i kc ks hi5 (by omega) (by omega) back C D ov H locs ls hI hP hD hS hl
      by_cases e_1 : z = 1
      · refine lv_tableIn (tgt := 156) hx hb dL_law_49 (by rw [e_1]; decide) (by rw [e_1]; decide) (by rw [e_1]; rfl) (by decide) ?_
        exact lw_c1 hC hL s0 c0 d0 m0 k0 cw co dw do_ aa o0 x0 aw ao ac az aq ax i kc ks hi5 (by omega) (by omega) back C D ov H locs ls hI hP hD hS hl
      by_cases e_2 : z = 2
      · refine lv_tableIn (tgt := 180) hx hb dL_law_49 (by rw [e_2]; decide) (by rw [e_2]; decide) (by rw [e_2]; rfl) (by decide) ?_
        exact lw_c2 hC hL s0 c0 d0 m0 k0 cw co dw do_ aa o0 x0 aw ao ac az aq ax i kc ks hi5 (by omega) (by omega) back C D ov H locs ls hI hP hD hS hl
      by_cases e_3 : z = 3
      · refine lv_tableIn (tgt := 236) hx hb dL_law_49 (by rw [e_3]; decide) (by rw [e_3]; decide) (by rw [e_3]; rfl) (by decide) ?_
        exact lw_c3 hC hL s0 c0 d0 m0 k0 cw co dw do_ aa o0 x0 aw ao ac az aq ax i kc ks hi5 (by omega) (by omega) back C D ov H locs ls hI hP hD hS hl
      by_cases e_4 : z = 4
      · refine lv_tableIn (tgt := 280) hx hb dL_law_49 (by rw [e_4]; decide) (by rw [e_4]; decide) (by rw [e_4]; rfl) (by decide) ?_
        exact lw_c4 hC hL s0 c0 d0 m0 k0 cw co dw do_ aa o0 x0 aw ao ac az aq ax i kc ks hi5 (by omega) (by omega) back C D ov H locs ls hI hP hD hS hl
      by_cases e_5 : z = 5
      · refine lv_tableIn (tgt := 336) hx hb dL_law_49 (by rw [e_5]; decide) (by rw [e_5]; decide) (by rw [e_5]; rfl) (by decide) ?_
        exact lw_c5 hC hL s0 c0 d0 m0 k0 cw co dw do_ aa o0 x0 aw ao ac az aq ax i kc ks hi5 (by omega) (by omega) back C D ov H locs ls hI hP hD hS hl
      by_cases e_6 : z = 6
      · refine lv_tableIn (tgt := 392) hx hb dL_law_49 (by rw [e_6]; decide) (by rw [e_6]; decide) (by rw [e_6]; rfl) (by decide) ?_
        exact lw_c6 hC hL s0 c0 d0 m0 k0 cw co dw do_ aa o0 x0 aw ao ac az aq ax i kc ks hi5 (by omega) (by omega) back C D ov H locs ls hI hP hD hS hl
      by_cases e_7 : z = 7
      · refine lv_tableIn (tgt := 448) hx hb dL_law_49 (by rw [e_7]; decide) (by rw [e_7]; decide) (by rw [e_7]; rfl) (by decide) ?_
        exact lw_c7 hC hL s0 c0 d0 m0 k0 cw co dw do_ aa o0 x0 aw ao ac az aq ax i kc ks hi5 (by omega) (by omega) back C D ov H locs ls hI hP hD hS hl
      by_cases e_8 : z = 8
      · refine lv_tableIn (tgt := 540) hx hb dL_law_49 (by rw [e_8]; decide) (by rw [e_8]; decide) (by rw [e_8]; rfl) (by decide) ?_
        exact lw_c8 hC hL s0 c0 d0 m0 k0 cw co dw do_ aa o0 x0 aw ao ac az aq ax i kc ks hi5 (by omega) (by omega) back C D ov H locs ls hI hP hD hS hl
      refine lv_tableOut (tgt := 565) hx hb dL_law_49 (sw_out8 e_0 e_1 e_2 e_3 e_4 e_5 e_6 e_7 e_8) (by decide) ?_
      refine W.widen (k := kc + 4) (n := ks + 102) (by omega) (by omega) ?_
      exact back C D ov H locs ls hI hP hD hS hl

