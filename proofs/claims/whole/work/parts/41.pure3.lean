-- PURE, 3: taking an answer, going on to the next ask
def PGq (nn : Nat) (c : PR) (f W O : Nat → Int32) : Prop := nn ≤ 48 ∧ c.1 = nI nn ∧ f 3 = nI nn ∧ ∀ j, j < nn → c.2.1 j = W j ∧ c.2.2 j = O j
def CNq (g f : Nat → Int32) : Prop := f 22 = g 7 ∧ f 23 = g 8 ∧ f 24 = g 9 ∧ f 25 = g 10 ∧ f 17 = g 6
def BDq (bud k : Nat) (g f : Nat → Int32) : Prop := 1 ≤ bud ∧ bud ≤ 600 ∧ g 0 = nI bud ∧ f 1 = nI bud ∧ f 18 = nI k ∧ k ≤ bud
/-- what was asked, and was the difference, weighs no less than what stands now -/
def DEq (nn k : Nat) (x : Int32) (W Sz Aw An : Nat → Int32) : Prop := ∀ i, i < k → An i = x → ∀ c, c ≤ 48 → Sz i = nI c → ps_wt W nn ≤ ps_wt (fun j => Aw (48 * i + j)) c
theorem Stn.wt {n : Nat} {W w f C : Nat → Int32} {cz : Nat} (h : Stn n W w f C cz) : ps_wt C cz < ps_wt W n ∧ cz ≤ n := by
  rcases h.2 with ⟨p, pl, q, h1, rfl, h3⟩ | ⟨wp, bp, x, q, h1, rfl, h3, h4⟩
  · rw [wt_congr h3]
    exact ⟨wt_out W h1 q.2.2.2.2.2.2.2.1, by omega⟩
  · rw [wt_congr h4]
    exact ⟨wt_upd h1 (ww_lt q.2.2.2.2.2.2.2.2.2.1 (lvN_lt h3)), Nat.le_refl _⟩
theorem Stn.c {n : Nat} {W w f f' C : Nat → Int32} {cz : Nat} (h : Stn n W w f C cz) (hf : ∀ i, (9 ≤ i ∧ i ≤ 16) ∨ i = 26 → f' i = f i) : Stn n W w f' C cz := by
  refine ⟨by rw [hf 26 (by omega)]; exact h.1, ?_⟩
  rcases h.2 with ⟨p, pl, q, r⟩ | ⟨wp, bp, x, q, r⟩
  · exact Or.inl ⟨p, pl, LVq_c q (fun i h1 h2 => hf i (by omega)), r⟩
  · exact Or.inr ⟨wp, bp, x, LWq_c q (fun i h1 h2 => hf i (by omega)), r⟩
theorem Stn.cd {n : Nat} {W w f C C' : Nat → Int32} {cz : Nat} (h : Stn n W w f C cz) (hc : ∀ j, j < cz → C' j = C j) : Stn n W w f C' cz := by
  refine ⟨h.1, ?_⟩
  rcases h.2 with ⟨p, pl, q, h1, h2, h3⟩ | ⟨wp, bp, x, q, h1, h2, h3, h4⟩
  · exact Or.inl ⟨p, pl, q, h1, h2, fun j hj => by rw [hc j hj]; exact h3 j hj⟩
  · exact Or.inr ⟨wp, bp, x, q, h1, h2, h3, fun j hj => by rw [hc j (by omega)]; exact h4 j hj⟩
/-- the class's change of a program that has the same words -/
theorem ch_eq {n cz : Nat} {c : PR} {w f W C : Nat → Int32} (hn : n ≤ 48) (e1 : c.1 = nI n) (e2 : ∀ j, j < n → c.2.1 j = W j) (h : Stn n W w f C cz) : (an_ch c w).1 = nI cz ∧ ∀ j, j < cz → (an_ch c w).2.1 j = C j := by
  show ch_N c.2.1 c.2.2 c.1 w = nI cz ∧ ∀ j, j < cz → ch_W c.2.1 c.2.2 c.1 w j = C j
  unfold ch_N ch_W
  rcases h.2 with ⟨p, pl, q, h1, h2, h3⟩ | ⟨wp, bp, x, q, h1, h2, h3, h4⟩
  · obtain ⟨k0, -, k1, -, k2, -, -, hp1, hp, -⟩ := q
    rw [if_pos k0, if_pos k0, k1, k2, e1]
    obtain ⟨o1, o2⟩ := ps_chL c.2.1 c.2.2 hn h1 hp1 hp
    refine ⟨by rw [o1, h2], fun j hj => ?_⟩
    rw [(o2 j (by omega)).1, h3 j hj]
    by_cases e : j < pl
    · rw [lo_a _ e, lo_a _ e]; exact e2 j (by omega)
    · rw [lo_b _ e, lo_b _ e]; exact e2 _ (by omega)
  · obtain ⟨k0, -, hh, -, k4, -, -, k5, -, hb, -⟩ := q
    have n0 : ¬ w 0 = 0 := lw_ne k0 hh
    rw [if_neg n0, if_neg n0, e1]
    refine ⟨by rw [h2], fun j hj => ?_⟩
    have hv : byN (W wp) bp < 256 := byN_lt _ _
    unfold pg_sbW ch_V
    rw [k4, k5, cb_pg hn h1 hb (e2 wp h1), cl_lv k0 hv h3, if_neg (fun z => by have := (ps_has hn (by omega)).mp z; omega), nI_clamp (by omega), sb_pg _ hb (by have := lvN_lt h3; omega), h4 j (by omega), e2 wp h1]
    unfold upd
    by_cases e : j = wp
    · rw [if_pos e, if_pos e]
    · rw [if_neg e, if_neg e]; exact e2 j (by omega)
theorem ch_or {n : Nat} {c : PR} {w f O : Nat → Int32} {p pl : Nat} (hn : n ≤ 48) (e1 : c.1 = nI n) (e2 : ∀ j, j < n → c.2.2 j = O j) (q : LVq w f p pl) (h1 : pl < n) : ∀ j, j < pl + (n - pl - p) → (an_ch c w).2.2 j = ps_lo O pl p j := by
  intro j hj
  obtain ⟨k0, -, k1, -, k2, -, -, hp1, hp, -⟩ := q
  show ch_O c.2.1 c.2.2 c.1 w j = _
  unfold ch_O
  rw [if_pos k0, k1, k2, e1, ((ps_chL c.2.1 c.2.2 hn h1 hp1 hp).2 j hj).2]
  by_cases e : j < pl
  · rw [lo_a _ e, lo_a _ e]; exact e2 j (by omega)
  · rw [lo_b _ e, lo_b _ e]; exact e2 _ (by omega)
theorem cp_eq {n : Nat} {c d : PR} {W : Nat → Int32} (hn : n ≤ 48) (e1 : c.1 = nI n) (e2 : ∀ j, j < n → c.2.1 j = W j) : (an_cp c d).1 = nI n ∧ ∀ j, j < n → (an_cp c d).2.1 j = W j := by
  show pg_cpN c.1 = nI n ∧ ∀ j, j < n → pg_cp c.2.1 d.2.1 (pg_cpN c.1).toNatClampNeg j = W j
  rw [e1, ps_cpN hn, nI_clamp (by omega)]
  exact ⟨rfl, fun j hj => by unfold pg_cp; rw [if_pos hj]; exact e2 j hj⟩
theorem upd_self (f : Nat → Int32) (k : Nat) : upd f k (f k) = f := by
  funext j; unfold upd
  by_cases e : j = k
  · rw [if_pos e, e]
  · rw [if_neg e]
theorem an0_bad {f : Nat → Int32} {d : Int32} (h : ¬ d = f 17) : md_an0 f d = f := by
  unfold md_an0; rw [if_neg h, Int32.add_zero, upd_self]
theorem an_bad {n cz : Nat} {W w f C : Nat → Int32} {d : Int32} (hn : n ≤ 48) (h : Stn n W w f C cz) (hd : ¬ d = f 17) : WRq n (wk_pass w) (md_anF f d) ∧ rk n (wk_pass w) < rk n w ∧ fr f (md_anF f d) := by
  obtain ⟨h7, h⟩ := h
  unfold md_anF
  rw [if_neg hd, if_neg hd, an0_bad hd]
  rcases h with ⟨p, pl, q, h1, -, -⟩ | ⟨wp, bp, x, q, h1, -, -, -⟩
  · have hr := rk_L (n := n) q
    obtain ⟨k0, k9, k1, k12, k2, k13, k3, hp1, hp, hpl⟩ := q
    have e : wk_pass w = upd w 2 (w 2 + w 1) := by unfold wk_pass; rw [if_pos k0]
    rw [if_pos k9, e]
    have hL : LVq (upd w 2 (w 2 + w 1)) (upd f 13 (f 13 + f 12)) p (pl + p) := by
      refine ⟨k0, k9, k1, k12, ?_, ?_, k3, hp1, hp, by omega⟩
      · show w 2 + w 1 = _; rw [k1, k2, nI_add]
      · show f 13 + f 12 = _; rw [k12, k13, nI_add]
    refine ⟨⟨h7, Or.inl ⟨_, _, hL⟩⟩, ?_, fr_up (fr_rf f) (by omega)⟩
    rw [rk_L hL, hr, show upd w 2 (w 2 + w 1) 3 = w 3 from rfl]
    omega
  · have hr := rk_W hn q
    obtain ⟨k0, k16, hh, hP⟩ := q
    have hP' := hP
    obtain ⟨k9, k4, k14, hle, k5, k15, hb, k6, hnz⟩ := hP
    have n0 : ¬ w 0 = 0 := lw_ne k0 hh
    rw [if_neg (show ¬ f 9 = 0 by rw [k9]; decide)]
    rcases (show x = 0 ∨ x = 1 ∨ x = 2 by omega) with rfl | rfl | rfl
    · have e0 : w 0 = 1 := k0
      have e : wk_pass w = upd w 0 2 := by unfold wk_pass; rw [if_neg n0, if_pos e0]
      rw [if_neg (show ¬ f 16 = 2 by rw [k16]; decide), e]
      have hW : LWq n (upd w 0 2) (upd f 16 (f 16 + 1)) wp bp 1 := ⟨rfl, by show f 16 + 1 = _; rw [k16, nI_1], by omega, k9, k4, k14, hle, k5, k15, hb, k6, hnz⟩
      refine ⟨⟨h7, Or.inr ⟨_, _, _, hW⟩⟩, ?_, fr_up (fr_rf f) (by omega)⟩
      rw [rk_W hn hW, hr, show upd w 0 2 6 = w 6 from rfl]
      omega
    · have e0 : w 0 = 2 := k0
      have e : wk_pass w = upd w 0 3 := by unfold wk_pass; rw [if_neg n0, if_neg (by rw [e0]; decide), if_pos e0]
      rw [if_neg (show ¬ f 16 = 2 by rw [k16]; decide), e]
      have hW : LWq n (upd w 0 3) (upd f 16 (f 16 + 1)) wp bp 2 := ⟨rfl, by show f 16 + 1 = _; rw [k16, nI_1], by omega, k9, k4, k14, hle, k5, k15, hb, k6, hnz⟩
      refine ⟨⟨h7, Or.inr ⟨_, _, _, hW⟩⟩, ?_, fr_up (fr_rf f) (by omega)⟩
      rw [rk_W hn hW, hr, show upd w 0 3 6 = w 6 from rfl]
      omega
    · have e0 : w 0 = 3 := k0
      have e : wk_pass w = wk_next w := by unfold wk_pass; rw [if_neg n0, if_neg (by rw [e0]; decide), if_neg (by rw [e0]; decide)]
      rw [if_pos (show f 16 = 2 from k16), e]
      obtain ⟨wp', bp', hN1, hr1, j6, j7, j26⟩ := sp_next hn hP' h1
      refine ⟨⟨by rw [j7, j26]; exact h7, Or.inr ⟨_, _, _, hN1⟩⟩, ?_, fr_next f⟩
      rw [rk_W hn hN1, hr, j6]
      omega
theorem LPq_c {n : Nat} {w w' f f' : Nat → Int32} {wp bp : Nat} (h : LPq n w f wp bp) (hw : w' 4 = w 4 ∧ w' 5 = w 5) (hf : f' 9 = f 9 ∧ f' 14 = f 14 ∧ f' 15 = f 15) (h6 : ¬ w' 6 = 0) (h11 : ¬ f' 11 = 0) (hn : 0 < n) : LPq n w' f' wp bp := by
  obtain ⟨k9, k4, k14, hle, k5, k15, hb, -, -⟩ := h
  exact ⟨hf.1.trans k9, hw.1.trans k4, hf.2.1.trans k14, hle, hw.2.trans k5, hf.2.2.trans k15, hb, ⟨fun z => absurd z h6, fun z => absurd z h11⟩, fun _ => hn⟩
/-- a good answer -/
theorem an_good {n cz pl : Nat} {c : PR} {g f w W O C : Nat → Int32} {d : Int32} (hP : PGq n c f W O) (h : Stn n W w f C cz) (h6 : f 6 = nI cz) (hC : CNq g f) (hd : d = f 17) (hpl : f 9 = 0 → f 13 = nI pl ∧ pl ≤ 48) :
    PGq cz (an_ch c w) (md_anF f d) (md_anW f W C d cz) (md_anO f O d pl (n - cz) cz) ∧ CNq (tk_go g w c.1 (an_ch c w).1) (md_anF f d) ∧ WRq cz (wk_go w) (md_anF f d) ∧ (∀ j, j < cz → md_anW f W C d cz j = C j) ∧ (∀ i, i < 3 ∨ i = 6 ∨ i = 8 ∨ i = 17 ∨ i = 18 → md_anF f d i = f i) ∧ (∀ i, i < 8 → tk_go g w c.1 (an_ch c w).1 i = g i) := by
  obtain ⟨hn, e1, e3, e2⟩ := hP
  obtain ⟨o1, o2⟩ := ch_eq hn e1 (fun j hj => (e2 j hj).1) h
  have hw := h.wt
  obtain ⟨c22, c23, c24, c25, c17⟩ := hC
  obtain ⟨h7, h⟩ := h
  rcases h with ⟨p, pl', q, h1, h2, h3⟩ | ⟨wp, bp, x, q, h1, h2, h3, h4⟩
  · have oo := ch_or hn e1 (fun j hj => (e2 j hj).2) q h1
    obtain ⟨k0, k9, k1, k12, k2, k13, k3, hp1, hp, hpl2⟩ := q
    have epl : pl = pl' := by
      obtain ⟨z1, z2⟩ := hpl k9
      exact (nI_eq (by omega) (by omega)).mp (z1.symm.trans k13)
    subst epl
    unfold md_anF md_anW md_anO
    rw [if_pos k9, if_pos k9, if_pos k9, if_pos hd, if_pos hd, if_pos hd]
    have eg : wk_go w = upd w 3 1 := by unfold wk_go; rw [if_pos k0]
    have et : tk_go g w c.1 (an_ch c w).1 = upd (upd g 8 (g 8 + 1)) 9 (g 9 + (c.1 - (an_ch c w).1)) := by unfold tk_go; rw [if_pos (show wk_low w = 0 by unfold wk_low; rw [if_pos k0])]
    rw [eg, et, o1]
    have ea : md_an0 f d = upd f 23 (f 23 + 1) := by unfold md_an0; rw [if_pos hd]
    rw [ea]
    refine ⟨⟨by omega, o1, ?_, fun j hj => ?_⟩, ⟨c22, ?_, ?_, c25, c17⟩, ⟨h7, Or.inl ⟨p, pl, k0, k9, k1, k12, k2, k13, ⟨fun z => absurd z (by rw [show upd w 3 1 3 = 1 from rfl]; decide), fun z => absurd z (by rw [show md_tlF (upd f 23 (f 23 + 1)) 10 = 1 from rfl]; decide)⟩, hp1, hp, hpl2⟩⟩, fun j hj => ?_, fun i hi => ?_, fun i hi => ?_⟩
    · show f 6 = _; exact h6
    · refine ⟨by rw [o2 j hj]; unfold pg_cp; rw [if_pos hj], ?_⟩
      rw [oo j (by omega)]
      unfold md_mv
      by_cases e : j < pl
      · rw [lo_a _ e, if_neg (by omega)]
      · rw [lo_b _ e, if_pos ⟨by omega, hj⟩, show n - cz = p by omega]
    · show f 23 + 1 = g 8 + 1; rw [c23]
    · show f 24 + (f 3 - f 6) = g 9 + (c.1 - nI cz); rw [c24, e3, h6, e1]
    · unfold pg_cp; rw [if_pos hj]
    · unfold md_tlF; rw [upd_ne _ _ (by omega), upd_ne _ _ (by omega), upd_ne _ _ (by omega), upd_ne _ _ (by omega)]
    · rw [upd_ne _ _ (by omega), upd_ne _ _ (by omega)]
  · subst h2
    obtain ⟨k0, k16, hh, hP⟩ := q
    have hP' := hP
    obtain ⟨k9, k4, k14, hle, k5, k15, hb, k6, hnz⟩ := hP
    have n0 : ¬ w 0 = 0 := lw_ne k0 hh
    have n9 : ¬ f 9 = 0 := by rw [k9]; decide
    unfold md_anF md_anW md_anO
    rw [if_neg n9, if_neg n9, if_neg n9, if_pos hd, if_pos hd]
    have ea : md_an0 f d = upd f 23 (f 23 + 1) := by unfold md_an0; rw [if_pos hd]
    have et : tk_go g w c.1 (an_ch c w).1 = upd (upd (upd g 8 (g 8 + 1)) 9 (g 9 + (c.1 - (an_ch c w).1))) 10 (g 10 + 1) := by unfold tk_go; rw [if_neg (show ¬ wk_low w = 0 by unfold wk_low; rw [if_neg n0]; decide)]
    have es : g 9 + (c.1 - (an_ch c w).1) = g 9 := by rw [o1, e1, Int32.sub_self, Int32.add_zero]
    rw [et, es, ea]
    have hw14 : md_twW f W C = upd W wp (C wp) := by unfold md_twW; rw [k14, nI_clamp (by omega)]
    rw [hw14]
    have hWC : ∀ j, j < cz → upd W wp (C wp) j = C j := fun j hj => by
      by_cases e : j = wp
      · rw [e, upd_eq]
      · rw [upd_ne _ _ e, h4 j hj, upd_ne _ _ e]
    have hoo : ∀ j, j < cz → (an_ch c w).2.2 j = O j := fun j hj => by
      show ch_O c.2.1 c.2.2 c.1 w j = _
      unfold ch_O; rw [if_neg n0]; exact (e2 j hj).2
    have main : ∀ (w1 f1 : Nat → Int32), WRq cz w1 f1 → (∀ i, (i < 9 ∨ 16 < i) ∧ i ≠ 26 → f1 i = upd (upd (upd f 23 (f 23 + 1)) 25 (f 25 + 1)) 11 1 i) → PGq cz (an_ch c w) f1 (upd W wp (C wp)) O ∧ CNq (upd (upd (upd g 8 (g 8 + 1)) 9 (g 9)) 10 (g 10 + 1)) f1 ∧ WRq cz w1 f1 ∧ (∀ j, j < cz → upd W wp (C wp) j = C j) ∧ (∀ i, i < 3 ∨ i = 6 ∨ i = 8 ∨ i = 17 ∨ i = 18 → f1 i = f i) ∧ (∀ i, i < 8 → upd (upd (upd g 8 (g 8 + 1)) 9 (g 9)) 10 (g 10 + 1) i = g i) := by
      intro w1 f1 hR hf
      refine ⟨⟨hn, o1, by rw [hf 3 (by omega)]; exact e3, fun j hj => ⟨by rw [o2 j hj, hWC j hj], hoo j hj⟩⟩, ⟨by rw [hf 22 (by omega)]; exact c22, ?_, by rw [hf 24 (by omega)]; exact c24, ?_, by rw [hf 17 (by omega)]; exact c17⟩, hR, hWC, fun i hi => ?_, fun i hi => ?_⟩
      · rw [hf 23 (by omega)]; show f 23 + 1 = g 8 + 1; rw [c23]
      · rw [hf 25 (by omega)]; show f 25 + 1 = g 10 + 1; rw [c25]
      · rw [hf i (by omega), upd_ne _ _ (by omega), upd_ne _ _ (by omega), upd_ne _ _ (by omega)]
      · rw [upd_ne _ _ (by omega), upd_ne _ _ (by omega), upd_ne _ _ (by omega)]
    have hpos : 0 < cz := by omega
    unfold md_twF
    by_cases e16 : x = 0
    · subst e16
      have e0 : w 0 = 1 := k0
      have eg : wk_go w = wk_next (upd w 6 1) := by unfold wk_go; rw [if_neg n0, if_pos e0]
      rw [if_pos (show upd f 23 (f 23 + 1) 16 = 0 from k16), eg]
      have hP2 : LPq cz (upd w 6 1) (md_tw0 (upd f 23 (f 23 + 1))) wp bp := LPq_c hP' ⟨rfl, rfl⟩ ⟨rfl, rfl, rfl⟩ (by rw [upd_eq]; decide) (by show ¬ upd _ 11 1 11 = 0; rw [upd_eq]; decide) hpos
      obtain ⟨wp', bp', hN1, -, j6, j7, j26⟩ := sp_next hn hP2 h1
      exact main _ _ ⟨by rw [j7, j26]; exact h7, Or.inr ⟨_, _, _, hN1⟩⟩ (fun i hi => fr_next _ i hi.1 hi.2)
    · have eg : wk_go w = upd w 6 1 := by
        unfold wk_go; rw [if_neg n0, if_neg (fun z => e16 ?_)]
        have := (nI_eq (a := x + 1) (b := 1) (by omega) (by omega)).mp (k0.symm.trans z)
        omega
      rw [if_neg (show ¬ upd f 23 (f 23 + 1) 16 = 0 from fun z => e16 ((nI_eq (b := 0) (by omega) (by omega)).mp (k16.symm.trans z))), eg]
      have hP2 : LPq cz (upd w 6 1) (md_tw0 (upd f 23 (f 23 + 1))) wp bp := LPq_c hP' ⟨rfl, rfl⟩ ⟨rfl, rfl, rfl⟩ (by rw [upd_eq]; decide) (by show ¬ upd _ 11 1 11 = 0; rw [upd_eq]; decide) hpos
      exact main _ _ ⟨h7, Or.inr ⟨wp, bp, x, k0, k16, hh, hP2⟩⟩ (fun i hi => rfl)
theorem tk_good {S : SS} {x : Int32} (h : x = S.1 6) : an_tk S x = (tk_go S.1 S.2.1 S.2.2.1.1 (an_ch S.2.2.1 S.2.1).1, wk_go S.2.1, an_ch S.2.2.1 S.2.1, S.2.2.2) := by
  unfold an_tk tkG tkK tkW tkO tkN
  rw [if_pos h, if_pos h, if_pos h, if_pos h, if_pos h]; rfl
theorem tk_bad {S : SS} {x : Int32} (h : ¬ x = S.1 6) : an_tk S x = (S.1, wk_pass S.2.1, S.2.2.1, S.2.2.2) := by
  unfold an_tk tkG tkK tkW tkO tkN
  rw [if_neg h, if_neg h, if_neg h, if_neg h, if_neg h]
