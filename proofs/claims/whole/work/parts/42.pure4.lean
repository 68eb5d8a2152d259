-- PURE, 4: the relation of the two states; going on; judge
theorem MM_ans {as : List AR} {k : Nat} {Sz Aw An : Nat → Int32} {y : Int32} (h : MMq as k Sz Aw An) (hk : 1 ≤ k) : MMq (jg_as as (k - 1) y) k Sz Aw (upd An (k - 1) y) := by
  obtain ⟨h1, h2, h3⟩ := h
  obtain ⟨r, hr, hm⟩ := h3 (k - 1) (by omega)
  have e : jg_as as (k - 1) y = as.set (k - 1) (jg_r r y) := by unfold jg_as; rw [hr]
  rw [e]
  refine ⟨by rw [List.length_set]; exact h1, by rw [List.length_set]; exact h2, fun i hi => ?_⟩
  by_cases q : i = k - 1
  · rw [q]
    obtain ⟨c, a1, a2, a3, a4, a5, a6⟩ := hm
    exact ⟨jg_r r y, by rw [List.getElem?_set_self (by omega)], c, a1, a2, a3, a4, (upd_eq _ _ _).symm, a6⟩
  · obtain ⟨r', hr', hm'⟩ := h3 i hi
    exact ⟨r', by rw [List.getElem?_set_ne (by omega)]; exact hr', by rw [upd_ne _ _ q]; exact hm'⟩
theorem MM_put {as u : List AR} {k cz : Nat} {Sz Aw An gs go C : Nat → Int32} (h : MMq as k Sz Aw An) (hk : k < 600) (hc : cz ≤ 48) (hu : mm_keepR as u k (nI cz) gs go) (hg : ∀ j, j < cz → gs j = C j) : MMq u (k + 1) (upd Sz k (nI cz)) (md_pw C Aw k cz) (upd An k (-2)) := by
  obtain ⟨h1, h2, h3⟩ := h
  obtain ⟨l1, l2, h4, ad, f, g, e⟩ := hu.1 hk
  rw [ps_cpN hc, nI_clamp (by omega)] at e
  have hlt : k < u.length := (List.getElem?_eq_some_iff.mp e).1
  refine ⟨by omega, l2, fun i hi => ?_⟩
  by_cases q : i = k
  · subst q
    refine ⟨_, e, cz, hc, rfl, upd_eq _ _ _, fun j hj => ?_, (upd_eq _ _ _).symm, rfl⟩
    show pg_cp gs f cz j = md_pw C Aw i cz (48 * i + j)
    unfold pg_cp md_pw
    rw [if_pos hj, if_pos ⟨by omega, by omega⟩, Nat.add_sub_cancel_left]
    exact hg j hj
  · obtain ⟨r, hr, c, a1, a2, a3, a4, a5, a6⟩ := h3 i (by omega)
    refine ⟨r, by rw [h4 i q]; exact hr, c, a1, a2, by rw [upd_ne _ _ q]; exact a3, fun j hj => ?_, by rw [upd_ne _ _ q]; exact a5, a6⟩
    show _ = md_pw C Aw k cz (48 * i + j)
    unfold md_pw
    rw [if_neg (by omega)]
    exact a4 j hj
/-- in the loop -/
def LRq (nn bud k : Nat) (as : List AR) (S : SS) (D : DS) : Prop := PGq nn S.2.2.1 D.1 D.2.1 D.2.2.1 ∧ BDq bud k S.1 D.1 ∧ CNq S.1 D.1 ∧ WRq nn S.2.1 D.1 ∧ MMq as k D.2.2.2.2.1 D.2.2.2.2.2.1 D.2.2.2.2.2.2 ∧ S.1 5 = 1 ∧ D.1 2 = 1 ∧ D.1 8 = 0 ∧ ¬ S.1 6 = (-1) ∧ DEq nn k (D.1 17) D.2.1 D.2.2.2.2.1 D.2.2.2.2.2.1 D.2.2.2.2.2.2 ∧ ∃ z, z ≤ 48 ∧ D.1 6 = nI z
/-- where a program is asked -/
def ASKq (nn k : Nat) (g w : Nat → Int32) (D : DS) : Prop := ∃ cz, cz ≤ 48 ∧ D.1 6 = nI cz ∧ D.2.2.2.2.1 (k - 1) = nI cz ∧ (∀ j, j < cz → D.2.2.2.1 j = D.2.2.2.2.2.1 (48 * (k - 1) + j)) ∧ ((¬ D.1 8 = 0 ∧ g 6 = (-1) ∧ k = 1 ∧ cz = nn ∧ ∀ j, j < nn → D.2.2.2.1 j = D.2.1 j) ∨ (D.1 8 = 0 ∧ ¬ g 6 = (-1) ∧ Stn nn D.2.1 w D.1 D.2.2.2.1 cz ∧ DEq nn (k - 1) (D.1 17) D.2.1 D.2.2.2.2.1 D.2.2.2.2.2.1 D.2.2.2.2.2.2))
/-- the class's state and the reference's -/
def Inv (C : CS) (D : DS) : Prop := ∃ nn bud, PGq nn C.1.2.2.1 D.1 D.2.1 D.2.2.1 ∧ BDq bud C.2.1 C.1.1 D.1 ∧ CNq C.1.1 D.1 ∧ C.1.2.1 7 = D.1 26 ∧ MMq C.2.2 C.2.1 D.2.2.2.2.1 D.2.2.2.2.2.1 D.2.2.2.2.2.2 ∧ D.1 2 = C.1.1 5 ∧ (∃ z, z ≤ 48 ∧ D.1 6 = nI z) ∧ ((C.1.1 5 = 0 ∧ C.2.1 = 0 ∧ C.1.1 6 = (-1)) ∨ (C.1.1 5 = 1 ∧ 1 ≤ C.2.1 ∧ ASKq nn C.2.1 C.1.1 C.1.2.1 D) ∨ (¬ C.1.1 5 = 0 ∧ ¬ C.1.1 5 = 1))
theorem Stn.ok {n cz : Nat} {W w f f' C : Nat → Int32} (h : Stn n W w f C cz) (hn : n ≤ 48) (hf : ∀ i, 9 ≤ i → i ≤ 16 → f' i = f i) (h3 : f' 3 = nI n) (h6 : f' 6 = nI cz) : ∃ pl, md_ok f' n cz pl := by
  have hw := h.wt
  rcases h.2 with ⟨p, pl, q, h1, h2, -⟩ | ⟨wp, bp, x, q, h1, h2, -, -⟩
  · obtain ⟨-, k9, -, -, -, k13, -⟩ := q
    exact ⟨pl, h3, hn, h6, by omega, fun _ => ⟨hw.2, by rw [hf 13 (by omega) (by omega)]; exact k13, by omega⟩, fun z => absurd (by rw [hf 9 (by omega) (by omega)]; exact k9) z⟩
  · obtain ⟨-, -, -, k9, -, k14, -⟩ := q
    have e9 : f' 9 = 1 := by rw [hf 9 (by omega) (by omega)]; exact k9
    exact ⟨0, h3, hn, h6, by omega, fun z => absurd z (by rw [e9]; decide), fun _ => by rw [hf 14 (by omega) (by omega), k14]; exact vp_in_nI (by omega) (by decide)⟩
theorem ans_bad {f W O C : Nat → Int32} {R : (Nat → Int32) × (Nat → Int32) × (Nat → Int32)} {d : Int32} {pl m cz : Nat} (h : ¬ d = f 17) : md_ans (f, W, O, C, R) d pl m cz = (md_anF f d, W, O, C, R) := by
  show (md_anF f d, md_anW f W C d cz, md_anO f O d pl m cz, C, R) = _
  unfold md_anW md_anO
  rw [if_neg h, if_neg h, if_neg h]
  by_cases q : f 9 = 0
  · rw [if_pos q, if_pos q]
  · rw [if_neg q, if_neg q]
theorem go_sim {as : List AR} {k bud nn : Nat} {W O Sz Aw An : Nat → Int32} {c : PR} : ∀ (N : Nat) (g w : Nat → Int32) (d : PR) (f C : Nat → Int32) (F : Nat), LRq nn bud k as (g, w, c, d) (f, W, O, C, Sz, Aw, An) → rk nn w < N → rk nn w < F →
    ∃ (T : DS) (t : Nat), md_go t (f, W, O, C, Sz, Aw, An) T ∧ T.1 0 = f 0 ∧ ∀ u, nx_R (an as (nI k) F (g, w, c, d)) as u k → Inv ((nx_g (an as (nI k) F (g, w, c, d)) k, (an as (nI k) F (g, w, c, d)).1.2), nx_k (an as (nI k) F (g, w, c, d)) k, u) T
  | 0, g, w, d, f, C, F, _, h, _ => absurd h (by omega)
  | N + 1, g, w, d, f, C, F, hL, hN, hF => by
    obtain ⟨⟨hn, e1, e3, e2⟩, ⟨b1, b2, b3, b4, b5, b6⟩, ⟨c22, c23, c24, c25, c17⟩, hW, hM, h5, h2, h8, h6, hD, z, hz1, hz2⟩ := hL
    have e1 : c.1 = nI nn := e1
    have e2 : ∀ j, j < nn → c.2.1 j = W j ∧ c.2.2 j = O j := e2
    have e3 : f 3 = nI nn := e3
    have h2 : f 2 = 1 := h2
    have h8 : f 8 = 0 := h8
    have b3 : g 0 = nI bud := b3
    have b4 : f 1 = nI bud := b4
    have b5 : f 18 = nI k := b5
    obtain ⟨F', rfl⟩ : ∃ F', F = F' + 1 := ⟨F - 1, by omega⟩
    have hrk : rk nn w < 6000 := rk_lt hn hW
    obtain ⟨w', f1, t1, g1, g7, g3, g4⟩ := fc_pp (ws := c.2.1) (W := W) hn (fun j hj => (e2 j hj).1) 6000 w f C 1000000 hW h2 e3 hrk (by omega)
    rcases g4 with ⟨o1, o2⟩ | ⟨C', cz, o1, o2, hS⟩
    · have ew : wk_fc c.2.1 c.1 1000000 w = (w', 0) := by rw [e1]; exact o1
      have ea : an as (nI k) (F' + 1) (g, w, c, d) = ((upd g 5 2, w', c, d), false) := by
        refine (an_1 (by show (wk_fc c.2.1 c.1 1000000 w).2 = 0; rw [ew])).trans ?_
        show ((upd g 5 2, (wk_fc c.2.1 c.1 1000000 w).1, c, d), false) = _
        rw [ew]
      have hfi : ∀ i, (i < 9 ∨ 16 < i) → i ≠ 26 → i ≠ 2 → upd f1 2 2 i = f i := fun i q1 q2 q3 => by rw [upd_ne _ _ q3]; exact g1 i q1 q2
      refine ⟨(upd f1 2 2, W, O, C, Sz, Aw, An), 1, ⟨nn, 0, 0, upd f1 2 2, C, 0, e3, hn, ⟨t1, o2⟩, Or.inl ⟨rfl, rfl⟩⟩, hfi 0 (by omega) (by omega) (by omega), fun u hu => ?_⟩
      rw [ea] at hu ⊢
      have eu : u = as := hu.2 rfl
      rw [eu]
      show Inv ((upd g 5 2, w', c, d), k, as) (upd f1 2 2, W, O, C, Sz, Aw, An)
      refine ⟨nn, bud, ⟨hn, e1, (hfi 3 (by omega) (by omega) (by omega)).trans e3, e2⟩, ⟨b1, b2, b3, (hfi 1 (by omega) (by omega) (by omega)).trans b4, (hfi 18 (by omega) (by omega) (by omega)).trans b5, b6⟩, ⟨(hfi 22 (by omega) (by omega) (by omega)).trans c22, (hfi 23 (by omega) (by omega) (by omega)).trans c23, (hfi 24 (by omega) (by omega) (by omega)).trans c24, (hfi 25 (by omega) (by omega) (by omega)).trans c25, (hfi 17 (by omega) (by omega) (by omega)).trans c17⟩, g7, hM, rfl, ⟨z, hz1, (hfi 6 (by omega) (by omega) (by omega)).trans hz2⟩, Or.inr (Or.inr ⟨?_, ?_⟩)⟩
      · show ¬ (2 : Int32) = 0; decide
      · show ¬ (2 : Int32) = 1; decide
    · have ew : wk_fc c.2.1 c.1 1000000 w = (w', 1) := by rw [e1]; exact o1
      have nz : ¬ (wk_fc c.2.1 c.1 1000000 w).2 = 0 := by rw [ew]; show ¬ (1 : Int32) = 0; decide
      obtain ⟨p1, p2⟩ := cp_eq (d := d) hn e1 (fun j hj => (e2 j hj).1)
      obtain ⟨q1, q2⟩ := ch_eq hn p1 p2 hS
      have hcz := hS.wt
      have hfi : ∀ i, (i < 9 ∨ 16 < i) → i ≠ 26 → i ≠ 6 → upd f1 6 (nI cz) i = f i := fun i q1 q2 q3 => by rw [upd_ne _ _ q3]; exact g1 i q1 q2
      cases hfd : md_fd Sz Aw C' cz k with
      | none =>
        have hm := ps_fd_n hM (by omega) q2 hfd
        have ea : an as (nI k) (F' + 1) (g, w, c, d) = ((g, w', c, an_ch (an_cp c d) w'), true) := by
          refine (an_2 nz (by show mm_find as (nI k) (an_ch (an_cp c d) (wk_fc c.2.1 c.1 1000000 w).1).1 (an_ch (an_cp c d) (wk_fc c.2.1 c.1 1000000 w).1).2.1 = none; rw [ew, q1]; exact hm)).trans ?_
          show ((g, (wk_fc c.2.1 c.1 1000000 w).1, c, an_ch (an_cp c d) (wk_fc c.2.1 c.1 1000000 w).1), true) = _
          rw [ew]
        by_cases hb : k = bud
        · have hnl : ¬ nI k < g 0 := by rw [b3, hb]; exact nI_nlt (Nat.le_refl _) (by omega)
          refine ⟨(upd (upd f1 6 (nI cz)) 2 3, W, O, C', Sz, Aw, An), 1, ⟨nn, cz, k, upd f1 6 (nI cz), C', 1, e3, hn, ⟨t1, o2⟩, Or.inr ⟨by decide, upd_eq _ _ _, by omega, (hfi 18 (by omega) (by omega) (by omega)).trans b5, by omega, Or.inl ⟨hfd, Or.inl ⟨?_, rfl⟩⟩⟩⟩, by show upd (upd f1 6 (nI cz)) 2 3 0 = f 0; rw [upd_ne _ _ (by omega)]; exact hfi 0 (by omega) (by omega) (by omega), fun u hu => ?_⟩
          · rw [hfi 18 (by omega) (by omega) (by omega), hfi 1 (by omega) (by omega) (by omega), b4, b5, hb]
          · rw [ea] at hu ⊢
            have eu : u = as := (hu.1 rfl).2 hnl
            rw [eu]
            have eg : nx_g ((g, w', c, an_ch (an_cp c d) w'), true) k = upd g 5 3 := by show ask_g g k = _; unfold ask_g; rw [if_neg hnl]
            have ek : nx_k ((g, w', c, an_ch (an_cp c d) w'), true) k = k := by show ask_k g k = _; unfold ask_k; rw [if_neg hnl]
            rw [eg, ek]
            have hfj : ∀ i, (i < 9 ∨ 16 < i) → i ≠ 26 → i ≠ 6 → i ≠ 2 → upd (upd f1 6 (nI cz)) 2 3 i = f i := fun i q1 q2 q3 q4 => by rw [upd_ne _ _ q4]; exact hfi i q1 q2 q3
            show Inv ((upd g 5 3, w', c, an_ch (an_cp c d) w'), k, as) (upd (upd f1 6 (nI cz)) 2 3, W, O, C', Sz, Aw, An)
            refine ⟨nn, bud, ⟨hn, e1, (hfj 3 (by omega) (by omega) (by omega) (by omega)).trans e3, e2⟩, ⟨b1, b2, b3, (hfj 1 (by omega) (by omega) (by omega) (by omega)).trans b4, (hfj 18 (by omega) (by omega) (by omega) (by omega)).trans b5, b6⟩, ⟨(hfj 22 (by omega) (by omega) (by omega) (by omega)).trans c22, (hfj 23 (by omega) (by omega) (by omega) (by omega)).trans c23, (hfj 24 (by omega) (by omega) (by omega) (by omega)).trans c24, (hfj 25 (by omega) (by omega) (by omega) (by omega)).trans c25, (hfj 17 (by omega) (by omega) (by omega) (by omega)).trans c17⟩, g7, hM, rfl, ⟨cz, by omega, rfl⟩, Or.inr (Or.inr ⟨?_, ?_⟩)⟩
            · show ¬ (3 : Int32) = 0; decide
            · show ¬ (3 : Int32) = 1; decide
        · have hlt : nI k < g 0 := by rw [b3]; exact nI_lt (by omega) (by omega)
          refine ⟨md_put (upd f1 6 (nI cz), W, O, C', Sz, Aw, An) k cz, 1, ⟨nn, cz, k, upd f1 6 (nI cz), C', 1, e3, hn, ⟨t1, o2⟩, Or.inr ⟨by decide, upd_eq _ _ _, by omega, (hfi 18 (by omega) (by omega) (by omega)).trans b5, by omega, Or.inl ⟨hfd, Or.inr ⟨?_, by omega, rfl⟩⟩⟩⟩, by show md_ptF (upd f1 6 (nI cz)) 0 = f 0; unfold md_ptF; rw [upd_ne _ _ (by omega)]; exact hfi 0 (by omega) (by omega) (by omega), fun u hu => ?_⟩
          · rw [hfi 18 (by omega) (by omega) (by omega), hfi 1 (by omega) (by omega) (by omega), b4, b5]
            exact fun q => hb ((nI_eq (by omega) (by omega)).mp q)
          · rw [ea] at hu ⊢
            have hu2 : mm_keepR as u k (an_ch (an_cp c d) w').1 (an_ch (an_cp c d) w').2.1 (an_ch (an_cp c d) w').2.2 := (hu.1 rfl).1 hlt
            rw [q1] at hu2
            have eg : nx_g ((g, w', c, an_ch (an_cp c d) w'), true) k = g := by show ask_g g k = _; unfold ask_g; rw [if_pos hlt]
            have ek : nx_k ((g, w', c, an_ch (an_cp c d) w'), true) k = k + 1 := by show ask_k g k = _; unfold ask_k; rw [if_pos hlt]; unfold mm_fl; rw [if_pos (by omega)]
            rw [eg, ek]
            have hM' := MM_put hM (by omega) (by omega) hu2 q2
            have hfj : ∀ i, (i < 9 ∨ 16 < i) → i ≠ 26 → i ≠ 6 → i ≠ 18 → md_ptF (upd f1 6 (nI cz)) i = f i := fun i q1 q2 q3 q4 => by unfold md_ptF; rw [upd_ne _ _ q4]; exact hfi i q1 q2 q3
            have e18 : md_ptF (upd f1 6 (nI cz)) 18 = nI (k + 1) := by
              show upd f1 6 (nI cz) 18 + 1 = _
              rw [hfi 18 (by omega) (by omega) (by omega), b5, nI_1]
            have hf6 : upd f1 6 (nI cz) 6 = nI cz := upd_eq _ _ _
            show Inv ((g, w', c, an_ch (an_cp c d) w'), k + 1, u) (md_ptF (upd f1 6 (nI cz)), W, O, C', upd Sz k (upd f1 6 (nI cz) 6), md_pw C' Aw k cz, upd An k (-2))
            rw [hf6]
            refine ⟨nn, bud, ⟨hn, e1, (hfj 3 (by omega) (by omega) (by omega) (by omega)).trans e3, e2⟩, ⟨b1, b2, b3, (hfj 1 (by omega) (by omega) (by omega) (by omega)).trans b4, e18, by show k + 1 ≤ bud; omega⟩, ⟨(hfj 22 (by omega) (by omega) (by omega) (by omega)).trans c22, (hfj 23 (by omega) (by omega) (by omega) (by omega)).trans c23, (hfj 24 (by omega) (by omega) (by omega) (by omega)).trans c24, (hfj 25 (by omega) (by omega) (by omega) (by omega)).trans c25, (hfj 17 (by omega) (by omega) (by omega) (by omega)).trans c17⟩, g7, hM', ((hfj 2 (by omega) (by omega) (by omega) (by omega)).trans h2).trans h5.symm, ⟨cz, by omega, rfl⟩, Or.inr (Or.inl ⟨h5, by show 1 ≤ k + 1; omega, cz, by omega, rfl, ?_, ?_, Or.inr ⟨(hfj 8 (by omega) (by omega) (by omega) (by omega)).trans h8, h6, hS.c (fun i hi => ?_), ?_⟩⟩)⟩
            · show upd Sz k (nI cz) (k + 1 - 1) = _; rw [Nat.add_sub_cancel, upd_eq]
            · intro j hj
              show C' j = md_pw C' Aw k cz (48 * (k + 1 - 1) + j)
              rw [Nat.add_sub_cancel]
              unfold md_pw
              rw [if_pos ⟨by omega, by omega⟩, Nat.add_sub_cancel_left]
            · show md_ptF (upd f1 6 (nI cz)) i = f1 i
              unfold md_ptF; rw [upd_ne _ _ (by omega), upd_ne _ _ (by omega)]
            · show DEq nn (k + 1 - 1) (md_ptF (upd f1 6 (nI cz)) 17) W (upd Sz k (nI cz)) (md_pw C' Aw k cz) (upd An k (-2))
              rw [Nat.add_sub_cancel, hfj 17 (by omega) (by omega) (by omega) (by omega)]
              intro i hi ha c2 hc2 hs2
              rw [upd_ne _ _ (by omega)] at ha hs2
              have := hD i hi ha c2 hc2 hs2
              rw [wt_congr (W := fun j => md_pw C' Aw k cz (48 * i + j)) (V := fun j => Aw (48 * i + j)) (fun j hj => by unfold md_pw; rw [if_neg (by omega)])]
              exact this
      | some i =>
        obtain ⟨hi, hsame, r, hr, hm, hans⟩ := ps_fd_s hM (by omega) q2 hfd
        have hbad : ¬ An i = f 17 := fun q => by
          have a1 : ps_wt W nn ≤ ps_wt (fun j => Aw (48 * i + j)) cz := hD i hi q cz (by omega) hsame.1
          have a2 := wt_congr (W := fun j => Aw (48 * i + j)) (V := C') (n := cz) hsame.2
          omega
        have hbg : ¬ r.2.2.1 = g 6 := by rw [hans]; exact fun q => hbad (q.trans c17.symm)
        have ea : an as (nI k) (F' + 1) (g, w, c, d) = an as (nI k) F' (upd g 7 (g 7 + 1), wk_pass w', c, an_ch (an_cp c d) w') := by
          refine (an_3 nz (by show mm_find as (nI k) (an_ch (an_cp c d) (wk_fc c.2.1 c.1 1000000 w).1).1 (an_ch (an_cp c d) (wk_fc c.2.1 c.1 1000000 w).1).2.1 = some r; rw [ew, q1]; exact hm)).trans ?_
          show an as (nI k) F' (an_tk (upd g 7 (g 7 + 1), (wk_fc c.2.1 c.1 1000000 w).1, c, an_ch (an_cp c d) (wk_fc c.2.1 c.1 1000000 w).1) r.2.2.1) = _
          rw [ew, tk_bad (show ¬ r.2.2.1 = upd g 7 (g 7 + 1) 6 from hbg)]
        have hfj : ∀ i, (i < 9 ∨ 16 < i) → i ≠ 26 → i ≠ 6 → i ≠ 22 → upd (upd f1 6 (nI cz)) 22 (upd f1 6 (nI cz) 22 + 1) i = f i := fun i q1 q2 q3 q4 => by rw [upd_ne _ _ q4]; exact hfi i q1 q2 q3
        have hbf : ¬ An i = upd (upd f1 6 (nI cz)) 22 (upd f1 6 (nI cz) 22 + 1) 17 := by rw [hfj 17 (by omega) (by omega) (by omega) (by omega)]; exact hbad
        have hS2 : Stn nn W w' (upd (upd f1 6 (nI cz)) 22 (upd f1 6 (nI cz) 22 + 1)) C' cz := hS.c (fun i hi => by rw [upd_ne _ _ (by omega), upd_ne _ _ (by omega)])
        obtain ⟨hR3, hrk3, hfr3⟩ := an_bad hn hS2 hbf
        obtain ⟨pl, hok⟩ := hS.ok (f' := upd f1 6 (nI cz)) hn (fun i h1 h2 => upd_ne _ _ (by omega)) ((hfi 3 (by omega) (by omega) (by omega)).trans e3) (upd_eq _ _ _)
        have hfk : ∀ i', (i' < 9 ∨ 16 < i') → i' ≠ 26 → i' ≠ 6 → i' ≠ 22 → md_anF (upd (upd f1 6 (nI cz)) 22 (upd f1 6 (nI cz) 22 + 1)) (An i) i' = f i' := fun i' q1 q2 q3 q4 => (hfr3 i' q1 q2).trans (hfj i' q1 q2 q3 q4)
        have e22 : md_anF (upd (upd f1 6 (nI cz)) 22 (upd f1 6 (nI cz) 22 + 1)) (An i) 22 = g 7 + 1 := by
          rw [hfr3 22 (by omega) (by omega), upd_eq, hfi 22 (by omega) (by omega) (by omega)]
          show f 22 + 1 = _; rw [show f 22 = g 7 from c22]
        have e6 : md_anF (upd (upd f1 6 (nI cz)) 22 (upd f1 6 (nI cz) 22 + 1)) (An i) 6 = nI cz := by
          rw [hfr3 6 (by omega) (by omega), upd_ne _ _ (by omega), upd_eq]
        obtain ⟨T, t, hgo, hT0, hInv⟩ := go_sim N (upd g 7 (g 7 + 1)) (wk_pass w') (an_ch (an_cp c d) w') (md_anF (upd (upd f1 6 (nI cz)) 22 (upd f1 6 (nI cz) 22 + 1)) (An i)) C' F' ⟨⟨hn, e1, (hfk 3 (by omega) (by omega) (by omega) (by omega)).trans e3, e2⟩, ⟨b1, b2, b3, (hfk 1 (by omega) (by omega) (by omega) (by omega)).trans b4, (hfk 18 (by omega) (by omega) (by omega) (by omega)).trans b5, b6⟩, ⟨e22, (hfk 23 (by omega) (by omega) (by omega) (by omega)).trans c23, (hfk 24 (by omega) (by omega) (by omega) (by omega)).trans c24, (hfk 25 (by omega) (by omega) (by omega) (by omega)).trans c25, (hfk 17 (by omega) (by omega) (by omega) (by omega)).trans c17⟩, hR3, hM, h5, (hfk 2 (by omega) (by omega) (by omega) (by omega)).trans h2, (hfk 8 (by omega) (by omega) (by omega) (by omega)).trans h8, h6, by show DEq nn k (md_anF (upd (upd f1 6 (nI cz)) 22 (upd f1 6 (nI cz) 22 + 1)) (An i) 17) W Sz Aw An; rw [hfk 17 (by omega) (by omega) (by omega) (by omega)]; exact hD, cz, by omega, e6⟩ (by omega) (by omega)
        refine ⟨T, t + 1, ⟨nn, cz, k, upd f1 6 (nI cz), C', 1, e3, hn, ⟨t1, o2⟩, Or.inr ⟨by decide, upd_eq _ _ _, by omega, (hfi 18 (by omega) (by omega) (by omega)).trans b5, by omega, Or.inr ⟨i, pl, hfd, hok, ?_⟩⟩⟩, hT0.trans (hfk 0 (by omega) (by omega) (by omega) (by omega)), fun u hu => ?_⟩
        · show md_go t (md_ans (upd (upd f1 6 (nI cz)) 22 (upd f1 6 (nI cz) 22 + 1), W, O, C', Sz, Aw, An) (An i) pl (nn - cz) cz) T
          rw [ans_bad hbf]
          exact hgo
        · rw [ea] at hu ⊢
          exact hInv u hu
theorem fin_sim {as u : List AR} {k bud nn : Nat} {S : SS} {D : DS} (hL : LRq nn bud k as S D) (hu : jg_U as u k S) : ∃ (T : DS) (t : Nat), md_go t D T ∧ T.1 0 = D.1 0 ∧ Inv (jg_F as k S, jg_k as k S, u) T := by
  obtain ⟨g, w, c, d⟩ := S
  obtain ⟨f, W, O, C, Sz, Aw, An⟩ := D
  have hrk : rk nn w < 6000 := rk_lt hL.1.1 hL.2.2.2.1
  have h5 : g 5 = 1 := hL.2.2.2.2.2.1
  obtain ⟨T, t, h1, h2, h3⟩ := go_sim 6000 g w d f C 1000000 hL hrk (by omega)
  refine ⟨T, t, h1, h2, ?_⟩
  have := h3 u (hu.1 h5)
  unfold jg_F jg_k
  rw [if_pos (show ((g, w, c, d) : SS).1 5 = 1 from h5), if_pos (show ((g, w, c, d) : SS).1 5 = 1 from h5)]
  exact this
theorem oa_some {g : Nat → Int32} {as : List AR} {k : Nat} {q : AR} (h5 : g 5 = 1) (hk : 1 ≤ k) (hk6 : k ≤ 600) (hq : as[k - 1]? = some q) : oa_R g as (nI k) = some q := by
  unfold oa_R mm_lastR
  rw [if_pos h5, if_neg (nI_nle (by omega) (by omega)), if_neg (show ¬ (600 : Int32) < nI k from nI_nlt (b := k) (a := 600) (by omega) (by omega))]
  obtain ⟨j, rfl⟩ : ∃ j, k = j + 1 := ⟨k - 1, by omega⟩
  rw [nI_pred, nI_clamp (by omega)]
  exact hq
theorem oa_none {g : Nat → Int32} {as : List AR} {fl : Int32} (h5 : ¬ g 5 = 1) : oa_R g as fl = none := by unfold oa_R; rw [if_neg h5]
theorem kk_pred {k : Nat} (h : 1 ≤ k) : nI k - 1 = nI (k - 1) := by
  obtain ⟨j, rfl⟩ : ∃ j, k = j + 1 := ⟨k - 1, by omega⟩
  rw [nI_pred, Nat.add_sub_cancel]
/-- nothing but thrown was written -/
theorem Inv.f0 {C : CS} {f f' : Nat → Int32} {R : (Nat → Int32) × (Nat → Int32) × (Nat → Int32) × (Nat → Int32) × (Nat → Int32) × (Nat → Int32)} (h : Inv C (f, R)) (hf : ∀ i, 1 ≤ i → f' i = f i) : Inv C (f', R) := by
  obtain ⟨nn, bud, ⟨hn, e1, e3, e2⟩, ⟨b1, b2, b3, b4, b5, b6⟩, ⟨c22, c23, c24, c25, c17⟩, h7, hM, h2, ⟨z, hz1, hz2⟩, hs⟩ := h
  refine ⟨nn, bud, ⟨hn, e1, (hf 3 (by omega)).trans e3, e2⟩, ⟨b1, b2, b3, (hf 1 (by omega)).trans b4, (hf 18 (by omega)).trans b5, b6⟩, ⟨(hf 22 (by omega)).trans c22, (hf 23 (by omega)).trans c23, (hf 24 (by omega)).trans c24, (hf 25 (by omega)).trans c25, (hf 17 (by omega)).trans c17⟩, h7.trans (hf 26 (by omega)).symm, hM, (hf 2 (by omega)).trans h2, ⟨z, hz1, (hf 6 (by omega)).trans hz2⟩, ?_⟩
  rcases hs with hs | ⟨s1, s2, cz, s3, s4, s5, s6, s7⟩ | hs
  · exact Or.inl hs
  · refine Or.inr (Or.inl ⟨s1, s2, cz, s3, (hf 6 (by omega)).trans s4, s5, s6, ?_⟩)
    rcases s7 with ⟨t1, t2⟩ | ⟨t1, t2, t3, t4⟩
    · exact Or.inl ⟨fun q => t1 ((hf 8 (by omega)).symm.trans q), t2⟩
    · refine Or.inr ⟨(hf 8 (by omega)).trans t1, t2, t3.c (fun i hi => hf i (by omega)), ?_⟩
      show DEq nn (C.2.1 - 1) (f' 17) _ _ _ _
      rw [hf 17 (by omega)]; exact t4
  · exact Or.inr (Or.inr hs)
