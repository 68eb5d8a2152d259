-- PURE, 5: every call answers as the reference's, and keeps the relation
theorem jd_sim {C : CS} {D : DS} {y r v : Int32} {C' : CS} (hI : Inv C D) (hr : r_judge C y r v C') : ∃ (T : DS) (r1 : Int32), jd_R D y T r1 ∧ r = T.1 0 ∧ (r = 0 → v = r1) ∧ Inv C' T := by
  obtain ⟨⟨g, w, c, d⟩, k, as⟩ := C
  obtain ⟨f, W, O, Cd, Sz, Aw, An⟩ := D
  have hI0 := hI
  obtain ⟨nn, bud, ⟨hn, e1, e3, e2⟩, ⟨b1, b2, b3, b4, b5, b6⟩, ⟨c22, c23, c24, c25, c17⟩, h7, hM, h2, ⟨z, hz1, hz2⟩, hs⟩ := hI
  have e1 : c.1 = nI nn := e1
  have e2 : ∀ j, j < nn → c.2.1 j = W j ∧ c.2.2 j = O j := e2
  have e3 : f 3 = nI nn := e3
  have h2 : f 2 = g 5 := h2
  have b3 : g 0 = nI bud := b3
  have b4 : f 1 = nI bud := b4
  have b5 : f 18 = nI k := b5
  have b6 : k ≤ bud := b6
  have h7 : w 7 = f 26 := h7
  have c17 : f 17 = g 6 := c17
  have c22 : f 22 = g 7 := c22
  have c23 : f 23 = g 8 := c23
  have c24 : f 24 = g 9 := c24
  have c25 : f 25 = g 10 := c25
  have hM : MMq as k Sz Aw An := hM
  have hopn : g 5 = 1 → 1 ≤ k ∧ ASKq nn k g w (f, W, O, Cd, Sz, Aw, An) := fun q => by
    rcases hs with ⟨s1, -⟩ | ⟨-, s2, s3⟩ | ⟨-, s1⟩
    · exact absurd (s1.symm.trans q) (by decide)
    · exact ⟨s2, s3⟩
    · exact absurd q s1
  rcases hr with ⟨hq, rfl, rfl⟩ | ⟨q, hq, hy, rfl, rfl⟩ | ⟨q, hq, hy, rfl, hv, u, hu, rfl⟩
  · have hno : ¬ g 5 = 1 := fun h5 => by
      obtain ⟨hk, -⟩ := hopn h5
      obtain ⟨r0, hr0, -⟩ := hM.2.2 (k - 1) (by omega)
      have := oa_some (as := as) h5 hk (by omega) hr0
      rw [show oa_R g as (nI k) = none from hq] at this
      cases this
    exact ⟨(upd (upd f 0 0) 0 1, W, O, Cd, Sz, Aw, An), 0, Or.inl ⟨fun h => hno (h2.symm.trans h), rfl, rfl⟩, rfl, fun h => absurd h (by decide), hI0.f0 (fun i hi => by rw [upd_ne _ _ (by omega), upd_ne _ _ (by omega)])⟩
  · obtain ⟨-, -, -, h5, -⟩ := oa_mem hq
    exact ⟨(upd (upd f 0 0) 0 2, W, O, Cd, Sz, Aw, An), 0, Or.inr (Or.inl ⟨h2.trans h5, hy, rfl, rfl⟩), rfl, fun h => absurd h (by decide), hI0.f0 (fun i hi => by rw [upd_ne _ _ (by omega), upd_ne _ _ (by omega)])⟩
  · obtain ⟨-, -, -, h5, -⟩ := oa_mem hq
    have h5 : g 5 = 1 := h5
    obtain ⟨hk, cz, k1, k2, k3, k4, k5⟩ := hopn h5
    have k2 : f 6 = nI cz := k2
    have k3 : Sz (k - 1) = nI cz := k3
    have k4 : ∀ j, j < cz → Cd j = Aw (48 * (k - 1) + j) := k4
    have ep : (nI k - 1).toNatClampNeg = k - 1 := by rw [kk_pred hk, nI_clamp (by omega)]
    have hv : v = (jg_F (jg_as as (nI k - 1).toNatClampNeg y) k (jg_S (g, w, c, d) y)).1 5 := hv
    have hu : jg_U (jg_as as (nI k - 1).toNatClampNeg y) u k (jg_S (g, w, c, d) y) := hu
    show ∃ (T : DS) (r1 : Int32), jd_R (f, W, O, Cd, Sz, Aw, An) y T r1 ∧ 0 = T.1 0 ∧ ((0 : Int32) = 0 → v = r1) ∧ Inv (jg_F (jg_as as (nI k - 1).toNatClampNeg y) k (jg_S (g, w, c, d) y), jg_k (jg_as as (nI k - 1).toNatClampNeg y) k (jg_S (g, w, c, d) y), u) T
    rw [ep] at hv hu ⊢
    have hM1 := MM_ans (y := y) hM hk
    have e18 : f 18 - 1 = nI (k - 1) := by rw [b5, kk_pred hk]
    -- the end of it, out of the loop's relation
    have fin : ∀ (n' cz' pl : Nat) (nn' : Nat), (f 8 = 0 → md_ok (upd f 0 0) n' cz' pl) → LRq nn' bud k (jg_as as (k - 1) y) (jg_S (g, w, c, d) y) (jd_0 (f, W, O, Cd, Sz, Aw, An) y (k - 1) n' cz' pl) → (jd_0 (f, W, O, Cd, Sz, Aw, An) y (k - 1) n' cz' pl).1 0 = 0 →
        ∃ (T : DS) (r1 : Int32), jd_R (f, W, O, Cd, Sz, Aw, An) y T r1 ∧ 0 = T.1 0 ∧ ((0 : Int32) = 0 → v = r1) ∧ Inv (jg_F (jg_as as (k - 1) y) k (jg_S (g, w, c, d) y), jg_k (jg_as as (k - 1) y) k (jg_S (g, w, c, d) y), u) T := by
      intro n' cz' pl nn' hok hL h00
      obtain ⟨T, t, hgo, hT0, hInv⟩ := fin_sim hL hu
      have hT2 : T.1 2 = (jg_F (jg_as as (k - 1) y) k (jg_S (g, w, c, d) y)).1 5 := by
        obtain ⟨_, _, -, -, -, -, -, x2, -⟩ := hInv
        exact x2
      exact ⟨T, T.1 2, Or.inr (Or.inr ⟨h2.trans h5, hy, rfl, k - 1, n', cz', pl, t, e18, by omega, hok, hgo⟩), (hT0.trans h00).symm, fun _ => by rw [hT2]; exact hv, hInv⟩
    rcases k5 with ⟨t1, t2, t3, t4, t5⟩ | ⟨t1, t2, t3, t4⟩
    · have t1 : ¬ f 8 = 0 := t1
      have t2 : g 6 = (-1) := t2
      have eS : jg_S (g, w, c, d) y = (tf_g g y, tf_k w c.1 y, c, d) := by unfold jg_S; rw [if_pos (show ((g, w, c, d) : SS).1 6 = (-1) from t2)]
      have eD : ∀ n' cz' pl, jd_0 (f, W, O, Cd, Sz, Aw, An) y (k - 1) n' cz' pl = (jd_1 f y, W, O, Cd, Sz, Aw, upd An (k - 1) y) := fun n' cz' pl => by unfold jd_0; rw [if_neg (show ¬ ((f, W, O, Cd, Sz, Aw, An) : DS).1 8 = 0 from t1)]
      by_cases hy1 : y = (-1)
      · have eg : tf_g g y = upd g 5 4 := by unfold tf_g; rw [if_pos hy1]
        have ek : tf_k w c.1 y = w := by unfold tf_k; rw [if_pos hy1]
        have ej : jd_1 f y = upd (upd (upd (upd f 0 0) 8 0) 17 y) 2 4 := by unfold jd_1; rw [if_pos hy1]
        rw [eS, eg, ek] at hv hu ⊢
        have hn1 : ¬ ((upd g 5 4, w, c, d) : SS).1 5 = 1 := by show ¬ (4 : Int32) = 1; decide
        have eu : u = jg_as as (k - 1) y := hu.2 hn1
        have eF : jg_F (jg_as as (k - 1) y) k (upd g 5 4, w, c, d) = (upd g 5 4, w, c, d) := by unfold jg_F; rw [if_neg hn1]
        have eK : jg_k (jg_as as (k - 1) y) k (upd g 5 4, w, c, d) = k := by unfold jg_k; rw [if_neg hn1]
        rw [eF] at hv
        rw [eF, eK, eu]
        refine ⟨(upd (upd (upd (upd f 0 0) 8 0) 17 y) 2 4, W, O, Cd, Sz, Aw, upd An (k - 1) y), 4, Or.inr (Or.inr ⟨h2.trans h5, hy, rfl, k - 1, nn, cz, 0, 1, e18, by omega, fun q => absurd q t1, ?_⟩), rfl, fun _ => hv, ?_⟩
        · rw [eD, ej]
          refine ⟨nn, 0, 0, upd (upd (upd (upd f 0 0) 8 0) 17 y) 2 4, Cd, 0, e3, hn, ⟨1, ?_⟩, Or.inl ⟨rfl, rfl⟩⟩
          show md_pp W nn 1 (upd (upd (upd (upd f 0 0) 8 0) 17 y) 2 4) Cd = _
          rw [md_pp, if_neg (show ¬ upd (upd (upd (upd f 0 0) 8 0) 17 y) 2 4 2 = 1 by rw [upd_eq]; decide)]
        · refine ⟨nn, bud, ⟨hn, e1, e3, e2⟩, ⟨b1, b2, b3, b4, b5, b6⟩, ⟨c22, c23, c24, c25, ?_⟩, h7, hM1, rfl, ⟨cz, k1, k2⟩, Or.inr (Or.inr ⟨?_, ?_⟩)⟩
          · show y = g 6; rw [t2, hy1]
          · show ¬ (4 : Int32) = 0; decide
          · show ¬ (4 : Int32) = 1; decide
      · have eg : tf_g g y = upd g 6 y := by unfold tf_g; rw [if_neg hy1]
        have ek : tf_k w c.1 y = wk_sl w (if 1 < c.1 / 2 then c.1 / 2 else 1) := by unfold tf_k; rw [if_neg hy1]
        have ej : jd_1 f y = md_bl (upd (upd (upd f 0 0) 8 0) 17 y) (if f 3 / 2 ≤ 0 then 1 else f 3 / 2) := by unfold jd_1; rw [if_neg hy1]
        obtain ⟨p, hp1, hp, ex, ex'⟩ : ∃ p, 1 ≤ p ∧ p ≤ 48 ∧ (if 1 < c.1 / 2 then c.1 / 2 else 1) = nI p ∧ (if f 3 / 2 ≤ 0 then 1 else f 3 / 2) = nI p := by
          rw [e1, e3, nI_d2 (by omega)]
          by_cases q0 : nn / 2 = 0
          · refine ⟨1, by omega, by omega, ?_, ?_⟩
            · rw [if_neg (show ¬ (1 : Int32) < nI (nn / 2) from nI_nlt (b := nn / 2) (a := 1) (by omega) (by omega))]; rfl
            · rw [if_pos ((nI_le0 (by omega)).mpr q0)]; rfl
          · refine ⟨nn / 2, by omega, by omega, ?_, ?_⟩
            · by_cases q1 : 1 < nn / 2
              · rw [if_pos (show (1 : Int32) < nI (nn / 2) from nI_lt (a := 1) q1 (by omega))]
              · rw [if_neg (show ¬ (1 : Int32) < nI (nn / 2) from nI_nlt (b := nn / 2) (a := 1) (by omega) (by omega)), show nn / 2 = 1 by omega]; rfl
            · rw [if_neg (fun q => q0 ((nI_le0 (by omega)).mp q))]
        have hfi : ∀ i, (i < 9 ∨ 16 < i) → i ≠ 26 → i ≠ 0 → i ≠ 8 → i ≠ 17 → md_bl (upd (upd (upd f 0 0) 8 0) 17 y) (if f 3 / 2 ≤ 0 then 1 else f 3 / 2) i = f i := fun i q1 q2 q3 q4 q5 => by
          rw [fr_bl _ _ i q1 q2, upd_ne _ _ q5, upd_ne _ _ q4, upd_ne _ _ q3]
        obtain ⟨hL1, hR1⟩ := sp_bl (n := nn) (w := w) (f := upd (upd (upd f 0 0) 8 0) 17 y) (wp := 0) (bp := 0) (h := 0) h7 ex ex' hp1 hp
        have h17 : md_bl (upd (upd (upd f 0 0) 8 0) 17 y) (if f 3 / 2 ≤ 0 then 1 else f 3 / 2) 17 = y := by rw [fr_bl _ _ 17 (by omega) (by omega), upd_eq]
        refine fin nn cz 0 nn (fun q => absurd q t1) ?_ (by rw [eD, ej]; exact (fr_bl (upd (upd (upd f 0 0) 8 0) 17 y) (if f 3 / 2 ≤ 0 then 1 else f 3 / 2) 0 (by omega) (by omega)).trans rfl)
        rw [eS, eD, eg, ek, ej]
        refine ⟨⟨hn, e1, (hfi 3 (by omega) (by omega) (by omega) (by omega) (by omega)).trans e3, e2⟩, ⟨b1, b2, b3, (hfi 1 (by omega) (by omega) (by omega) (by omega) (by omega)).trans b4, (hfi 18 (by omega) (by omega) (by omega) (by omega) (by omega)).trans b5, b6⟩, ⟨(hfi 22 (by omega) (by omega) (by omega) (by omega) (by omega)).trans c22, (hfi 23 (by omega) (by omega) (by omega) (by omega) (by omega)).trans c23, (hfi 24 (by omega) (by omega) (by omega) (by omega) (by omega)).trans c24, (hfi 25 (by omega) (by omega) (by omega) (by omega) (by omega)).trans c25, h17⟩, hR1, hM1, h5, (hfi 2 (by omega) (by omega) (by omega) (by omega) (by omega)).trans (h2.trans h5), ?_, hy1, ?_, cz, k1, (hfi 6 (by omega) (by omega) (by omega) (by omega) (by omega)).trans k2⟩
        · exact (fr_bl (upd (upd (upd f 0 0) 8 0) 17 y) (if f 3 / 2 ≤ 0 then 1 else f 3 / 2) 8 (by omega) (by omega)).trans rfl
        · intro i hi _ c2 hc2 hs2
          have t3 : k = 1 := t3
          have hs2 : Sz i = nI c2 := hs2
          have ei : i = 0 := by omega
          subst ei
          rw [t3] at k3 k4
          have ec : c2 = cz := (nI_eq (by omega) (by omega)).mp (hs2.symm.trans k3)
          subst ec
          have t4 : c2 = nn := t4
          subst t4
          have t5 : ∀ j, j < c2 → Cd j = W j := t5
          show ps_wt W c2 ≤ ps_wt (fun j => Aw (48 * 0 + j)) c2
          rw [wt_congr (W := W) (V := fun j => Aw (48 * 0 + j)) (fun j hj => by rw [← t5 j hj]; exact k4 j hj)]
          exact Nat.le_refl _
    · have t1 : f 8 = 0 := t1
      have t2 : ¬ g 6 = (-1) := t2
      have t3 : Stn nn W w f Cd cz := t3
      have t4 : DEq nn (k - 1) (f 17) W Sz Aw An := t4
      have hcz := t3.wt
      have eS : jg_S (g, w, c, d) y = an_tk (g, w, c, d) y := by unfold jg_S; rw [if_neg (show ¬ ((g, w, c, d) : SS).1 6 = (-1) from t2)]
      have t3' : Stn nn W w (upd f 0 0) Cd cz := t3.c (fun i hi => upd_ne _ _ (by omega))
      obtain ⟨pl, hok⟩ := t3.ok (f' := upd f 0 0) hn (fun i h1 h2 => upd_ne _ _ (by omega)) e3 k2
      have eD : jd_0 (f, W, O, Cd, Sz, Aw, An) y (k - 1) nn cz pl = md_ans (upd f 0 0, W, O, Cd, Sz, Aw, upd An (k - 1) y) y pl (nn - cz) cz := by unfold jd_0; rw [if_pos (show ((f, W, O, Cd, Sz, Aw, An) : DS).1 8 = 0 from t1)]
      by_cases hyg : y = g 6
      · have hyf : y = upd f 0 0 17 := hyg.trans c17.symm
        obtain ⟨a1, a2, a3, a4, a5, a6⟩ := an_good (pl := pl) (g := g) (d := y) ⟨hn, e1, show upd f 0 0 3 = nI nn from e3, e2⟩ t3' (show upd f 0 0 6 = nI cz from k2) ⟨c22, c23, c24, c25, c17⟩ hyf (fun q => ⟨(hok.2.2.2.2.1 q).2.1, (hok.2.2.2.2.1 q).2.2⟩)
        refine fin nn cz pl cz (fun _ => hok) ?_ (by rw [eD]; show md_anF (upd f 0 0) y 0 = 0; rw [a5 0 (by omega)]; rfl)
        rw [eS, eD, tk_good (S := (g, w, c, d)) hyg]
        refine ⟨a1, ⟨b1, b2, (a6 0 (by omega)).trans b3, (a5 1 (by omega)).trans b4, (a5 18 (by omega)).trans b5, b6⟩, a2, a3, hM1, (a6 5 (by omega)).trans h5, (a5 2 (by omega)).trans (h2.trans h5), (a5 8 (by omega)).trans t1, fun q => t2 ((a6 6 (by omega)).symm.trans q), ?_, cz, k1, (a5 6 (by omega)).trans k2⟩
        show DEq cz k (md_anF (upd f 0 0) y 17) (md_anW (upd f 0 0) W Cd y cz) Sz Aw (upd An (k - 1) y)
        rw [a5 17 (by omega)]
        intro i hi ha c2 hc2 hs2
        have ew : ps_wt (md_anW (upd f 0 0) W Cd y cz) cz = ps_wt Cd cz := wt_congr a4
        by_cases ei : i = k - 1
        · subst ei
          have ec : c2 = cz := (nI_eq (by omega) (by omega)).mp (hs2.symm.trans k3)
          subst ec
          rw [ew, wt_congr (W := Cd) (V := fun j => Aw (48 * (k - 1) + j)) k4]
          exact Nat.le_refl _
        · rw [upd_ne _ _ ei] at ha
          have := t4 i (by omega) ha c2 hc2 hs2
          omega
      · have hyf : ¬ y = upd f 0 0 17 := fun q => hyg (q.trans c17)
        obtain ⟨a1, a2, a3⟩ := an_bad hn t3' hyf
        have hfi : ∀ i, (i < 9 ∨ 16 < i) → i ≠ 26 → i ≠ 0 → md_anF (upd f 0 0) y i = f i := fun i q1 q2 q3 => (a3 i q1 q2).trans (upd_ne _ _ q3)
        refine fin nn cz pl nn (fun _ => hok) ?_ (by rw [eD]; show md_anF (upd f 0 0) y 0 = 0; rw [a3 0 (by omega) (by omega)]; rfl)
        rw [eS, eD, tk_bad (S := (g, w, c, d)) hyg, ans_bad hyf]
        refine ⟨⟨hn, e1, (hfi 3 (by omega) (by omega) (by omega)).trans e3, e2⟩, ⟨b1, b2, b3, (hfi 1 (by omega) (by omega) (by omega)).trans b4, (hfi 18 (by omega) (by omega) (by omega)).trans b5, b6⟩, ⟨(hfi 22 (by omega) (by omega) (by omega)).trans c22, (hfi 23 (by omega) (by omega) (by omega)).trans c23, (hfi 24 (by omega) (by omega) (by omega)).trans c24, (hfi 25 (by omega) (by omega) (by omega)).trans c25, (hfi 17 (by omega) (by omega) (by omega)).trans c17⟩, a1, hM1, h5, (hfi 2 (by omega) (by omega) (by omega)).trans (h2.trans h5), (hfi 8 (by omega) (by omega) (by omega)).trans t1, t2, ?_, cz, k1, (hfi 6 (by omega) (by omega) (by omega)).trans k2⟩
        show DEq nn k (md_anF (upd f 0 0) y 17) W Sz Aw (upd An (k - 1) y)
        rw [hfi 17 (by omega) (by omega) (by omega)]
        intro i hi ha c2 hc2 hs2
        by_cases ei : i = k - 1
        · subst ei
          rw [upd_eq] at ha
          exact absurd ha (fun q => hyg (q.trans c17))
        · rw [upd_ne _ _ ei] at ha
          exact t4 i (by omega) ha c2 hc2 hs2
