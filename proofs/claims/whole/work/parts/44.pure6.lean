-- PURE, 6: the other calls
theorem ps_full {n : Nat} (hn : n ≤ 48) : pg_fullI (nI n) = 0 ↔ n < 48 := by
  unfold pg_fullI
  by_cases q : n < 48
  · rw [if_pos (show nI n < (48 : Int32) from nI_lt (b := 48) q (by omega))]; exact ⟨fun _ => q, fun _ => rfl⟩
  · rw [if_neg (show ¬ nI n < (48 : Int32) from nI_nlt (b := 48) (by omega) (by omega))]; exact ⟨fun z => absurd z (by decide), fun z => absurd z q⟩
theorem ps_ap {n : Nat} (hn : n < 48) (ws os : Nat → Int32) (x : Int32) : pg_apN (nI n) = nI (n + 1) ∧ pg_apW ws (nI n) x = upd ws n x ∧ pg_apO os (nI n) = upd os n (nI n) := by
  unfold pg_apN pg_apW pg_apO
  have a0 : ¬ nI n < 0 := nI_pos (by omega)
  have a1 : ¬ (48 : Int32) ≤ nI n := nI_ge (b := 48) hn (by omega)
  rw [if_neg a0, if_neg a0, if_neg a0, if_neg a1, if_neg a1, if_neg a1, nI_clamp (by omega), nI_1]
  exact ⟨rfl, rfl, rfl⟩
theorem fd_sim {C : CS} {f W O Cd Sz Aw An : Nat → Int32} {x r v : Int32} {C' : CS} (hI : Inv C (f, W, O, Cd, Sz, Aw, An)) (hr : r_feed C x r v C') : r = fd_F f 0 ∧ (r = 0 → v = fd_r f) ∧ Inv C' (fd_F f, fd_W f W x, fd_O f O, Cd, Sz, Aw, An) := by
  obtain ⟨⟨g, w, c, d⟩, k, as⟩ := C
  have hI0 := hI
  obtain ⟨nn, bud, ⟨hn, e1, e3, e2⟩, ⟨b1, b2, b3, b4, b5, b6⟩, ⟨c22, c23, c24, c25, c17⟩, h7, hM, h2, ⟨z, hz1, hz2⟩, hs⟩ := hI
  have e1 : c.1 = nI nn := e1
  have e2 : ∀ j, j < nn → c.2.1 j = W j ∧ c.2.2 j = O j := e2
  have e3 : f 3 = nI nn := e3
  have h2 : f 2 = g 5 := h2
  rcases hr with ⟨h5, hfu, rfl, rfl⟩ | ⟨hfu, rfl, hv, rfl⟩
  · have h5 : g 5 = 0 := h5
    have hfu : ¬ pg_fullI c.1 = 0 := hfu
    rw [e1, ps_full hn] at hfu
    have e48 : f 3 = 48 := by rw [e3, show nn = 48 by omega]; rfl
    have eF : fd_F f = upd (upd f 0 0) 0 1 := by unfold fd_F; rw [if_pos (h2.trans h5), if_pos e48]
    have eW : fd_W f W x = W := by unfold fd_W; rw [if_pos (h2.trans h5), if_pos e48]
    have eO : fd_O f O = O := by unfold fd_O; rw [if_pos (h2.trans h5), if_pos e48]
    rw [eF, eW, eO]
    exact ⟨rfl, fun q => absurd q (by decide), hI0.f0 (fun i hi => by rw [upd_ne _ _ (by omega), upd_ne _ _ (by omega)])⟩
  · have hfu : pg_fullI (fe_n g c.1) = 0 := hfu
    have hv : v = pg_apN (fe_n g c.1) := hv
    by_cases h5 : g 5 = 0
    · have en : fe_n g c.1 = nI nn := by unfold fe_n; rw [if_pos h5]; exact e1
      rw [en, ps_full hn] at hfu
      obtain ⟨a1, a2, a3⟩ := ps_ap hfu c.2.1 c.2.2 x
      have e48 : ¬ f 3 = 48 := by rw [e3]; exact fun q => by have := (nI_eq (b := 48) (by omega) (by omega)).mp q; omega
      have eF : fd_F f = upd (upd f 0 0) 3 (f 3 + 1) := by unfold fd_F; rw [if_pos (h2.trans h5), if_neg e48]
      have er : fd_r f = f 3 + 1 := by unfold fd_r; rw [if_pos (h2.trans h5), if_neg e48]
      have eW : fd_W f W x = upd W nn x := by unfold fd_W; rw [if_pos (h2.trans h5), if_neg e48, e3, nI_clamp (by omega)]
      have eO : fd_O f O = upd O nn (nI nn) := by unfold fd_O; rw [if_pos (h2.trans h5), if_neg e48, e3, nI_clamp (by omega)]
      have e31 : f 3 + 1 = nI (nn + 1) := by rw [e3, nI_1]
      rw [eF, eW, eO, er]
      rw [en, a1] at hv
      refine ⟨rfl, fun _ => by rw [hv, e31], ?_⟩
      show Inv ((fe_g g, fe_k g w, (pg_apN (fe_n g c.1), pg_apW c.2.1 (fe_n g c.1) x, pg_apO c.2.2 (fe_n g c.1)), d), fe_f g k, as) _
      rw [en, a1, a2, a3, show fe_g g = g by unfold fe_g; rw [if_pos h5], show fe_k g w = w by unfold fe_k; rw [if_pos h5], show fe_f g k = k by unfold fe_f; rw [if_pos h5]]
      refine ⟨nn + 1, bud, ⟨by omega, rfl, e31, fun j hj => ?_⟩, ⟨b1, b2, b3, b4, b5, b6⟩, ⟨c22, c23, c24, c25, c17⟩, h7, hM, h2, ⟨z, hz1, hz2⟩, ?_⟩
      · show upd c.2.1 nn x j = upd W nn x j ∧ upd c.2.2 nn (nI nn) j = upd O nn (nI nn) j
        by_cases e : j = nn
        · rw [e, upd_eq, upd_eq, upd_eq, upd_eq]; exact ⟨rfl, rfl⟩
        · rw [upd_ne _ _ e, upd_ne _ _ e, upd_ne _ _ e, upd_ne _ _ e]; exact e2 j (by omega)
      · rcases hs with s | ⟨s1, -⟩ | ⟨s1, -⟩
        · exact Or.inl s
        · exact absurd (h5.symm.trans s1) (by decide)
        · exact absurd h5 s1
    · have en : fe_n g c.1 = nI 0 := by unfold fe_n; rw [if_neg h5]; rfl
      obtain ⟨a1, a2, a3⟩ := ps_ap (n := 0) (by omega) c.2.1 c.2.2 x
      have n2 : ¬ f 2 = 0 := fun q => h5 (h2.symm.trans q)
      have eF : fd_F f = upd (md_rs (upd f 0 0)) 3 (0 + 1) := by unfold fd_F; rw [if_neg n2]
      have er : fd_r f = 0 + 1 := by unfold fd_r; rw [if_neg n2]
      have eW : fd_W f W x = upd W 0 x := by unfold fd_W; rw [if_neg n2]; rfl
      have eO : fd_O f O = upd O 0 0 := by unfold fd_O; rw [if_neg n2]; rfl
      rw [eF, eW, eO, er]
      rw [en, a1] at hv
      refine ⟨rfl, fun _ => by rw [hv]; rfl, ?_⟩
      show Inv ((fe_g g, fe_k g w, (pg_apN (fe_n g c.1), pg_apW c.2.1 (fe_n g c.1) x, pg_apO c.2.2 (fe_n g c.1)), d), fe_f g k, as) _
      rw [en, a1, a2, a3, show fe_g g = sf_g g by unfold fe_g; rw [if_neg h5], show fe_k g w = sf_k w by unfold fe_k; rw [if_neg h5], show fe_f g k = 0 by unfold fe_f; rw [if_neg h5]]
      refine ⟨1, bud, ⟨by omega, rfl, rfl, fun j hj => ?_⟩, ⟨b1, b2, b3, b4, rfl, Nat.zero_le _⟩, ⟨rfl, rfl, rfl, rfl, rfl⟩, rfl, ⟨Nat.zero_le _, hM.2.1, fun i hi => absurd hi (Nat.not_lt_zero i)⟩, rfl, ⟨z, hz1, hz2⟩, Or.inl ⟨rfl, rfl, rfl⟩⟩
      show upd c.2.1 0 x j = upd W 0 x j ∧ upd c.2.2 0 (nI 0) j = upd O 0 0 j
      have ej : j = 0 := by omega
      rw [ej, upd_eq, upd_eq, upd_eq, upd_eq]; exact ⟨rfl, rfl⟩
/-- begin, of the reference -/
def bg_D (f W O Cd Sz Aw An : Nat → Int32) (n a : Nat) : DS := (if f 2 = 0 ∧ ¬ f 3 = 0 then md_ptF (bg_f f W Cd n) else upd (upd f 0 0) 0 1, W, O, if f 2 = 0 ∧ ¬ f 3 = 0 then (md_wo W Cd (f 3) 0 n).2 else Cd, if f 2 = 0 ∧ ¬ f 3 = 0 then upd Sz a ((bg_f f W Cd n) 6) else Sz, if f 2 = 0 ∧ ¬ f 3 = 0 then md_pw (md_wo W Cd (f 3) 0 n).2 Aw a (md_wo W Cd (f 3) 0 n).1 else Aw, if f 2 = 0 ∧ ¬ f 3 = 0 then upd An a (-2) else An)
theorem bg_sim {C : CS} {f W O Cd Sz Aw An : Nat → Int32} {n : Nat} {r : Int32} {C' : CS} (hI : Inv C (f, W, O, Cd, Sz, Aw, An)) (hn3 : f 3 = nI n) (hn48 : n ≤ 48) (hr : r_begin C r C') : r = (bg_D f W O Cd Sz Aw An n 0).1 0 ∧ Inv C' (bg_D f W O Cd Sz Aw An n 0) := by
  obtain ⟨⟨g, w, c, d⟩, k, as⟩ := C
  have hI0 := hI
  obtain ⟨nn, bud, ⟨hn, e1, e3, e2⟩, ⟨b1, b2, b3, b4, b5, b6⟩, ⟨c22, c23, c24, c25, c17⟩, h7, hM, h2, ⟨z, hz1, hz2⟩, hs⟩ := hI
  have e1 : c.1 = nI nn := e1
  have e2 : ∀ j, j < nn → c.2.1 j = W j ∧ c.2.2 j = O j := e2
  have e3 : f 3 = nI nn := e3
  have h2 : f 2 = g 5 := h2
  have en : n = nn := (nI_eq (by omega) (by omega)).mp (hn3.symm.trans e3)
  subst en
  rcases hr with ⟨hno, rfl, rfl⟩ | ⟨h5, hnz, rfl, u, hu, rfl⟩
  · have hno : ¬ (g 5 = 0 ∧ ¬ c.1 = 0) := hno
    have hc : ¬ (f 2 = 0 ∧ ¬ f 3 = 0) := by rw [h2, e3, ← e1]; exact hno
    unfold bg_D
    rw [if_neg hc, if_neg hc, if_neg hc, if_neg hc, if_neg hc]
    exact ⟨rfl, hI0.f0 (fun i hi => by rw [upd_ne _ _ (by omega), upd_ne _ _ (by omega)])⟩
  · have h5 : g 5 = 0 := h5
    have hnz : ¬ c.1 = 0 := hnz
    have hc : f 2 = 0 ∧ ¬ f 3 = 0 := by rw [h2, e3, ← e1]; exact ⟨h5, hnz⟩
    have hu : mm_keepR as u k c.1 c.2.1 c.2.2 := hu
    obtain ⟨s1, s2⟩ : k = 0 ∧ g 6 = (-1) := by
      rcases hs with ⟨-, s⟩ | ⟨s1, -⟩ | ⟨s1, -⟩
      · exact s
      · exact absurd (h5.symm.trans s1) (by decide)
      · exact absurd h5 s1
    subst s1
    unfold bg_D
    rw [if_pos hc, if_pos hc, if_pos hc, if_pos hc, if_pos hc]
    obtain ⟨o1, o2⟩ := ps_woB W Cd (n := n) hn
    rw [← e3] at o1 o2
    have e6 : bg_f f W Cd n 6 = nI n := by show nI (md_wo W Cd (f 3) 0 n).1 = nI n; rw [o1]
    rw [e6, o1]
    rw [e1] at hu
    have hM0 : MMq as 0 Sz Aw An := hM
    have hM' := MM_put (C := (md_wo W Cd (f 3) 0 n).2) hM0 (by omega) hn hu (fun j hj => by rw [o2 j hj]; exact (e2 j hj).1)
    refine ⟨rfl, ?_⟩
    show Inv ((upd g 5 1, w, c, d), 1, u) _
    refine ⟨n, bud, ⟨hn, e1, e3, e2⟩, ⟨b1, b2, b3, b4, ?_, b1⟩, ⟨c22, c23, c24, c25, c17⟩, h7, hM', rfl, ⟨n, hn, e6⟩, Or.inr (Or.inl ⟨rfl, Nat.le_refl 1, n, hn, e6, ?_, ?_, Or.inl ⟨?_, s2, rfl, rfl, o2⟩⟩)⟩
    · show f 18 + 1 = nI 1
      rw [show f 18 = nI 0 from b5, nI_1]
    · show upd Sz 0 (nI n) (1 - 1) = nI n; exact upd_eq _ _ _
    · intro j hj
      show (md_wo W Cd (f 3) 0 n).2 j = md_pw (md_wo W Cd (f 3) 0 n).2 Aw 0 n (48 * (1 - 1) + j)
      unfold md_pw
      rw [if_pos ⟨by omega, by omega⟩, show 48 * (1 - 1) + j - 48 * 0 = j by omega]
    · show ¬ (1 : Int32) = 0; decide
theorem has_in {n : Nat} (hn : n ≤ 48) (y : Int32) : pg_hasI (nI n) y = 0 ↔ md_in y 0 (nI n - 1) = 0 := by
  unfold md_in
  by_cases h0 : y < 0
  · rw [if_pos h0, ps_has_n _ _ h0]
  · rw [if_neg h0]
    obtain ⟨j, hj, rfl⟩ := nI_of h0
    rw [ps_has hn hj]
    cases n with
    | zero =>
      have : nI 0 - 1 < nI j := by rw [show nI 0 - 1 = (-1) by decide, Int32.lt_iff_toInt_lt, nI_toInt hj, show ((-1) : Int32).toInt = -1 by decide]; omega
      rw [if_pos this]; exact ⟨fun _ => rfl, fun _ => Nat.zero_le _⟩
    | succ m =>
      rw [nI_pred]
      by_cases q : m < j
      · rw [if_pos (nI_lt q hj)]; exact ⟨fun _ => rfl, fun _ => q⟩
      · rw [if_neg (nI_nlt (by omega) (by omega))]; exact ⟨fun z => by omega, fun z => absurd z (by decide)⟩
theorem Inv.opn {g w : Nat → Int32} {c d : PR} {k : Nat} {as : List AR} {f W O Cd Sz Aw An : Nat → Int32} (hI : Inv ((g, w, c, d), k, as) (f, W, O, Cd, Sz, Aw, An)) : (∀ q, oa_R g as (nI k) = some q → f 2 = 1 ∧ ∃ cz, cz ≤ 48 ∧ f 6 = nI cz ∧ q.2.2.2.1 = nI cz ∧ ∀ j, j < cz → q.2.2.2.2.1 j = Cd j) ∧ (oa_R g as (nI k) = none → ¬ f 2 = 1) := by
  obtain ⟨nn, bud, -, ⟨b1, b2, -, -, -, b6⟩, -, -, hM, h2, -, hs⟩ := hI
  have b6 : k ≤ bud := b6
  have h2 : f 2 = g 5 := h2
  have hM : MMq as k Sz Aw An := hM
  have hopn : g 5 = 1 → 1 ≤ k ∧ ASKq nn k g w (f, W, O, Cd, Sz, Aw, An) := fun q => by
    rcases hs with ⟨s1, -⟩ | ⟨-, s2, s3⟩ | ⟨-, s1⟩
    · exact absurd (s1.symm.trans q) (by decide)
    · exact ⟨s2, s3⟩
    · exact absurd q s1
  constructor
  · intro q hq
    obtain ⟨i, hi, -, h5, -⟩ := oa_mem hq
    obtain ⟨hk, cz, k1, k2, k3, k4, -⟩ := hopn h5
    obtain ⟨r0, hr0, c0, m1, m2, m3, m4, -⟩ := hM.2.2 (k - 1) (by omega)
    have := oa_some (as := as) h5 hk (by omega) hr0
    rw [hq] at this
    cases this
    have ec : c0 = cz := (nI_eq (by omega) (by omega)).mp (m3.symm.trans k3)
    subst ec
    exact ⟨h2.trans h5, c0, k1, k2, m2, fun j hj => by rw [m4 j hj]; exact (k4 j hj).symm⟩
  · intro hq h5
    have h5 : g 5 = 1 := h2.symm.trans h5
    obtain ⟨hk, -⟩ := hopn h5
    obtain ⟨r0, hr0, -⟩ := hM.2.2 (k - 1) (by omega)
    have := oa_some (as := as) h5 hk (by omega) hr0
    rw [hq] at this
    cases this
theorem ak_sim {C : CS} {f W O Cd Sz Aw An : Nat → Int32} {y r v : Int32} (hI : Inv C (f, W, O, Cd, Sz, Aw, An)) (hr : r_asked C y r v) : r = ak_F f y 0 ∧ (r = 0 → v = ak_r f Cd y) ∧ Inv C (ak_F f y, W, O, Cd, Sz, Aw, An) := by
  obtain ⟨⟨g, w, c, d⟩, k, as⟩ := C
  obtain ⟨h1, h2⟩ := hI.opn
  have hF : ∀ i, 1 ≤ i → ak_F f y i = f i := fun i hi => by
    unfold ak_F
    by_cases q : f 2 = 1
    · rw [if_pos q]
      by_cases q2 : md_in y 0 (f 6 - 1) = 0
      · rw [if_pos q2, upd_ne _ _ (by omega), upd_ne _ _ (by omega)]
      · rw [if_neg q2, upd_ne _ _ (by omega)]
    · rw [if_neg q, upd_ne _ _ (by omega), upd_ne _ _ (by omega)]
  refine ⟨?_, ?_, hI.f0 hF⟩
  · rcases hr with ⟨hq, rfl⟩ | ⟨q, hq, hh, rfl⟩ | ⟨q, hq, hh, rfl, -⟩
    · unfold ak_F; rw [if_neg (h2 hq)]; rfl
    · obtain ⟨a1, cz, a2, a3, a4, -⟩ := h1 q hq
      rw [a4, has_in a2] at hh
      unfold ak_F; rw [if_pos a1, a3, if_pos hh]; rfl
    · obtain ⟨a1, cz, a2, a3, a4, -⟩ := h1 q hq
      rw [a4, has_in a2] at hh
      unfold ak_F; rw [if_pos a1, a3, if_neg hh]; rfl
  · intro r0
    rcases hr with ⟨hq, rfl⟩ | ⟨q, hq, hh, rfl⟩ | ⟨q, hq, hh, rfl, hv⟩
    · exact absurd r0 (by decide)
    · exact absurd r0 (by decide)
    · obtain ⟨a1, cz, a2, a3, a4, a5⟩ := h1 q hq
      rw [a4] at hh hv
      have hh2 := fun z => hh ((has_in a2 y).mpr z)
      unfold ak_r
      rw [if_pos a1, a3, if_neg hh2, hv]
      unfold pg_word
      rw [if_neg hh]
      obtain ⟨j, hj1, hj2, rfl⟩ := pg_has_nI hh
      rw [nI_clamp (by omega)] at hj2
      rw [nI_clamp (by omega)]
      exact a5 j hj2
theorem sz_sim {C : CS} {f W O Cd Sz Aw An : Nat → Int32} {r v : Int32} (hI : Inv C (f, W, O, Cd, Sz, Aw, An)) (hr : r_size C r v) : r = sz_F f 0 ∧ (r = 0 → v = sz_r f) ∧ Inv C (sz_F f, W, O, Cd, Sz, Aw, An) := by
  obtain ⟨⟨g, w, c, d⟩, k, as⟩ := C
  obtain ⟨h1, h2⟩ := hI.opn
  have hF : ∀ i, 1 ≤ i → sz_F f i = f i := fun i hi => by
    unfold sz_F
    by_cases q : f 2 = 1
    · rw [if_pos q, upd_ne _ _ (by omega)]
    · rw [if_neg q, upd_ne _ _ (by omega), upd_ne _ _ (by omega)]
  refine ⟨?_, ?_, hI.f0 hF⟩
  · rcases hr with ⟨hq, rfl⟩ | ⟨q, hq, rfl, -⟩
    · unfold sz_F; rw [if_neg (h2 hq)]; rfl
    · unfold sz_F; rw [if_pos (h1 q hq).1]; rfl
  · intro r0
    rcases hr with ⟨hq, rfl⟩ | ⟨q, hq, rfl, hv⟩
    · exact absurd r0 (by decide)
    · obtain ⟨a1, cz, a2, a3, a4, a5⟩ := h1 q hq
      unfold sz_r; rw [if_pos a1, hv, a4, a3]
theorem at_simF {f : Nat → Int32} {y : Int32} : ∀ i, 1 ≤ i → at_F f y i = f i := fun i hi => by
  unfold at_F
  by_cases q2 : md_in y 0 (f 3 - 1) = 0
  · rw [if_pos q2, upd_ne _ _ (by omega), upd_ne _ _ (by omega)]
  · rw [if_neg q2, upd_ne _ _ (by omega)]
theorem at_sim0 {f A B : Nat → Int32} {n : Nat} {y r v : Int32} (h3 : f 3 = nI n) (hn : n ≤ 48) (hA : ∀ j, j < n → B j = A j) (hr : (pg_hasI (nI n) y = 0 ∧ r = 1) ∨ (¬ pg_hasI (nI n) y = 0 ∧ r = 0 ∧ v = B y.toNatClampNeg)) : r = at_F f y 0 ∧ (r = 0 → v = at_r f A y) := by
  unfold at_F at_r
  rw [h3]
  rcases hr with ⟨hh, rfl⟩ | ⟨hh, rfl, hv⟩
  · rw [if_pos ((has_in hn y).mp hh)]
    exact ⟨rfl, fun q => absurd q (by decide)⟩
  · rw [if_neg (fun z => hh ((has_in hn y).mpr z)), if_neg (fun z => hh ((has_in hn y).mpr z))]
    refine ⟨rfl, fun _ => ?_⟩
    rw [hv]
    obtain ⟨j, hj1, hj2, rfl⟩ := pg_has_nI hh
    rw [nI_clamp (by omega)] at hj2
    rw [nI_clamp (by omega)]
    exact hA j hj2
theorem at_sim {C : CS} {f W O Cd Sz Aw An : Nat → Int32} {y r v : Int32} (hI : Inv C (f, W, O, Cd, Sz, Aw, An)) (hr : r_at C y r v) : r = at_F f y 0 ∧ (r = 0 → v = at_r f W y) ∧ Inv C (at_F f y, W, O, Cd, Sz, Aw, An) := by
  have hI0 := hI
  obtain ⟨nn, bud, ⟨hn, e1, e3, e2⟩, -⟩ := hI
  have hr : (pg_hasI C.1.2.2.1.1 y = 0 ∧ r = 1) ∨ (¬ pg_hasI C.1.2.2.1.1 y = 0 ∧ r = 0 ∧ v = pg_word C.1.2.2.1.2.1 C.1.2.2.1.1 y) := hr
  rw [e1] at hr
  have := at_sim0 (f := f) (A := W) (B := C.1.2.2.1.2.1) (v := v) (r := r) e3 hn (fun j hj => (e2 j hj).1) (by
    rcases hr with h | ⟨h1, h2, h3⟩
    · exact Or.inl h
    · refine Or.inr ⟨h1, h2, ?_⟩
      rw [h3]; unfold pg_word; rw [if_neg h1])
  exact ⟨this.1, this.2, hI0.f0 at_simF⟩
theorem fm_sim {C : CS} {f W O Cd Sz Aw An : Nat → Int32} {y r v : Int32} (hI : Inv C (f, W, O, Cd, Sz, Aw, An)) (hr : r_from C y r v) : r = at_F f y 0 ∧ (r = 0 → v = at_r f O y) ∧ Inv C (at_F f y, W, O, Cd, Sz, Aw, An) := by
  have hI0 := hI
  obtain ⟨nn, bud, ⟨hn, e1, e3, e2⟩, -⟩ := hI
  have hr : (pg_hasI C.1.2.2.1.1 y = 0 ∧ r = 1) ∨ (¬ pg_hasI C.1.2.2.1.1 y = 0 ∧ r = 0 ∧ v = pg_orig C.1.2.2.1.2.2 C.1.2.2.1.1 y) := hr
  rw [e1] at hr
  have := at_sim0 (f := f) (A := O) (B := C.1.2.2.1.2.2) (v := v) (r := r) e3 hn (fun j hj => (e2 j hj).2) (by
    rcases hr with h | ⟨h1, h2, h3⟩
    · exact Or.inl h
    · refine Or.inr ⟨h1, h2, ?_⟩
      rw [h3]; unfold pg_orig; rw [if_neg h1])
  exact ⟨this.1, this.2, hI0.f0 at_simF⟩
theorem ct_sim {g w : Nat → Int32} {c d : PR} {k : Nat} {as : List AR} {f W O Cd Sz Aw An : Nat → Int32} (x : Int32) (hI : Inv ((g, w, c, d), k, as) (f, W, O, Cd, Sz, Aw, An)) : ct_r g w c.1 (nI k) x = cn_r f x ∧ Inv ((g, w, c, d), k, as) (upd f 0 0, W, O, Cd, Sz, Aw, An) := by
  refine ⟨?_, hI.f0 (fun i hi => upd_ne _ _ (by omega))⟩
  obtain ⟨nn, bud, ⟨hn, e1, e3, e2⟩, ⟨b1, b2, b3, b4, b5, b6⟩, ⟨c22, c23, c24, c25, c17⟩, h7, hM, h2, -, -⟩ := hI
  have e1 : c.1 = nI nn := e1
  have e3 : f 3 = nI nn := e3
  have b3 : g 0 = nI bud := b3
  have b4 : f 1 = nI bud := b4
  have b5 : f 18 = nI k := b5
  have h7 : w 7 = f 26 := h7
  have h2 : f 2 = g 5 := h2
  have c17 : f 17 = g 6 := c17
  have c22 : f 22 = g 7 := c22
  have c23 : f 23 = g 8 := c23
  have c24 : f 24 = g 9 := c24
  have c25 : f 25 = g 10 := c25
  unfold ct_r cn_r
  rw [e1, e3, b3, b4, b5, h7, h2, c17, c22, c23, c24, c25]
