-- PURE, 7: known; a new object
theorem in_iff {x : Int32} {a : Nat} (ha : a < 2 ^ 31) {y : Int32} (hy : y = nI a) : md_in x 0 y = 0 ↔ (x < 0 ∨ y < x) := by
  unfold md_in
  by_cases h0 : x < 0
  · rw [if_pos h0]; exact ⟨fun _ => Or.inl h0, fun _ => rfl⟩
  · rw [if_neg h0]
    by_cases h1 : y < x
    · rw [if_pos h1]; exact ⟨fun _ => Or.inr h1, fun _ => rfl⟩
    · rw [if_neg h1]; exact ⟨fun q => absurd q (by decide), fun q => by rcases q with q | q; exact absurd q h0; exact absurd q h1⟩
theorem lt4 (b : Int32) : (¬ b < 4) ↔ (3 : Int32) < b := by
  rw [Int32.lt_iff_toInt_lt, Int32.lt_iff_toInt_lt, show (4 : Int32).toInt = 4 by decide, show (3 : Int32).toInt = 3 by decide]; omega
theorem le255 (v : Int32) : (¬ v ≤ 255) ↔ (255 : Int32) < v := by
  rw [Int32.le_iff_toInt_le, Int32.lt_iff_toInt_lt, show (255 : Int32).toInt = 255 by decide]; omega
theorem kn_eq {f : Nat → Int32} {n : Nat} (hn : n ≤ 48) (h3 : f 3 = nI n) (what k b v : Int32) : kc_e (nI n) what k b v = kn_e f what k b v := by
  unfold kc_e kn_e
  rw [h3]
  by_cases q1 : pg_hasI (nI n) k = 0
  · rw [if_pos q1, if_pos ((has_in hn k).mp q1)]
  · rw [if_neg q1, if_neg (fun z => q1 ((has_in hn k).mpr z))]
    by_cases q2 : what = 1
    · rw [if_pos q2, if_pos q2]
      have hb := in_iff (x := b) (a := 3) (y := 3) (by omega) rfl
      have hv := in_iff (x := v) (a := 255) (y := 255) (by omega) rfl
      have hw : ¬ md_in what 0 1 = 0 := by rw [q2]; decide
      by_cases b0 : b < 0
      · rw [if_pos b0, if_pos (hb.mpr (Or.inl b0))]
      · rw [if_neg b0]
        by_cases b4 : ¬ b < 4
        · rw [if_pos b4, if_pos (hb.mpr (Or.inr ((lt4 b).mp b4)))]
        · rw [if_neg b4, if_neg (show ¬ md_in b 0 3 = 0 from fun z => by rcases hb.mp z with z | z; exact b0 z; exact b4 ((lt4 b).mpr z)), if_neg hw]
          by_cases v0 : v < 0
          · rw [if_pos v0, if_pos (hv.mpr (Or.inl v0))]
          · rw [if_neg v0]
            by_cases v5 : ¬ v ≤ 255
            · rw [if_pos v5, if_pos (hv.mpr (Or.inr ((le255 v).mp v5)))]
            · rw [if_neg v5, if_neg (show ¬ md_in v 0 255 = 0 from fun z => by rcases hv.mp z with z | z; exact v0 z; exact v5 ((le255 v).mpr z))]
    · rw [if_neg q2, if_neg q2]
      by_cases q3 : what = 0
      · rw [if_pos q3, if_neg (show ¬ md_in what 0 1 = 0 by rw [q3]; decide)]
      · rw [if_neg q3, if_pos]
        refine Classical.byContradiction (fun z => q3 (in01 z q2))
/-- what known's words ask for where it does not refuse -/
theorem kc_ok {n : Nat} {what k b v : Int32} (h : kc_e (nI n) what k b v = 0) : ¬ pg_hasI (nI n) k = 0 ∧ ((what = 0) ∨ (¬ what = 0 ∧ ∃ bb vv : Nat, bb < 4 ∧ vv < 256 ∧ b = nI bb ∧ v = nI vv)) := by
  unfold kc_e at h
  by_cases q1 : pg_hasI (nI n) k = 0
  · rw [if_pos q1] at h; exact absurd h (by decide)
  · rw [if_neg q1] at h
    refine ⟨q1, ?_⟩
    by_cases q2 : what = 1
    · rw [if_pos q2] at h
      by_cases b0 : b < 0
      · rw [if_pos b0] at h; exact absurd h (by decide)
      · rw [if_neg b0] at h
        by_cases b4 : ¬ b < 4
        · rw [if_pos b4] at h; exact absurd h (by decide)
        · rw [if_neg b4] at h
          by_cases v0 : v < 0
          · rw [if_pos v0] at h; exact absurd h (by decide)
          · rw [if_neg v0] at h
            by_cases v5 : ¬ v ≤ 255
            · rw [if_pos v5] at h; exact absurd h (by decide)
            · obtain ⟨bb, hb, rfl⟩ := nI_of b0
              obtain ⟨vv, hv, rfl⟩ := nI_of v0
              have b4 := Classical.not_not.mp b4
              have v5 := Classical.not_not.mp v5
              have x1 := (nI_ltI (b := 4) hb (by omega)).mp b4
              have x2 := (nI_leI (b := 255) hv (by omega)).mp v5
              exact Or.inr ⟨by rw [q2]; decide, bb, vv, x1, by omega, rfl, rfl⟩
    · rw [if_neg q2] at h
      by_cases q3 : what = 0
      · exact Or.inl q3
      · rw [if_neg q3] at h; exact absurd h (by decide)
theorem kn_words {n : Nat} {c d : PR} {W Cd : Nat → Int32} {what k b v : Int32} (hn : n ≤ 48) (e1 : c.1 = nI n) (e2 : ∀ j, j < n → c.2.1 j = W j) (h : kc_e (nI n) what k b v = 0) : kn_c W Cd n what k ≤ 48 ∧ (kc_d c d what k b v).1 = nI (kn_c W Cd n what k) ∧ ∀ j, j < kn_c W Cd n what k → (kc_d c d what k b v).2.1 j = kn_C W Cd n what k b v j := by
  obtain ⟨p1, p2⟩ := cp_eq (d := d) hn e1 e2
  obtain ⟨q1, q2⟩ := kc_ok h
  obtain ⟨kk, hk1, hk2, rfl⟩ := pg_has_nI q1
  rw [nI_clamp (by omega)] at hk2
  unfold kc_d kn_c kn_C
  rcases q2 with rfl | ⟨hw, bb, vv, hb, hv, rfl, rfl⟩
  · rw [if_pos rfl, if_pos rfl, if_pos rfl]
    obtain ⟨o1, o2⟩ := ps_chL (an_cp c d).2.1 (an_cp c d).2.2 hn hk2 (p := 1) (by omega) (by omega)
    obtain ⟨r1, r2⟩ := ps_woL W Cd hn hk2 (p := 1) (by omega)
    have r1 : (md_wo W Cd (nI kk) 1 n).1 = kk + (n - kk - 1) := r1
    have r2 : ∀ j, j < kk + (n - kk - 1) → (md_wo W Cd (nI kk) 1 n).2 j = ps_lo W kk 1 j := r2
    rw [p1, r1]
    refine ⟨by omega, o1, fun j hj => ?_⟩
    rw [r2 j hj]
    refine ((o2 j hj).1).trans ?_
    by_cases e : j < kk
    · rw [lo_a _ e, lo_a _ e]; exact p2 j (by omega)
    · rw [lo_b _ e, lo_b _ e]; exact p2 _ (by omega)
  · rw [if_neg hw, if_neg hw, if_neg hw]
    refine ⟨hn, p1, fun j hj => ?_⟩
    show pg_sbW (an_cp c d).2.1 (an_cp c d).1 (nI kk) (nI bb) (nI vv) j = md_wb W Cd n (nI kk) (nI bb) (nI vv) j
    unfold pg_sbW md_wb
    rw [p1, if_neg q1, nI_clamp (by omega), sb_pg _ hb hv, sb_md _ _ hb, p2 kk hk2]
    unfold upd pg_cp
    by_cases e : j = kk
    · rw [if_pos e, if_pos e]
    · rw [if_neg e, if_neg e, if_pos hj]; exact p2 j hj
/-- known, of the reference -/
def kn_D (f W O Cd Sz Aw An : Nat → Int32) (n a c1 : Nat) (what k b v : Int32) : DS := (if (kn_e f what k b v) = 0 then (if f 2 = 1 then upd (upd (upd f 0 0) 6 (nI (kn_c W Cd n what k))) 6 (nI c1) else upd (upd f 0 0) 6 (nI (kn_c W Cd n what k))) else upd (upd f 0 0) 0 (kn_e f what k b v), W, O, if (kn_e f what k b v) = 0 then (if f 2 = 1 then pg_cp (fun i => Aw (48 * (a - 1) + i)) (kn_C W Cd n what k b v) c1 else (kn_C W Cd n what k b v)) else Cd, Sz, Aw, An)
def kn_R (f W Cd Sz Aw An : Nat → Int32) (n a : Nat) (what k b v : Int32) : Int32 := if (kn_e f what k b v) = 0 then kn_r Sz Aw An (kn_C W Cd n what k b v) (kn_c W Cd n what k) a else 0
theorem kn_find {as : List AR} {k c : Nat} {Sz Aw An C : Nat → Int32} {d : PR} (h : MMq as k Sz Aw An) (hc : c ≤ 48) (e : d.1 = nI c) (hv : ∀ j, j < c → d.2.1 j = C j) : kc_r as (nI k) d = kn_r Sz Aw An C c k := by
  unfold kc_r kn_r
  rw [e]
  cases q : md_fd Sz Aw C c k with
  | none => rw [ps_fd_n h hc hv q]
  | some i =>
    obtain ⟨-, -, r, -, hm, ha⟩ := ps_fd_s h hc hv q
    rw [hm]
    exact ha
theorem kn_sim {C : CS} {f W O Cd Sz Aw An : Nat → Int32} {what y b v0 r v : Int32} {C' : CS} {n c1 : Nat} (hI : Inv C (f, W, O, Cd, Sz, Aw, An)) (h3 : f 3 = nI n) (hn48 : n ≤ 48) (hst : f 2 = 1 → 1 ≤ C.2.1 ∧ Sz (C.2.1 - 1) = nI c1 ∧ c1 ≤ 48) (hr : r_known C what y b v0 r v C') : r = (kn_D f W O Cd Sz Aw An n C.2.1 c1 what y b v0).1 0 ∧ (r = 0 → v = kn_R f W Cd Sz Aw An n C.2.1 what y b v0) ∧ Inv C' (kn_D f W O Cd Sz Aw An n C.2.1 c1 what y b v0) := by
  obtain ⟨⟨g, w, c, d⟩, k, as⟩ := C
  have hI0 := hI
  obtain ⟨nn, bud, ⟨hn, e1, e3, e2⟩, ⟨b1, b2, b3, b4, b5, b6⟩, ⟨c22, c23, c24, c25, c17⟩, h7, hM, h2, ⟨z, hz1, hz2⟩, hs⟩ := hI
  have e1 : c.1 = nI nn := e1
  have e2 : ∀ j, j < nn → c.2.1 j = W j ∧ c.2.2 j = O j := e2
  have e3 : f 3 = nI nn := e3
  have h2 : f 2 = g 5 := h2
  have hst : f 2 = 1 → 1 ≤ k ∧ Sz (k - 1) = nI c1 ∧ c1 ≤ 48 := hst
  have hM : MMq as k Sz Aw An := hM
  have en : n = nn := (nI_eq (by omega) (by omega)).mp (h3.symm.trans e3)
  subst en
  have ee := kn_eq hn e3 what y b v0
  unfold kn_D kn_R
  rcases hr with ⟨he, rfl, rfl⟩ | ⟨he, rfl, rfl⟩ | ⟨he, rfl, hv, rfl⟩
  · have he : kc_e c.1 what y b v0 = 1 := he
    rw [e1, ee] at he
    rw [he, if_neg (by decide), if_neg (by decide), if_neg (by decide)]
    exact ⟨rfl, fun q => absurd q (by decide), hI0.f0 (fun i hi => by rw [upd_ne _ _ (by omega), upd_ne _ _ (by omega)])⟩
  · have he : kc_e c.1 what y b v0 = 2 := he
    rw [e1, ee] at he
    rw [he, if_neg (by decide), if_neg (by decide), if_neg (by decide)]
    exact ⟨rfl, fun q => absurd q (by decide), hI0.f0 (fun i hi => by rw [upd_ne _ _ (by omega), upd_ne _ _ (by omega)])⟩
  · have he : kc_e c.1 what y b v0 = 0 := he
    have hv : v = kc_r as (nI k) (kc_d c d what y b v0) := hv
    rw [e1] at he
    have he2 := he
    rw [ee] at he2
    rw [if_pos he2, if_pos he2, if_pos he2]
    obtain ⟨w1, w2, w3⟩ := kn_words (d := d) (Cd := Cd) hn e1 (fun j hj => (e2 j hj).1) he
    have hfind := kn_find hM w1 w2 w3
    by_cases q2 : f 2 = 1
    · rw [if_pos q2, if_pos q2]
      refine ⟨rfl, fun _ => by rw [hv, hfind], ?_⟩
      obtain ⟨x1, x2, x3⟩ := hst q2
      have h5 : g 5 = 1 := h2.symm.trans q2
      show Inv ((g, w, c, kc_d c d what y b v0), k, as) _
      refine ⟨n, bud, ⟨hn, e1, e3, e2⟩, ⟨b1, b2, b3, b4, b5, b6⟩, ⟨c22, c23, c24, c25, c17⟩, h7, hM, h2, ⟨c1, x3, rfl⟩, Or.inr (Or.inl ⟨h5, x1, c1, x3, rfl, x2, fun j hj => ?_, ?_⟩)⟩
      · show pg_cp (fun i => Aw (48 * (k - 1) + i)) _ c1 j = Aw (48 * (k - 1) + j)
        unfold pg_cp; rw [if_pos hj]
      · rcases hs with ⟨s1, -⟩ | ⟨-, s2, cz, s3, s4, s5, s6, s7⟩ | ⟨-, s1⟩
        · exact absurd (s1.symm.trans h5) (by decide)
        · have ec : cz = c1 := (nI_eq (by omega) (by omega)).mp ((show nI cz = Sz (k - 1) from s5.symm).trans x2)
          subst ec
          have s6 : ∀ j, j < cz → Cd j = Aw (48 * (k - 1) + j) := s6
          have hcd : ∀ j, j < cz → pg_cp (fun i => Aw (48 * (k - 1) + i)) (kn_C W Cd n what y b v0) cz j = Cd j := fun j hj => by unfold pg_cp; rw [if_pos hj]; exact (s6 j hj).symm
          rcases s7 with ⟨t1, t2, t3, t4, t5⟩ | ⟨t1, t2, t3, t4⟩
          · exact Or.inl ⟨t1, t2, t3, t4, fun j hj => (hcd j (by omega)).trans (t5 j hj)⟩
          · exact Or.inr ⟨t1, t2, (t3.cd hcd).c (fun i hi => by show upd (upd (upd f 0 0) 6 _) 6 _ i = f i; rw [upd_ne _ _ (by omega), upd_ne _ _ (by omega), upd_ne _ _ (by omega)]), t4⟩
        · exact absurd h5 s1
    · rw [if_neg q2, if_neg q2]
      refine ⟨rfl, fun _ => by rw [hv, hfind], ?_⟩
      have n5 : ¬ g 5 = 1 := fun q => q2 (h2.trans q)
      show Inv ((g, w, c, kc_d c d what y b v0), k, as) _
      refine ⟨n, bud, ⟨hn, e1, e3, e2⟩, ⟨b1, b2, b3, b4, b5, b6⟩, ⟨c22, c23, c24, c25, c17⟩, h7, hM, h2, ⟨_, w1, rfl⟩, ?_⟩
      rcases hs with s | ⟨s1, -⟩ | s
      · exact Or.inl s
      · exact absurd s1 n5
      · exact Or.inr (Or.inr s)
