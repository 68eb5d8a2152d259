-- PURE, 1: bits and bytes, weights, the words of a change, looking up (the first rows are kit/laws/BITS.to-paste's family 'Int32 by its bits')
def bt (x : Int32) (i : Nat) : Bool := x.toBitVec.getLsbD i
theorem b_ext {x y : Int32} (h : ∀ i, i < 32 → bt x i = bt y i) : x = y := Int32.toBitVec_inj.mp (BitVec.eq_of_getLsbD_eq (fun i hi => h i hi))
theorem b_or (x y : Int32) (i : Nat) : bt (x ||| y) i = (bt x i || bt y i) := by unfold bt; rw [Int32.toBitVec_or, BitVec.getLsbD_or]
theorem b_and (x y : Int32) (i : Nat) : bt (x &&& y) i = (bt x i && bt y i) := by unfold bt; rw [Int32.toBitVec_and, BitVec.getLsbD_and]
theorem b_xor (x y : Int32) (i : Nat) : bt (x ^^^ y) i = (bt x i ^^ bt y i) := by unfold bt; rw [Int32.toBitVec_xor, BitVec.getLsbD_xor]
theorem b_big {x : Int32} {i : Nat} (h : 32 ≤ i) : bt x i = false := BitVec.getLsbD_of_ge _ _ h
theorem b_255 (i : Nat) : bt 255 i = decide (i < 8) := by
  rcases Nat.lt_or_ge i 32 with h | h
  · exact (by decide +kernel : ∀ i, i < 32 → bt 255 i = decide (i < 8)) i h
  · rw [b_big h, decide_eq_false (by omega)]
theorem b_m1 : ∀ i, i < 32 → bt (-1) i = true := by decide +kernel
theorem b_0 (i : Nat) : bt 0 i = false := BitVec.getLsbD_zero
theorem s_l : ∀ n, n < 32 → ((nI n &&& 31).toBitVec.smod 32).toNat = n := by decide +kernel
theorem s_u : ∀ n, n < 32 → (((nI n).toUInt32 &&& Int32.toUInt32 31).toBitVec % 32).toNat = n := by decide +kernel
theorem b_shl (n : Nat) (hn : n < 32) (x : Int32) {i : Nat} (hi : i < 32) : bt (x <<< (nI n &&& 31)) i = (decide (n ≤ i) && bt x (i - n)) := by
  unfold bt
  rw [Int32.toBitVec_shiftLeft]
  show (x.toBitVec <<< ((nI n &&& 31).toBitVec.smod 32).toNat).getLsbD i = _
  rw [s_l n hn, BitVec.getLsbD_shiftLeft]
  rcases Nat.lt_or_ge i n with h | h
  · simp [h, Nat.not_le.mpr h]
  · simp [hi, h, Nat.not_lt.mpr h]
theorem b_ushr (n : Nat) (hn : n < 32) (x : Int32) (i : Nat) : bt ((x.toUInt32 >>> ((nI n).toUInt32 &&& Int32.toUInt32 31)).toInt32) i = bt x (n + i) := by
  show (x.toUInt32 >>> ((nI n).toUInt32 &&& Int32.toUInt32 31)).toBitVec.getLsbD i = x.toUInt32.toBitVec.getLsbD (n + i)
  rw [UInt32.toBitVec_shiftRight]
  show (x.toUInt32.toBitVec >>> (((nI n).toUInt32 &&& Int32.toUInt32 31).toBitVec % 32).toNat).getLsbD i = _
  rw [s_u n hn, BitVec.getLsbD_ushiftRight]
theorem ps_sh : ∀ b, b < 4 → pg_shift (nI b) = nI (24 - 8 * b) ∧ md_sh (nI b) = nI (24 - 8 * b) := by decide +kernel
def byI (x : Int32) (b : Nat) : Int32 := (Int32.toUInt32 x >>> (Int32.toUInt32 (nI (24 - 8 * b)) &&& Int32.toUInt32 31)).toInt32 &&& 255
theorem byI_bt (x : Int32) {b : Nat} (hb : b < 4) (i : Nat) : bt (byI x b) i = (bt x (24 - 8 * b + i) && decide (i < 8)) := by
  rw [byI, b_and, b_ushr _ (by omega), b_255]
def byN (x : Int32) (b : Nat) : Nat := (byI x b).toBitVec.toNat
theorem nI_self (x : Int32) : x = nI x.toBitVec.toNat := Int32.toBitVec_inj.mp (by show _ = BitVec.ofNat 32 _; simp)
theorem byN_lt (x : Int32) (b : Nat) : byN x b < 256 := by
  unfold byN byI
  rw [Int32.toBitVec_and, BitVec.toNat_and, show (255 : Int32).toBitVec.toNat = 255 by decide]
  exact Nat.lt_of_le_of_lt Nat.and_le_right (by decide)
theorem byI_N (x : Int32) (b : Nat) : byI x b = nI (byN x b) := nI_self _
theorem n255 : ∀ v, v < 256 → nI v &&& 255 = nI v := by decide +kernel
theorem n255_bt {v i : Nat} (hv : v < 256) (hi : 8 ≤ i) : bt (nI v) i = false := by
  rw [← n255 v hv, b_and, b_255, decide_eq_false (by omega), Bool.and_false]
def sbI (x : Int32) (b : Nat) (v : Int32) : Int32 := (x &&& ((255 <<< (nI (24 - 8 * b) &&& 31)) ^^^ (-1))) ||| (v <<< (nI (24 - 8 * b) &&& 31))
theorem sb_pg (x : Int32) {b v : Nat} (hb : b < 4) (hv : v < 256) : pg_sbV x (nI b) (nI v) = sbI x b (nI v) := by
  unfold pg_sbV sbI; rw [(ps_sh b hb).1, n255 v hv]
theorem sb_md (x v : Int32) {b : Nat} (hb : b < 4) : md_wbV x (nI b) v = sbI x b v := by
  unfold md_wbV sbI; rw [(ps_sh b hb).2]
theorem sbI_by (x : Int32) {b b' v : Nat} (hb : b < 4) (hb' : b' < 4) (hv : v < 256) : byI (sbI x b (nI v)) b' = if b' = b then nI v else byI x b' := by
  refine b_ext (fun i hi => ?_)
  rw [byI_bt _ hb']
  by_cases h8 : i < 8
  · rw [decide_eq_true h8, Bool.and_true, sbI, b_or, b_and, b_xor, b_shl _ (by omega) _ (by omega), b_shl _ (by omega) _ (by omega), b_m1 _ (by omega), b_255]
    by_cases e : b' = b
    · subst e
      rw [if_pos rfl, decide_eq_true (show 24 - 8 * b' ≤ 24 - 8 * b' + i by omega), Nat.add_sub_cancel_left, decide_eq_true h8]
      simp
    · rw [if_neg e, byI_bt _ hb', decide_eq_true h8, Bool.and_true]
      rcases Nat.lt_or_gt_of_ne e with q | q
      · rw [decide_eq_true (show 24 - 8 * b ≤ 24 - 8 * b' + i by omega), decide_eq_false (show ¬ (24 - 8 * b' + i - (24 - 8 * b) < 8) by omega), n255_bt hv (by omega)]
        simp
      · rw [decide_eq_false (show ¬ 24 - 8 * b ≤ 24 - 8 * b' + i by omega)]
        simp
  · rw [decide_eq_false h8, Bool.and_false]
    by_cases e : b' = b
    · rw [if_pos e]; exact (n255_bt hv (by omega)).symm
    · rw [if_neg e, byI_bt _ hb', decide_eq_false h8, Bool.and_false]
theorem nI_bvN {v : Nat} (h : v < 2 ^ 32) : (nI v).toBitVec.toNat = v := by
  show (BitVec.ofNat 32 v).toNat = v
  rw [BitVec.toNat_ofNat, Nat.mod_eq_of_lt h]
theorem sbN_by (x : Int32) {b b' v : Nat} (hb : b < 4) (hb' : b' < 4) (hv : v < 256) : byN (sbI x b (nI v)) b' = if b' = b then v else byN x b' := by
  unfold byN
  rw [sbI_by x hb hb' hv]
  by_cases e : b' = b
  · rw [if_pos e, if_pos e]; exact nI_bvN (by omega)
  · rw [if_neg e, if_neg e]
def ps_ww (x : Int32) : Nat := byN x 0 + byN x 1 + byN x 2 + byN x 3
theorem ww_lt {x : Int32} {b v : Nat} (hb : b < 4) (hv : v < byN x b) : ps_ww (sbI x b (nI v)) < ps_ww x := by
  have hv2 : v < 256 := Nat.lt_trans hv (byN_lt _ _)
  have e0 := sbN_by x (b' := 0) hb (by omega) hv2
  have e1 := sbN_by x (b' := 1) hb (by omega) hv2
  have e2 := sbN_by x (b' := 2) hb (by omega) hv2
  have e3 := sbN_by x (b' := 3) hb (by omega) hv2
  unfold ps_ww
  rw [e0, e1, e2, e3]
  rcases (show b = 0 ∨ b = 1 ∨ b = 2 ∨ b = 3 by omega) with rfl | rfl | rfl | rfl <;> simp <;> omega
/-- the weight of the first n words -/
def ps_wt (W : Nat → Int32) : Nat → Nat
  | 0 => 0
  | n + 1 => ps_wt W n + (1 + ps_ww (W n))
theorem wt_congr {W V : Nat → Int32} : ∀ {n : Nat}, (∀ j, j < n → W j = V j) → ps_wt W n = ps_wt V n
  | 0, _ => rfl
  | n + 1, h => by rw [ps_wt, ps_wt, wt_congr (fun j hj => h j (by omega)), h n (by omega)]
theorem upd_eq (f : Nat → Int32) (k : Nat) (x : Int32) : upd f k x k = x := by unfold upd; rw [if_pos rfl]
theorem upd_ne (f : Nat → Int32) {k j : Nat} (x : Int32) (h : j ≠ k) : upd f k x j = f j := by unfold upd; rw [if_neg h]
theorem wt_upd {W : Nat → Int32} {k : Nat} {x : Int32} : ∀ {n : Nat}, k < n → ps_ww x < ps_ww (W k) → ps_wt (upd W k x) n < ps_wt W n
  | 0, h, _ => absurd h (by omega)
  | n + 1, h, hx => by
    rw [ps_wt, ps_wt]
    by_cases e : k = n
    · subst e
      have e1 : ps_wt (upd W k x) k = ps_wt W k := wt_congr (fun j hj => upd_ne _ _ (by omega))
      rw [e1, upd_eq]; omega
    · have h1 := wt_upd (W := W) (x := x) (n := n) (k := k) (by omega) hx
      rw [upd_ne W x (show n ≠ k by omega)]; omega
/-- m words left out from pl on -/
def ps_lo (W : Nat → Int32) (pl m : Nat) : Nat → Int32 := fun j => if j < pl then W j else W (j + m)
theorem lo_a (W : Nat → Int32) {pl m j : Nat} (h : j < pl) : ps_lo W pl m j = W j := by unfold ps_lo; rw [if_pos h]
theorem lo_b (W : Nat → Int32) {pl m j : Nat} (h : ¬ j < pl) : ps_lo W pl m j = W (j + m) := by unfold ps_lo; rw [if_neg h]
theorem wt_ge (W : Nat → Int32) (n : Nat) : ∀ m, ps_wt W n + m ≤ ps_wt W (n + m)
  | 0 => Nat.le_refl _
  | m + 1 => by
    have := wt_ge W n m
    show _ ≤ ps_wt W (n + m) + (1 + ps_ww (W (n + m)))
    omega
theorem wt_lo (W : Nat → Int32) (pl m : Nat) : ∀ q, ps_wt (ps_lo W pl m) (pl + q) + m ≤ ps_wt W (pl + m + q)
  | 0 => by
    have e : ps_wt (ps_lo W pl m) pl = ps_wt W pl := wt_congr (fun j hj => lo_a W hj)
    show ps_wt (ps_lo W pl m) pl + m ≤ ps_wt W (pl + m)
    rw [e]; exact wt_ge W pl m
  | q + 1 => by
    have := wt_lo W pl m q
    have e : ps_lo W pl m (pl + q) = W (pl + m + q) := by rw [lo_b W (by omega)]; congr 1; omega
    show ps_wt (ps_lo W pl m) (pl + q) + (1 + ps_ww (ps_lo W pl m (pl + q))) + m ≤ ps_wt W (pl + m + q) + (1 + ps_ww (W (pl + m + q)))
    rw [e]; omega
/-- the weight falls where a piece of p words at pl is left out -/
theorem wt_out (W : Nat → Int32) {n pl p : Nat} (h : pl < n) (hp : 1 ≤ p) : ps_wt (ps_lo W pl p) (pl + (n - pl - p)) < ps_wt W n := by
  by_cases q : n - pl - p = 0
  · rw [q, Nat.add_zero]
    have e : ps_wt (ps_lo W pl p) pl = ps_wt W pl := wt_congr (fun j hj => lo_a W hj)
    have := wt_ge W pl (n - pl)
    rw [show pl + (n - pl) = n by omega] at this
    omega
  · have := wt_lo W pl p (n - pl - p)
    rw [show pl + p + (n - pl - p) = n by omega] at this
    omega
-- the class: leaving out
theorem ps_has {n k : Nat} (hn : n ≤ 48) (hk : k < 2 ^ 31) : pg_hasI (nI n) (nI k) = 0 ↔ n ≤ k := by
  unfold pg_hasI
  have a0 : ¬ nI k < 0 := nI_pos hk
  have a1 : nI n ≤ nI k ↔ n ≤ k := nI_leI (by omega) hk
  have a2 : (48 : Int32) ≤ nI k ↔ 48 ≤ k := nI_leI (a := 48) (by omega) hk
  by_cases h : n ≤ k
  · rw [if_neg (fun q => q.2.1 (a1.mpr h))]
    exact ⟨fun _ => h, fun _ => rfl⟩
  · rw [if_pos ⟨a0, fun q => h (a1.mp q), fun q => by have := a2.mp q; omega⟩]
    exact ⟨fun q => absurd q (by decide), fun q => absurd q h⟩
theorem ps_has_n (n k : Int32) (h : k < 0) : pg_hasI n k = 0 := by unfold pg_hasI; rw [if_neg (fun q => q.1 h)]
theorem ps_lim {n : Nat} (hn : n ≤ 48) : pg_lim (nI n) = n := by unfold pg_lim; rw [nI_clamp (by omega)]; omega
theorem ps_cpN {n : Nat} (hn : n ≤ 48) : pg_cpN (nI n) = nI n := by
  unfold pg_cpN
  rw [if_neg (fun q => by have := (nI_ltI (a := 48) (by omega) (by omega)).mp q; omega)]
theorem ps_loC (ws os : Nat → Int32) {a p : Nat} (hp : p < 2 ^ 30) : ∀ d, a + d < 2 ^ 30 → (pg_lo ws os a (nI p) d).1 = a + (d - p) ∧ (∀ j, j < a + (d - p) → (pg_lo ws os a (nI p) d).2.1 j = ps_lo ws a p j ∧ (pg_lo ws os a (nI p) d).2.2 j = ps_lo os a p j) ∧ (∀ j, a + (d - p) ≤ j → (pg_lo ws os a (nI p) d).2.1 j = ws j ∧ (pg_lo ws os a (nI p) d).2.2 j = os j)
  | 0, _ => ⟨by show a = _; omega, fun j hj => ⟨(lo_a ws (by omega)).symm, (lo_a os (by omega)).symm⟩, fun j _ => ⟨rfl, rfl⟩⟩
  | d + 1, hd => by
    obtain ⟨i1, i2, i3⟩ := ps_loC ws os (a := a) hp d (by omega)
    have ec : nI (a + d) - nI a = nI d := by rw [pk_sub (by omega), Nat.add_sub_cancel_left]
    by_cases q : d < p
    · rw [pg_lo_s1 ws os (by rw [ec]; exact nI_lt q (by omega))]
      rw [show d + 1 - p = d - p by omega]
      exact ⟨i1, i2, i3⟩
    · rw [pg_lo_s2 ws os (by rw [ec]; exact nI_nlt (by omega) (by omega))]
      rw [i1]
      refine ⟨by show _ + 1 = _; omega, fun j hj => ?_, fun j hj => ?_⟩
      · show upd _ _ _ j = _ ∧ upd _ _ _ j = _
        by_cases e : j = a + (d - p)
        · subst e
          rw [upd_eq, upd_eq, (i3 (a + d) (by omega)).1, (i3 (a + d) (by omega)).2, lo_b ws (by omega), lo_b os (by omega), show a + (d - p) + p = a + d by omega]
          exact ⟨rfl, rfl⟩
        · rw [upd_ne _ _ e, upd_ne _ _ e]
          exact i2 j (by omega)
      · show upd _ _ _ j = _ ∧ upd _ _ _ j = _
        rw [upd_ne _ _ (by omega), upd_ne _ _ (by omega)]
        exact i3 j (by omega)
theorem ps_chL (ws os : Nat → Int32) {n pl p : Nat} (hn : n ≤ 48) (hpl : pl < n) (hp1 : 1 ≤ p) (hp : p ≤ 48) : pg_loN ws os (nI n) (nI pl) (nI p) = nI (pl + (n - pl - p)) ∧ ∀ j, j < pl + (n - pl - p) → pg_loW ws os (nI n) (nI pl) (nI p) j = ps_lo ws pl p j ∧ pg_loO ws os (nI n) (nI pl) (nI p) j = ps_lo os pl p j := by
  have h0 : ¬ pg_hasI (nI n) (nI pl) = 0 := fun q => by have := (ps_has hn (by omega)).mp q; omega
  have h1 : (1 : Int32) ≤ nI p := nI_le (a := 1) hp1 (by omega)
  unfold pg_loN pg_loW pg_loO
  rw [if_neg h0, if_neg (fun q => q h1), if_neg h0, if_neg (fun q => q h1), if_neg h0, if_neg (fun q => q h1)]
  unfold pg_loR
  rw [ps_lim hn, nI_clamp (by omega)]
  obtain ⟨i1, i2, -⟩ := ps_loC ws os (a := pl) (p := p) (by omega) (n - pl) (by omega)
  exact ⟨by rw [i1], i2⟩
-- the reference: without
theorem ps_wo (W C : Nat → Int32) {pl p : Nat} (h : pl + p < 2 ^ 30) : ∀ k, k < 2 ^ 30 → (md_wo W C (nI pl) (nI p) k).1 = (if k ≤ pl then k else pl + (k - pl - p)) ∧ ∀ j, j < (if k ≤ pl then k else pl + (k - pl - p)) → (md_wo W C (nI pl) (nI p) k).2 j = ps_lo W pl p j
  | 0, _ => ⟨by rw [if_pos (by omega)]; rfl, fun j hj => by rw [if_pos (by omega)] at hj; omega⟩
  | k + 1, hk => by
    obtain ⟨i1, i2⟩ := ps_wo W C h k (by omega)
    by_cases q : k < pl
    · rw [md_wo_a (nI_lt q (by omega)), i1, if_pos (by omega), if_pos (by omega)]
      rw [if_pos (by omega)] at i2
      refine ⟨rfl, fun j hj => ?_⟩
      show upd _ _ _ j = _
      by_cases e : j = k
      · subst e; rw [upd_eq, lo_a W q]
      · rw [upd_ne _ _ e]; exact i2 j (by omega)
    · by_cases q2 : k < pl + p
      · rw [md_wo_b (nI_nlt (by omega) (by omega)) (by rw [nI_add]; exact nI_lt q2 (by omega)), if_neg (by omega)]
        have e : (if k ≤ pl then k else pl + (k - pl - p)) = pl + (k + 1 - pl - p) := by
          by_cases e : k ≤ pl
          · rw [if_pos e]; omega
          · rw [if_neg e]; omega
        rw [e] at i1 i2
        exact ⟨i1, i2⟩
      · rw [md_wo_c (nI_nlt (by omega) (by omega)) (by rw [nI_add]; exact nI_nlt (by omega) (by omega)), i1]
        have e : (if k ≤ pl then k else pl + (k - pl - p)) = pl + (k - pl - p) := by
          by_cases e : k ≤ pl
          · rw [if_pos e]; omega
          · rw [if_neg e]
        rw [e] at i2 ⊢
        rw [if_neg (by omega)]
        refine ⟨by show _ + 1 = _; omega, fun j hj => ?_⟩
        show upd _ _ _ j = _
        by_cases e2 : j = pl + (k - pl - p)
        · rw [e2, upd_eq, lo_b W (by omega)]; congr 1; omega
        · rw [upd_ne _ _ e2]; exact i2 j (by omega)
theorem ps_woL (W C : Nat → Int32) {n pl p : Nat} (hn : n ≤ 48) (hpl : pl < n) (hp : p ≤ 48) : (md_wo W C (nI pl) (nI p) n).1 = pl + (n - pl - p) ∧ ∀ j, j < pl + (n - pl - p) → (md_wo W C (nI pl) (nI p) n).2 j = ps_lo W pl p j := by
  have := ps_wo W C (pl := pl) (p := p) (by omega) n (by omega)
  rw [if_neg (by omega)] at this
  exact this
theorem ps_woB (W C : Nat → Int32) {n : Nat} (hn : n ≤ 48) : (md_wo W C (nI n) 0 n).1 = n ∧ ∀ j, j < n → (md_wo W C (nI n) 0 n).2 j = W j := by
  have := ps_wo W C (pl := n) (p := 0) (by omega) n (by omega)
  rw [if_pos (by omega)] at this
  exact ⟨this.1, fun j hj => (this.2 j hj).trans (lo_a W hj)⟩
-- marks, and what was asked before
theorem ps_mk {ws vs : Nat → Int32} (n : Int32) : ∀ {i : Nat}, (∀ j, j < i → ws j = vs j) → pg_mk ws n i = pg_mk vs n i
  | 0, _ => rfl
  | i + 1, h => by rw [pg_mk, pg_mk, ps_mk n (fun j hj => h j (by omega)), h i (by omega)]
/-- an ask of the class, and the reference's -/
def MRq (r : AR) (z : Int32) (aw : Nat → Int32) (an : Int32) : Prop := ∃ c : Nat, c ≤ 48 ∧ r.2.2.2.1 = nI c ∧ z = nI c ∧ (∀ j, j < c → r.2.2.2.2.1 j = aw j) ∧ r.2.2.1 = an ∧ r.2.1 = pg_mark r.2.2.2.2.1 r.2.2.2.1
def MMq (as : List AR) (k : Nat) (Sz Aw An : Nat → Int32) : Prop := k ≤ as.length ∧ as.length ≤ 600 ∧ ∀ i, i < k → ∃ r, as[i]? = some r ∧ MRq r (Sz i) (fun j => Aw (48 * i + j)) (An i)
theorem ps_hit {r : AR} {z : Int32} {aw : Nat → Int32} {an : Int32} {c : Nat} {vs C : Nat → Int32} (h : MRq r z aw an) (hc : c ≤ 48) (hv : ∀ j, j < c → vs j = C j) : mm_hit (pg_mark vs (nI c)) (nI c) vs r = true ↔ (z = nI c ∧ ∀ j, j < c → aw j = C j) := by
  obtain ⟨d, hd, e1, e2, hw, -, hm⟩ := h
  unfold mm_hit ak_is pg_same
  rw [e1, ps_lim hd]
  rw [e1] at hm
  constructor
  · intro q
    have q := of_decide_eq_true q
    by_cases m : r.2.1 = pg_mark vs (nI c)
    · rw [if_pos m] at q
      by_cases s : nI d = nI c ∧ ∀ j, j < d → r.2.2.2.2.1 j = vs j
      · have ed : d = c := (nI_eq (by omega) (by omega)).mp s.1
        subst ed
        exact ⟨e2, fun j hj => by rw [← hw j hj, s.2 j hj, hv j hj]⟩
      · rw [if_neg s, if_pos rfl] at q; exact absurd rfl q
    · rw [if_neg m] at q; exact absurd rfl q
  · rintro ⟨q1, q2⟩
    have ed : d = c := (nI_eq (by omega) (by omega)).mp (e2.symm.trans q1)
    subst ed
    have s : ∀ j, j < d → r.2.2.2.2.1 j = vs j := fun j hj => by rw [hw j hj, q2 j hj, hv j hj]
    have m : r.2.1 = pg_mark vs (nI d) := by
      rw [hm]; unfold pg_mark; rw [ps_lim hd]; exact ps_mk _ s
    refine decide_eq_true ?_
    have hs : (if nI d = nI d ∧ ∀ j, j < d → r.2.2.2.2.1 j = vs j then (1 : Int32) else 0) = 1 := if_pos ⟨rfl, s⟩
    rw [if_pos m, hs]
    decide
theorem ps_mlim {k : Nat} (hk : k ≤ 600) : mm_lim (nI k) = k := by unfold mm_lim; rw [nI_clamp (by omega)]; omega
theorem ps_fd_n {as : List AR} {k c : Nat} {Sz Aw An vs C : Nat → Int32} (h : MMq as k Sz Aw An) (hc : c ≤ 48) (hv : ∀ j, j < c → vs j = C j) (q : md_fd Sz Aw C c k = none) : mm_find as (nI k) (nI c) vs = none := by
  obtain ⟨h1, h2, h3⟩ := h
  unfold mm_find
  rw [ps_mlim (by omega)]
  refine fd_none _ (fun j x hx => ?_)
  rw [List.getElem?_take] at hx
  by_cases hj : j < k
  · rw [if_pos hj] at hx
    obtain ⟨r, hr, hm⟩ := h3 j hj
    cases Option.some.inj (hr.symm.trans hx)
    have hn := List.find?_eq_none.mp q j (List.mem_range.mpr hj)
    cases hq : mm_hit (pg_mark vs (nI c)) (nI c) vs x with
    | false => rfl
    | true => exact absurd (decide_eq_true ((ps_hit hm hc hv).mp hq)) hn
  · rw [if_neg hj] at hx; cases hx
theorem ps_fd_s {as : List AR} {k c i : Nat} {Sz Aw An vs C : Nat → Int32} (h : MMq as k Sz Aw An) (hc : c ≤ 48) (hv : ∀ j, j < c → vs j = C j) (q : md_fd Sz Aw C c k = some i) : i < k ∧ (Sz i = nI c ∧ ∀ j, j < c → Aw (48 * i + j) = C j) ∧ ∃ r, as[i]? = some r ∧ mm_find as (nI k) (nI c) vs = some r ∧ r.2.2.1 = An i := by
  obtain ⟨h1, h2, h3⟩ := h
  have hi := md_fd_lt q
  obtain ⟨p1, -, p3⟩ := List.find?_range_eq_some.mp q
  obtain ⟨r, hr, hm⟩ := h3 i hi
  refine ⟨hi, of_decide_eq_true p1, r, hr, ?_, ?_⟩
  · unfold mm_find
    rw [ps_mlim (by omega)]
    refine fd_some _ i (by rw [List.getElem?_take, if_pos hi]; exact hr) ((ps_hit hm hc hv).mpr (of_decide_eq_true p1)) (fun j hj x hx => ?_)
    rw [List.getElem?_take, if_pos (by omega)] at hx
    obtain ⟨r', hr', hm'⟩ := h3 j (by omega)
    cases Option.some.inj (hr'.symm.trans hx)
    cases hq : mm_hit (pg_mark vs (nI c)) (nI c) vs x with
    | false => rfl
    | true =>
      have := decide_eq_true ((ps_hit hm' hc hv).mp hq)
      have p4 := p3 j hj
      unfold md_isB at p4
      rw [this] at p4
      exact absurd p4 (by decide)
  · obtain ⟨_, -, -, -, -, e, -⟩ := hm
    exact e
