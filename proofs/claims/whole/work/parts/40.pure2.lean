-- PURE, 2: the two walks side by side; finding the next change
def LVq (w f : Nat → Int32) (p pl : Nat) : Prop := w 0 = 0 ∧ f 9 = 0 ∧ w 1 = nI p ∧ f 12 = nI p ∧ w 2 = nI pl ∧ f 13 = nI pl ∧ (w 3 = 0 ↔ f 10 = 0) ∧ 1 ≤ p ∧ p ≤ 48 ∧ pl ≤ 96
def LPq (n : Nat) (w f : Nat → Int32) (wp bp : Nat) : Prop := f 9 = 1 ∧ w 4 = nI wp ∧ f 14 = nI wp ∧ wp ≤ n ∧ w 5 = nI bp ∧ f 15 = nI bp ∧ bp < 4 ∧ (w 6 = 0 ↔ f 11 = 0) ∧ (¬ w 6 = 0 → 0 < n)
def LWq (n : Nat) (w f : Nat → Int32) (wp bp h : Nat) : Prop := w 0 = nI (h + 1) ∧ f 16 = nI h ∧ h < 3 ∧ LPq n w f wp bp
def WRq (n : Nat) (w f : Nat → Int32) : Prop := w 7 = f 26 ∧ ((∃ p pl, LVq w f p pl) ∨ (∃ wp bp h, LWq n w f wp bp h))
/-- how far the walk is from its end -/
def rk (n : Nat) (w : Nat → Int32) : Nat := if w 0 = 0 then 49 * (2 * (w 1).toNatClampNeg + (if w 3 = 0 then 0 else 1)) + (n - (w 2).toNatClampNeg) + 600 else 12 * (n - (w 4).toNatClampNeg) + 12 - 3 * (w 5).toNatClampNeg - ((w 0).toNatClampNeg - 1) + (if w 6 = 0 then 0 else 800)
theorem rk_L {w f : Nat → Int32} {n p pl : Nat} (h : LVq w f p pl) : rk n w = 49 * (2 * p + (if w 3 = 0 then 0 else 1)) + (n - pl) + 600 := by
  obtain ⟨h0, -, h1, -, h2, -, -, -, hp, hpl⟩ := h
  unfold rk
  rw [if_pos h0, h1, h2, nI_clamp (by omega), nI_clamp (by omega)]
theorem lw_ne {x : Int32} {h : Nat} (hx : x = nI (h + 1)) (hh : h < 3) : ¬ x = 0 := by rw [hx]; exact nI_ne0 (by omega) (by omega)
theorem rk_W {w f : Nat → Int32} {n wp bp h : Nat} (hn : n ≤ 48) (q : LWq n w f wp bp h) : rk n w = 12 * (n - wp) + 12 - 3 * bp - h + (if w 6 = 0 then 0 else 800) := by
  obtain ⟨h0, -, hh, -, h4, -, hle, h5, -, hb, -, -⟩ := q
  unfold rk
  rw [if_neg (lw_ne h0 hh), h4, h5, h0, nI_clamp (by omega), nI_clamp (by omega), nI_clamp (by omega), Nat.add_sub_cancel]
theorem rk_lt {n : Nat} {w f : Nat → Int32} (hn : n ≤ 48) (h : WRq n w f) : rk n w < 6000 := by
  rcases h.2 with ⟨p, pl, q⟩ | ⟨wp, bp, x, q⟩
  · rw [rk_L q]
    obtain ⟨-, -, -, -, -, -, -, -, hp, -⟩ := q
    by_cases e : w 3 = 0
    · rw [if_pos e]; omega
    · rw [if_neg e]; omega
  · rw [rk_W hn q]
    by_cases e : w 6 = 0
    · rw [if_pos e]; omega
    · rw [if_neg e]; omega
-- bytes of a word
theorem cb_pg {ws W : Nat → Int32} {n k b : Nat} (hn : n ≤ 48) (hk : k < n) (hb : b < 4) (hw : ws k = W k) : pg_byte ws (nI n) (nI k) (nI b) = nI (byN (W k) b) := by
  unfold pg_byte pg_word
  rw [if_neg (fun q => by have := (ps_has hn (by omega)).mp q; omega), nI_clamp (by omega), (ps_sh b hb).1, hw]
  exact byI_N (W k) b
theorem cb_md {W : Nat → Int32} {k b : Nat} (hk : k < 2 ^ 31) (hb : b < 4) : md_byte W (nI k) (nI b) = nI (byN (W k) b) := by
  unfold md_byte
  rw [nI_clamp hk, (ps_sh b hb).2]
  exact byI_N (W k) b
def canN (h v : Nat) : Prop := (h = 0 ∧ 0 < v) ∨ (h = 1 ∧ 0 < v / 2) ∨ (h = 2 ∧ 0 < v - 1)
def lvN (h v : Nat) : Nat := if h = 0 then 0 else if h = 1 then v / 2 else v - 1
theorem lvN_lt {h v : Nat} (q : canN h v) : lvN h v < v := by
  unfold lvN
  rcases q with ⟨rfl, q⟩ | ⟨rfl, q⟩ | ⟨rfl, q⟩
  · simpa using q
  · simp; omega
  · simp; omega
theorem nI_d2 {v : Nat} (hv : v < 256) : nI v / 2 = nI (v / 2) := pk_div (d := 2) (by omega) (by omega) (by omega)
theorem nI_le0 {v : Nat} (hv : v < 2 ^ 31) : nI v ≤ 0 ↔ v = 0 := by
  have := nI_leI (a := v) (b := 0) hv (by omega)
  exact this.trans (by omega)
theorem cl_can {w : Nat → Int32} {h v : Nat} (h0 : w 0 = nI (h + 1)) (hh : h < 3) (hv : v < 256) : wk_can w (nI v) = 0 ↔ ¬ canN h v := by
  unfold wk_can wk_lv canN
  rcases (show h = 0 ∨ h = 1 ∨ h = 2 by omega) with rfl | rfl | rfl
  · have e : w 0 = 1 := h0
    rw [if_pos e]
    by_cases q : nI v ≤ 0
    · rw [if_pos q]; have := (nI_le0 (by omega)).mp q; exact ⟨fun _ => by omega, fun _ => rfl⟩
    · rw [if_neg q]; have : ¬ v = 0 := fun z => q ((nI_le0 (by omega)).mpr z); exact ⟨fun z => absurd z (by decide), fun z => by omega⟩
  · have e : w 0 = 2 := h0
    have e1 : ¬ w 0 = 1 := by rw [e]; decide
    rw [if_neg e1, if_neg e1, if_pos e, nI_d2 hv]
    by_cases q : nI (v / 2) ≤ 0
    · rw [if_pos q]; have := (nI_le0 (by omega)).mp q; exact ⟨fun _ => by omega, fun _ => rfl⟩
    · rw [if_neg q]; have : ¬ v / 2 = 0 := fun z => q ((nI_le0 (by omega)).mpr z); exact ⟨fun z => absurd z (by decide), fun z => by omega⟩
  · have e : w 0 = 3 := h0
    have e1 : ¬ w 0 = 1 := by rw [e]; decide
    have e2 : ¬ w 0 = 2 := by rw [e]; decide
    rw [if_neg e1, if_neg e1, if_neg e2]
    cases v with
    | zero => exact ⟨fun _ => by omega, fun _ => by decide⟩
    | succ v =>
      rw [nI_pred]
      by_cases q : nI v ≤ 0
      · rw [if_pos q]; have := (nI_le0 (by omega)).mp q; exact ⟨fun _ => by omega, fun _ => rfl⟩
      · rw [if_neg q]; have : ¬ v = 0 := fun z => q ((nI_le0 (by omega)).mpr z); exact ⟨fun z => absurd z (by decide), fun z => by omega⟩
theorem cl_lv {w : Nat → Int32} {h v : Nat} (h0 : w 0 = nI (h + 1)) (hv : v < 256) (q : canN h v) : wk_lv w (nI v) = nI (lvN h v) := by
  unfold wk_lv lvN
  rcases q with ⟨rfl, q⟩ | ⟨rfl, q⟩ | ⟨rfl, q⟩
  · have e : w 0 = 1 := h0
    rw [if_pos e]; rfl
  · have e : w 0 = 2 := h0
    have e1 : ¬ w 0 = 1 := by rw [e]; decide
    rw [if_neg e1, if_pos e, nI_d2 hv]; rfl
  · have e : w 0 = 3 := h0
    have e1 : ¬ w 0 = 1 := by rw [e]; decide
    have e2 : ¬ w 0 = 2 := by rw [e]; decide
    rw [if_neg e1, if_neg e2]
    obtain ⟨u, rfl⟩ : ∃ u, v = u + 1 := ⟨v - 1, by omega⟩
    rw [nI_pred]; rfl
theorem md_to_c {f W : Nat → Int32} {h v k b : Nat} (h16 : f 16 = nI h) (hh : h < 3) (h14 : f 14 = nI k) (h15 : f 15 = nI b) (hk : k < 2 ^ 31) (hb : b < 4) (ev : byN (W k) b = v) : (canN h v → md_to f W = nI (lvN h v)) ∧ (¬ canN h v → md_to f W = (-1)) := by
  have hv : v < 256 := by rw [← ev]; exact byN_lt _ _
  unfold md_to md_to0 canN lvN
  rw [h14, h15, cb_md hk hb, ev]
  rcases (show h = 0 ∨ h = 1 ∨ h = 2 by omega) with rfl | rfl | rfl
  · have e : f 16 = 0 := h16
    rw [if_pos e, if_pos e]
    by_cases q : nI v = 0
    · rw [if_pos q]
      have : v = 0 := (nI_eq (by omega) (by omega)).mp q
      exact ⟨fun z => by omega, fun _ => rfl⟩
    · rw [if_neg q]
      have : ¬ v = 0 := fun z => q (by rw [z]; rfl)
      exact ⟨fun _ => rfl, fun z => by omega⟩
  · have e : f 16 = 1 := h16
    have e0 : ¬ f 16 = 0 := by rw [e]; decide
    rw [if_neg e0, if_neg e0, if_pos e, nI_d2 hv]
    by_cases q : nI (v / 2) ≤ 0
    · rw [if_pos q]; have := (nI_le0 (by omega)).mp q; exact ⟨fun z => by omega, fun _ => rfl⟩
    · rw [if_neg q]; have : ¬ v / 2 = 0 := fun z => q ((nI_le0 (by omega)).mpr z); exact ⟨fun _ => rfl, fun z => by omega⟩
  · have e : f 16 = 2 := h16
    have e0 : ¬ f 16 = 0 := by rw [e]; decide
    have e1 : ¬ f 16 = 1 := by rw [e]; decide
    rw [if_neg e0, if_neg e0, if_neg e1]
    cases v with
    | zero => exact ⟨fun z => by omega, fun _ => by decide⟩
    | succ v =>
      rw [nI_pred]
      by_cases q : nI v ≤ 0
      · rw [if_pos q]; have := (nI_le0 (by omega)).mp q; exact ⟨fun z => by omega, fun _ => rfl⟩
      · rw [if_neg q]; have : ¬ v = 0 := fun z => q ((nI_le0 (by omega)).mpr z); exact ⟨fun _ => rfl, fun z => by omega⟩
-- what a walk's turn leaves of the reference's other fields
def fr (f f' : Nat → Int32) : Prop := ∀ i, i < 9 ∨ 16 < i → i ≠ 26 → f' i = f i
theorem fr_rf (f : Nat → Int32) : fr f f := fun _ _ _ => rfl
theorem fr_tr {f f1 f2 : Nat → Int32} (h1 : fr f f1) (h2 : fr f1 f2) : fr f f2 := fun i hi h => (h2 i hi h).trans (h1 i hi h)
theorem fr_up {f f1 : Nat → Int32} {k : Nat} {x : Int32} (h : fr f f1) (hk : (9 ≤ k ∧ k ≤ 16) ∨ k = 26) : fr f (upd f1 k x) := fun i hi h26 => by rw [upd_ne _ _ (by omega)]; exact h i hi h26
theorem fr_next (f : Nat → Int32) : fr f (md_next f) := by
  unfold md_next
  by_cases q : 4 ≤ f 15 + 1
  · rw [if_pos q]; exact fr_up (fr_up (fr_up (fr_up (fr_rf f) (by omega)) (by omega)) (by omega)) (by omega)
  · rw [if_neg q]; exact fr_up (fr_up (fr_rf f) (by omega)) (by omega)
theorem fr_bw (f : Nat → Int32) : fr f (md_bw f) := fr_up (fr_up (fr_up (fr_up (fr_up (fr_rf f) (by omega)) (by omega)) (by omega)) (by omega)) (by omega)
theorem fr_bl (f : Nat → Int32) (x : Int32) : fr f (md_bl f x) := fr_up (fr_up (fr_up (fr_up (fr_up (fr_rf f) (by omega)) (by omega)) (by omega)) (by omega)) (by omega)
theorem fr_ep0 (f : Nat → Int32) : fr f (md_ep0 f) := fr_up (fr_up (fr_up (fr_rf f) (by omega)) (by omega)) (by omega)
theorem fr_ep (f : Nat → Int32) : fr f (md_ep f) := by
  unfold md_ep
  by_cases q : 1 < f 12
  · rw [if_pos q]; exact fr_ep0 f
  · rw [if_neg q]
    by_cases q2 : f 10 = 0
    · rw [if_pos q2]; exact fr_tr (fr_ep0 f) (fr_bw _)
    · rw [if_neg q2]; exact fr_ep0 f
theorem LVq_c {w f f' : Nat → Int32} {p pl : Nat} (h : LVq w f p pl) (hf : ∀ i, 9 ≤ i → i ≤ 16 → f' i = f i) : LVq w f' p pl := by
  obtain ⟨h0, h9, h1, h12, h2, h13, h3, r⟩ := h
  exact ⟨h0, by rw [hf 9 (by omega) (by omega)]; exact h9, h1, by rw [hf 12 (by omega) (by omega)]; exact h12, h2, by rw [hf 13 (by omega) (by omega)]; exact h13, by rw [hf 10 (by omega) (by omega)]; exact h3, r⟩
theorem LWq_c {n : Nat} {w f f' : Nat → Int32} {wp bp h : Nat} (q : LWq n w f wp bp h) (hf : ∀ i, 9 ≤ i → i ≤ 16 → f' i = f i) : LWq n w f' wp bp h := by
  obtain ⟨h0, h16, hh, h9, h4, h14, hle, h5, h15, hb, h6, r⟩ := q
  exact ⟨h0, by rw [hf 16 (by omega) (by omega)]; exact h16, hh, by rw [hf 9 (by omega) (by omega)]; exact h9, h4, by rw [hf 14 (by omega) (by omega)]; exact h14, hle, h5, by rw [hf 15 (by omega) (by omega)]; exact h15, hb, by rw [hf 11 (by omega) (by omega)]; exact h6, r⟩
-- the single turns
theorem sp_next {n : Nat} {w f : Nat → Int32} {wp bp : Nat} (hn : n ≤ 48) (hP : LPq n w f wp bp) (hw : wp < n) : ∃ wp' bp', LWq n (wk_next w) (md_next f) wp' bp' 0 ∧ 12 * (n - wp') + 12 - 3 * bp' + 1 ≤ 12 * (n - wp) + 12 - 3 * bp - 2 ∧ wk_next w 6 = w 6 ∧ wk_next w 7 = w 7 ∧ md_next f 26 = f 26 := by
  obtain ⟨h9, h4, h14, hle, h5, h15, hb, h6, hnz⟩ := hP
  have e5 : w 5 + 1 = nI (bp + 1) := by rw [h5, nI_1]
  have e15 : f 15 + 1 = nI (bp + 1) := by rw [h15, nI_1]
  unfold wk_next md_next
  by_cases q : bp + 1 < 4
  · have c1 : w 5 + 1 < 4 := by rw [e5]; exact nI_lt (b := 4) q (by omega)
    have c2 : ¬ 4 ≤ f 15 + 1 := by rw [e15]; exact nI_ge (b := 4) q (by omega)
    rw [if_pos c1, if_neg c2]
    exact ⟨wp, bp + 1, ⟨rfl, rfl, by omega, h9, h4, h14, hle, e5, e15, q, h6, hnz⟩, by omega, rfl, rfl, rfl⟩
  · have c1 : ¬ w 5 + 1 < 4 := by rw [e5]; exact nI_nlt (b := 4) (by omega) (by omega)
    have c2 : 4 ≤ f 15 + 1 := by rw [e15]; exact nI_le (a := 4) (by omega) (by omega)
    rw [if_neg c1, if_pos c2]
    refine ⟨wp + 1, 0, ⟨rfl, rfl, by omega, h9, ?_, ?_, by omega, rfl, rfl, by omega, h6, hnz⟩, by omega, rfl, rfl, rfl⟩
    · show w 4 + 1 = _; rw [h4, nI_1]
    · show f 14 + 1 = _; rw [h14, nI_1]
theorem sp_end {n : Nat} {w f : Nat → Int32} {p pl : Nat} (hn : n ≤ 48) (h7 : w 7 = f 26) (hL : LVq w f p pl) (hpl : n ≤ pl) : WRq n (wk_end w) (md_ep f) ∧ rk n (wk_end w) < rk n w := by
  have hr := rk_L (n := n) hL
  obtain ⟨h0, h9, h1, h12, h2, h13, h3, hp1, hp, hpl2⟩ := hL
  unfold wk_end md_ep
  by_cases q : 1 < p
  · have c1 : ¬ w 1 ≤ 1 := by rw [h1]; exact nI_ge (b := p) (a := 1) q (by omega)
    have c2 : 1 < f 12 := by rw [h12]; exact nI_lt (a := 1) q (by omega)
    have c3 : ¬ f 12 ≤ 1 := by rw [h12]; exact nI_ge (b := p) (a := 1) q (by omega)
    rw [if_neg c1, if_pos c2]
    have hd : nI p / 2 = nI (p / 2) := nI_d2 (by omega)
    have hL' : LVq (wk_sgt w (w 1 / 2)) (md_ep0 f) (p / 2) 0 := by
      refine ⟨h0, h9, ?_, ?_, rfl, rfl, ⟨fun _ => rfl, fun _ => rfl⟩, by omega, by omega, by omega⟩
      · show w 1 / 2 = _; rw [h1, hd]
      · show (if f 12 ≤ 1 then 1 else f 12 / 2) = _; rw [if_neg c3, h12, hd]
    refine ⟨⟨h7, Or.inl ⟨_, _, hL'⟩⟩, ?_⟩
    rw [rk_L hL', hr, if_pos (show wk_sgt w (w 1 / 2) 3 = 0 from rfl)]
    by_cases e : w 3 = 0
    · rw [if_pos e]; omega
    · rw [if_neg e]; omega
  · have ep : p = 1 := by omega
    subst ep
    have c1 : w 1 ≤ 1 := by rw [h1]; exact nI_le (a := 1) (b := 1) (by omega) (by omega)
    have c2 : ¬ 1 < f 12 := by rw [h12]; exact nI_nlt (a := 1) (b := 1) (by omega) (by omega)
    have c3 : f 12 ≤ 1 := by rw [h12]; exact nI_le (a := 1) (b := 1) (by omega) (by omega)
    rw [if_pos c1, if_neg c2]
    by_cases e : w 3 = 0
    · rw [if_pos e, if_pos (h3.mp e)]
      have hW : LWq n (wk_slow w) (md_bw (md_ep0 f)) 0 0 0 := ⟨rfl, rfl, by omega, rfl, rfl, rfl, by omega, rfl, rfl, by omega, ⟨fun _ => rfl, fun _ => rfl⟩, fun z => absurd rfl z⟩
      refine ⟨⟨h7, Or.inr ⟨_, _, _, hW⟩⟩, ?_⟩
      rw [rk_W hn hW, hr, if_pos (show wk_slow w 6 = 0 from rfl)]
      omega
    · rw [if_neg e, if_neg (fun z => e (h3.mpr z))]
      have hL' : LVq (wk_sgt w 1) (md_ep0 f) 1 0 := by
        refine ⟨h0, h9, rfl, ?_, rfl, rfl, ⟨fun _ => rfl, fun _ => rfl⟩, by omega, by omega, by omega⟩
        show (if f 12 ≤ 1 then 1 else f 12 / 2) = _; rw [if_pos c3]; rfl
      refine ⟨⟨h7, Or.inl ⟨_, _, hL'⟩⟩, ?_⟩
      rw [rk_L hL', hr, if_pos (show wk_sgt w 1 3 = 0 from rfl), if_neg e]
      omega
theorem sp_bl {n : Nat} {w f : Nat → Int32} {wp bp h p : Nat} {x y : Int32} (h7 : w 7 = f 26) (hx : x = nI p) (hy : y = nI p) (hp1 : 1 ≤ p) (hp : p ≤ 48) : LVq (wk_sl w x) (md_bl f y) p 0 ∧ WRq n (wk_sl w x) (md_bl f y) := by
  have hL : LVq (wk_sl w x) (md_bl f y) p 0 := ⟨rfl, rfl, hx, hy, rfl, rfl, ⟨fun _ => rfl, fun _ => rfl⟩, hp1, hp, by omega⟩
  exact ⟨hL, by show w 7 + 1 = f 26 + 1; rw [h7], Or.inl ⟨_, _, hL⟩⟩
/-- the walk stands on a change that can be tried: cz words, C -/
def Stn (n : Nat) (W : Nat → Int32) (w f C : Nat → Int32) (cz : Nat) : Prop := w 7 = f 26 ∧ ((∃ p pl, LVq w f p pl ∧ pl < n ∧ cz = pl + (n - pl - p) ∧ ∀ j, j < cz → C j = ps_lo W pl p j) ∨ (∃ wp bp h, LWq n w f wp bp h ∧ wp < n ∧ cz = n ∧ canN h (byN (W wp) bp) ∧ ∀ j, j < n → C j = upd W wp (sbI (W wp) bp (nI (lvN h (byN (W wp) bp)))) j))
theorem Stn.wr {n : Nat} {W w f C : Nat → Int32} {cz : Nat} (h : Stn n W w f C cz) : WRq n w f := by
  refine ⟨h.1, ?_⟩
  rcases h.2 with ⟨p, pl, q, -⟩ | ⟨wp, bp, x, q, -⟩
  · exact Or.inl ⟨p, pl, q⟩
  · exact Or.inr ⟨wp, bp, x, q⟩
theorem fc_pp {ws W : Nat → Int32} {n : Nat} (hn : n ≤ 48) (hw : ∀ j, j < n → ws j = W j) : ∀ (N : Nat) (w f C : Nat → Int32) (F : Nat), WRq n w f → f 2 = 1 → f 3 = nI n → rk n w < N → rk n w < F →
    ∃ (w' f1 : Nat → Int32) (t : Nat), fr f f1 ∧ w' 7 = f1 26 ∧ rk n w' ≤ rk n w ∧ ((wk_fc ws (nI n) F w = (w', 0) ∧ md_pp W n t f C = some (upd f1 2 2, C, 0)) ∨ (∃ (C' : Nat → Int32) (cz : Nat), wk_fc ws (nI n) F w = (w', 1) ∧ md_pp W n t f C = some (upd f1 6 (nI cz), C', 1) ∧ Stn n W w' f1 C' cz))
  | 0, w, f, C, F, _, _, _, h, _ => absurd h (by omega)
  | N + 1, w, f, C, F, hR, hf2, hf3, hN, hF => by
    obtain ⟨h7, hR2⟩ := hR
    obtain ⟨F', rfl⟩ : ∃ F', F = F' + 1 := ⟨F - 1, by omega⟩
    -- one turn of both
    have step : ∀ (w1 f1 : Nat → Int32), WRq n w1 f1 → fr f f1 → rk n w1 < rk n w → wk_fc ws (nI n) (F' + 1) w = wk_fc ws (nI n) F' w1 → (∀ t, md_pp W n (t + 1) f C = md_pp W n t f1 C) →
        ∃ (w' f1 : Nat → Int32) (t : Nat), fr f f1 ∧ w' 7 = f1 26 ∧ rk n w' ≤ rk n w ∧ ((wk_fc ws (nI n) (F' + 1) w = (w', 0) ∧ md_pp W n t f C = some (upd f1 2 2, C, 0)) ∨ (∃ (C' : Nat → Int32) (cz : Nat), wk_fc ws (nI n) (F' + 1) w = (w', 1) ∧ md_pp W n t f C = some (upd f1 6 (nI cz), C', 1) ∧ Stn n W w' f1 C' cz)) := by
      intro w1 f1 hR1 hfr hrk e1 e2
      obtain ⟨w', f2, t, g1, g2, g3, g4⟩ := fc_pp hn hw N w1 f1 C F' hR1 (by rw [hfr 2 (by omega) (by omega)]; exact hf2) (by rw [hfr 3 (by omega) (by omega)]; exact hf3) (by omega) (by omega)
      refine ⟨w', f2, t + 1, fr_tr hfr g1, g2, by omega, ?_⟩
      rw [e1, e2]
      exact g4
    rcases hR2 with ⟨p, pl, hL⟩ | ⟨wp, bp, h, hW⟩
    · have h0 := hL.1
      have h9 := hL.2.1
      have h2 := hL.2.2.2.2.1
      have h13 := hL.2.2.2.2.2.1
      have hpl := hL.2.2.2.2.2.2.2.2.2
      have hp := hL.2.2.2.2.2.2.2.2.1
      by_cases q : n ≤ pl
      · have c1 : pg_hasI (nI n) (w 2) = 0 := by rw [h2]; exact (ps_has hn (by omega)).mpr q
        have c2 : f 3 ≤ f 13 := by rw [hf3, h13]; exact nI_le q (by omega)
        obtain ⟨hR1, hrk⟩ := sp_end hn h7 hL q
        refine step _ _ hR1 (fr_ep f) hrk ?_ (fun t => ?_)
        · rw [wk_fc, if_pos h0, if_pos c1]
        · rw [md_pp, if_pos hf2, if_pos h9, if_pos c2]
      · have c1 : ¬ pg_hasI (nI n) (w 2) = 0 := by rw [h2]; exact fun z => q ((ps_has hn (by omega)).mp z)
        have c2 : ¬ f 3 ≤ f 13 := by rw [hf3, h13]; exact nI_ge (by omega) (by omega)
        obtain ⟨o1, o2⟩ := ps_woL W C (n := n) (pl := pl) (p := p) hn (by omega) hp
        refine ⟨w, f, 1, fr_rf f, h7, Nat.le_refl _, Or.inr ⟨_, _, ?_, ?_, h7, Or.inl ⟨p, pl, hL, by omega, rfl, o2⟩⟩⟩
        · rw [wk_fc, if_pos h0, if_neg c1]
        · rw [md_pp, if_pos hf2, if_pos h9, if_neg c2, h13, hL.2.2.2.1, o1]
    · have hk := rk_W hn hW
      obtain ⟨h0, h16, hh, hP⟩ := hW
      have hW : LWq n w f wp bp h := ⟨h0, h16, hh, hP⟩
      have hP' := hP
      obtain ⟨h9, h4, h14, hle, h5, h15, hb, h6, hnz⟩ := hP
      have n0 : ¬ w 0 = 0 := lw_ne h0 hh
      have n9 : ¬ f 9 = 0 := by rw [h9]; decide
      by_cases q : wp < n
      · have c1 : ¬ pg_hasI (nI n) (w 4) = 0 := by rw [h4]; exact fun z => by have := (ps_has hn (by omega)).mp z; omega
        have c2 : f 14 < f 3 := by rw [hf3, h14]; exact nI_lt q (by omega)
        have c3 : ¬ f 14 < 0 := by rw [h14]; exact nI_pos (by omega)
        have eb : pg_byte ws (nI n) (w 4) (w 5) = nI (byN (W wp) bp) := by rw [h4, h5]; exact cb_pg hn q hb (hw wp q)
        have hv : byN (W wp) bp < 256 := byN_lt _ _
        obtain ⟨t1, t2⟩ := md_to_c (W := W) h16 hh h14 h15 (by omega) hb rfl
        by_cases qc : canN h (byN (W wp) bp)
        · have d1 : ¬ wk_can w (pg_byte ws (nI n) (w 4) (w 5)) = 0 := by rw [eb]; exact fun z => (cl_can h0 hh hv).mp z qc
          have d2 : ¬ md_to f W < 0 := by rw [t1 qc]; exact nI_pos (by have := lvN_lt qc; omega)
          refine ⟨w, f, 1, fr_rf f, h7, Nat.le_refl _, Or.inr ⟨md_wb W C n (f 14) (f 15) (md_to f W), n, ?_, ?_, h7, Or.inr ⟨wp, bp, h, hW, q, rfl, qc, fun j hj => ?_⟩⟩⟩
          · rw [wk_fc, if_neg n0, if_neg c1, if_neg d1]
          · rw [md_pp, if_pos hf2, if_neg n9, if_pos c2, if_neg c3, if_neg d2, hf3]
          · unfold md_wb
            rw [h14, h15, t1 qc, nI_clamp (by omega), sb_md _ _ hb]
            unfold upd pg_cp
            by_cases e : j = wp
            · rw [if_pos e, if_pos e]
            · rw [if_neg e, if_neg e, if_pos hj]
        · have d1 : wk_can w (pg_byte ws (nI n) (w 4) (w 5)) = 0 := by rw [eb]; exact (cl_can h0 hh hv).mpr qc
          have d2 : md_to f W < 0 := by rw [t2 qc]; decide
          have e1 : wk_fc ws (nI n) (F' + 1) w = wk_fc ws (nI n) F' (wk_pass w) := by rw [wk_fc, if_neg n0, if_neg c1, if_pos d1]
          rcases (show h = 0 ∨ h = 1 ∨ h = 2 by omega) with rfl | rfl | rfl
          · -- three turns of the class, one of the reference
            have v0 : byN (W wp) bp = 0 := by unfold canN at qc; omega
            obtain ⟨wp', bp', hN1, hr1, k6, k7, k26⟩ := sp_next hn (w := upd (upd w 0 2) 0 3) (f := f) (show LPq n (upd (upd w 0 2) 0 3) f wp bp from hP') q
            have e0 : w 0 = 1 := h0
            have p1 : wk_pass w = upd w 0 2 := by unfold wk_pass; rw [if_neg n0, if_pos e0]
            have p2 : wk_pass (upd w 0 2) = upd (upd w 0 2) 0 3 := by
              unfold wk_pass
              rw [if_neg (show ¬ upd w 0 2 0 = 0 by rw [upd_eq]; decide), if_neg (show ¬ upd w 0 2 0 = 1 by rw [upd_eq]; decide), if_pos (show upd w 0 2 0 = 2 from upd_eq _ _ _)]
            have p3 : wk_pass (upd (upd w 0 2) 0 3) = wk_next (upd (upd w 0 2) 0 3) := by
              unfold wk_pass
              rw [if_neg (show ¬ upd (upd w 0 2) 0 3 0 = 0 by rw [upd_eq]; decide), if_neg (show ¬ upd (upd w 0 2) 0 3 0 = 1 by rw [upd_eq]; decide), if_neg (show ¬ upd (upd w 0 2) 0 3 0 = 2 by rw [upd_eq]; decide)]
            have r1 := rk_W hn hN1
            have k6' : wk_next (upd (upd w 0 2) 0 3) 6 = w 6 := k6
            rw [k6'] at r1
            obtain ⟨F2, rfl⟩ : ∃ F2, F' = F2 + 2 := ⟨F' - 2, by omega⟩
            have s2 : wk_fc ws (nI n) (F2 + 2) (upd w 0 2) = wk_fc ws (nI n) (F2 + 1) (upd (upd w 0 2) 0 3) := by
              rw [wk_fc, if_neg (show ¬ upd w 0 2 0 = 0 by rw [upd_eq]; decide), if_neg (show ¬ pg_hasI (nI n) (upd w 0 2 4) = 0 from c1), if_pos (show wk_can (upd w 0 2) (pg_byte ws (nI n) (upd w 0 2 4) (upd w 0 2 5)) = 0 from ?_), p2]
              show wk_can (upd w 0 2) (pg_byte ws (nI n) (w 4) (w 5)) = 0
              rw [eb]
              exact (cl_can (h := 1) rfl (by omega) hv).mpr (by unfold canN; omega)
            have s3 : wk_fc ws (nI n) (F2 + 1) (upd (upd w 0 2) 0 3) = wk_fc ws (nI n) F2 (wk_next (upd (upd w 0 2) 0 3)) := by
              rw [wk_fc, if_neg (show ¬ upd (upd w 0 2) 0 3 0 = 0 by rw [upd_eq]; decide), if_neg (show ¬ pg_hasI (nI n) (upd (upd w 0 2) 0 3 4) = 0 from c1), if_pos (show wk_can (upd (upd w 0 2) 0 3) (pg_byte ws (nI n) (upd (upd w 0 2) 0 3 4) (upd (upd w 0 2) 0 3 5)) = 0 from ?_), p3]
              show wk_can (upd (upd w 0 2) 0 3) (pg_byte ws (nI n) (w 4) (w 5)) = 0
              rw [eb]
              exact (cl_can (h := 2) rfl (by omega) hv).mpr (by unfold canN; omega)
            have hrk : rk n (wk_next (upd (upd w 0 2) 0 3)) + 3 ≤ rk n w := by rw [r1, hk]; omega
            have f16 : ¬ f 16 = 1 := by rw [h16]; decide
            obtain ⟨w', f2, t, g1, g2, g3, g4⟩ := fc_pp hn hw N _ (md_next f) C F2 ⟨by rw [k7, k26]; exact h7, Or.inr ⟨_, _, _, hN1⟩⟩ (by rw [fr_next f 2 (by omega) (by omega)]; exact hf2) (by rw [fr_next f 3 (by omega) (by omega)]; exact hf3) (by omega) (by omega)
            refine ⟨w', f2, t + 1, fr_tr (fr_next f) g1, g2, by omega, ?_⟩
            rw [e1, p1, s2, s3, md_pp, if_pos hf2, if_neg n9, if_pos c2, if_neg c3, if_pos d2, if_neg f16]
            exact g4
          · have e0 : w 0 = 2 := h0
            have p1 : wk_pass w = upd w 0 3 := by unfold wk_pass; rw [if_neg n0, if_neg (by rw [e0]; decide), if_pos e0]
            have hN1 : LWq n (upd w 0 3) (upd f 16 2) wp bp 2 := ⟨rfl, rfl, by omega, h9, h4, h14, hle, h5, h15, hb, h6, hnz⟩
            have r1 := rk_W hn hN1
            rw [show upd w 0 3 6 = w 6 from rfl] at r1
            refine step (upd w 0 3) (upd f 16 2) ⟨h7, Or.inr ⟨_, _, _, hN1⟩⟩ (fr_up (fr_rf f) (by omega)) (by rw [r1, hk]; omega) (by rw [e1, p1]) (fun t => ?_)
            rw [md_pp, if_pos hf2, if_neg n9, if_pos c2, if_neg c3, if_pos d2, if_pos (show f 16 = 1 from h16)]
          · have e0 : w 0 = 3 := h0
            have p1 : wk_pass w = wk_next w := by unfold wk_pass; rw [if_neg n0, if_neg (by rw [e0]; decide), if_neg (by rw [e0]; decide)]
            obtain ⟨wp', bp', hN1, hr1, k6, k7, k26⟩ := sp_next hn hP' q
            have r1 := rk_W hn hN1
            rw [k6] at r1
            refine step _ _ ⟨by rw [k7, k26]; exact h7, Or.inr ⟨_, _, _, hN1⟩⟩ (fr_next f) (by rw [r1, hk]; omega) (by rw [e1, p1]) (fun t => ?_)
            rw [md_pp, if_pos hf2, if_neg n9, if_pos c2, if_neg c3, if_pos d2, if_neg (show ¬ f 16 = 1 by rw [h16]; decide)]
      · have c1 : pg_hasI (nI n) (w 4) = 0 := by rw [h4]; exact (ps_has hn (by omega)).mpr (by omega)
        have c2 : ¬ f 14 < f 3 := by rw [hf3, h14]; exact nI_nlt (by omega) (by omega)
        by_cases q6 : w 6 = 0
        · refine ⟨w, f, 2, fr_rf f, h7, Nat.le_refl _, Or.inl ⟨?_, ?_⟩⟩
          · rw [wk_fc, if_neg n0, if_pos c1, if_pos q6]
          · rw [md_pp, if_pos hf2, if_neg n9, if_neg c2, if_pos (h6.mp q6), md_pp, if_neg (show ¬ upd f 2 2 2 = 1 by rw [upd_eq]; decide)]
        · have hnp := hnz q6
          have c4 : ¬ f 3 ≤ 0 := by rw [hf3]; exact nI_nle hnp (by omega)
          obtain ⟨hL1, hR1⟩ := sp_bl (n := n) (wp := 0) (bp := 0) (h := 0) (p := 1) (x := 1) (y := 1) h7 rfl rfl (by omega) (by omega)
          have r1 := rk_L (n := n) hL1
          rw [if_pos (show wk_sl w 1 3 = 0 from rfl)] at r1
          rw [if_neg q6] at hk
          refine step _ _ hR1 (fr_bl f 1) (by rw [r1, hk]; omega) ?_ (fun t => ?_)
          · rw [wk_fc, if_neg n0, if_pos c1, if_neg q6]
          · rw [md_pp, if_pos hf2, if_neg n9, if_neg c2, if_neg (fun z => q6 (h6.mpr z)), if_neg c4]
