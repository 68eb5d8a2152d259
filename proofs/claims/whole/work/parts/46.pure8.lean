-- PURE, 8: how many asks; a new object
theorem xr_sg (A : Int64) : (0 : Int64) ≤ A ^^^ 600 ↔ 0 ≤ A.toInt := by
  rw [Int64.le_iff_toInt_le, show (0 : Int64).toInt = 0 by decide]
  have h2 : (A ^^^ 600).toBitVec.msb = A.toBitVec.msb := by
    rw [Int64.toBitVec_xor, BitVec.msb_xor, show (600 : Int64).toBitVec.msb = false by decide, Bool.xor_false]
  rw [BitVec.msb_eq_toInt, BitVec.msb_eq_toInt] at h2
  have h3 := decide_eq_decide.mp h2
  show 0 ≤ (A ^^^ 600).toBitVec.toInt ↔ 0 ≤ A.toBitVec.toInt
  omega
theorem tm_pos {a : Int} (h : 0 ≤ a) : a.tmod 600 = a % 600 := Int.tmod_eq_emod_of_nonneg h
theorem tm_neg {a : Int} (h : a < 0) : a.tmod 600 = -((-a) % 600) := by
  have := Int.neg_tmod (-a) 600
  rw [Int.neg_neg] at this
  rw [this, tm_pos (by omega)]
theorem bd_rem {x y : Int64} (h1 : -2 ^ 62 < x.toInt.tmod y.toInt) (h2 : x.toInt.tmod y.toInt < 2 ^ 62) : (x - x / y * y).toInt = x.toInt.tmod y.toInt := by
  rw [Int64.toInt_sub, Int64.toInt_mul, Int64.toInt_div, Int.bmod_mul_bmod, Int.sub_bmod_bmod, Int.mul_comm, ← Int.tmod_def]
  exact Int.bmod_eq_of_le (by omega) (by omega)
theorem bd_v (x : Int32) : (fm_v (Int32.toInt64 x - 1) 600).toInt = (x.toInt - 1) % 600 := by
  have x1 := Int32.le_toInt x
  have x2 := Int32.toInt_lt x
  have hA : (Int32.toInt64 x - 1).toInt = x.toInt - 1 := by
    rw [Int64.toInt_sub, Int32.toInt_toInt64, show (1 : Int64).toInt = 1 by decide]
    exact Int.bmod_eq_of_le (by omega) (by omega)
  have hb := tmod_bounds (a := x.toInt - 1) (M := 600) (by omega)
  have hR : (Int32.toInt64 x - 1 - (Int32.toInt64 x - 1) / 600 * 600).toInt = (x.toInt - 1).tmod 600 := by
    have := bd_rem (x := Int32.toInt64 x - 1) (y := 600) (by rw [hA, show (600 : Int64).toInt = 600 by decide]; omega) (by rw [hA, show (600 : Int64).toInt = 600 by decide]; omega)
    rw [hA, show (600 : Int64).toInt = 600 by decide] at this
    exact this
  unfold fm_v
  by_cases q : 0 ≤ lg_cmp ((Int32.toInt64 x - 1) ^^^ 600) 0
  · rw [if_pos q, hR]
    rw [lg_cmp_ge, xr_sg, hA] at q
    exact tm_pos q
  · rw [if_neg q]
    rw [lg_cmp_ge, xr_sg, hA] at q
    rw [tm_neg (by omega)] at hR
    by_cases q2 : lg_cmp ((Int32.toInt64 x - 1) - (Int32.toInt64 x - 1) / 600 * 600) 0 = 0
    · rw [if_pos q2, hR]
      rw [lg_cmp_eq] at q2
      rw [q2, show (0 : Int64).toInt = 0 by decide] at hR
      omega
    · rw [if_neg q2]
      have hne : ¬ ((Int32.toInt64 x - 1) - (Int32.toInt64 x - 1) / 600 * 600).toInt = 0 := fun z => q2 ((lg_cmp_eq _ _).mpr (Int64.toInt_inj.mp z))
      rw [hR] at hne
      rw [Int64.toInt_add, hR, show (600 : Int64).toInt = 600 by decide, Int.bmod_eq_of_le (by omega) (by omega)]
      omega
theorem bud_eq (x : Int32) : ∃ bud : Nat, 1 ≤ bud ∧ bud ≤ 600 ∧ sp_bud x = nI bud ∧ md_bud x = nI bud := by
  have x1 := Int32.le_toInt x
  have x2 := Int32.toInt_lt x
  refine ⟨((x.toInt - 1) % 600 + 1).toNat, by omega, by omega, ?_, ?_⟩
  · apply Int32.toInt_inj.mp
    rw [nI_toInt (by omega)]
    unfold sp_bud
    rw [Int32.toInt_add, Int64.toInt_toInt32, bd_v, show (1 : Int32).toInt = 1 by decide, Int.bmod_eq_of_le (n := (x.toInt - 1) % 600) (by omega) (by omega), Int.bmod_eq_of_le (by omega) (by omega)]
    omega
  · have hr := rem_toInt x 600
    rw [show (600 : Int32).toInt = 600 by decide] at hr
    have hb := tmod_bounds (a := x.toInt) (M := 600) (by omega)
    have ha : (x - x / 600 * 600 + 600).toInt = x.toInt.tmod 600 + 600 := by
      rw [Int32.toInt_add, hr, show (600 : Int32).toInt = 600 by decide]
      exact Int.bmod_eq_of_le (by omega) (by omega)
    have h0 : ¬ (x - x / 600 * 600 + 600) < 0 := by rw [Int32.lt_iff_toInt_lt, ha, show (0 : Int32).toInt = 0 by decide]; omega
    obtain ⟨m, hm, em⟩ := nI_of h0
    rw [em, nI_toInt hm] at ha
    have h3 : nI m - nI m / 600 * 600 = nI (m % 600) := pk_rem (a := m) (d := 600) hm (by omega) (by omega)
    unfold md_bud
    rw [em, h3]
    by_cases q : nI (m % 600) = 0
    · rw [if_pos q]
      have q : m % 600 = 0 := (nI_eq (b := 0) (by omega) (by omega)).mp q
      have e : ((x.toInt - 1) % 600 + 1).toNat = 600 := by
        rcases Int.lt_or_le x.toInt 0 with z | z
        · rw [tm_neg z] at ha; omega
        · rw [tm_pos z] at ha; omega
      rw [e]; rfl
    · rw [if_neg q]
      have q : ¬ m % 600 = 0 := fun z => q (by rw [z]; rfl)
      have e : ((x.toInt - 1) % 600 + 1).toNat = m % 600 := by
        rcases Int.lt_or_le x.toInt 0 with z | z
        · rw [tm_neg z] at ha; omega
        · rw [tm_pos z] at ha; omega
      rw [e]
theorem Inv_0 (x : Int32) : Inv ((sp_g0 x, (fun _ => 0), (0, (fun _ => 0), (fun _ => 0)), (0, (fun _ => 0), (fun _ => 0))), 0, []) (md_f0 x, (fun _ => 0), (fun _ => 0), (fun _ => 0), (fun _ => 0), (fun _ => 0), (fun _ => 0)) := by
  obtain ⟨bud, h1, h2, h3, h4⟩ := bud_eq x
  have e0 : sp_g0 x 0 = nI bud := by unfold sp_g0; rw [upd_ne _ _ (by omega), upd_ne _ _ (by omega), upd_eq]; exact h3
  have e1 : md_f0 x 1 = nI bud := by unfold md_f0; rw [upd_eq]; exact h4
  have f0 : ∀ i, i ≠ 1 → i ≠ 17 → md_f0 x i = 0 := fun i q1 q2 => by unfold md_f0; rw [upd_ne _ _ q1, upd_ne _ _ q2]
  have g0 : ∀ i, i ≠ 0 → i ≠ 6 → sp_g0 x i = 0 := fun i q1 q2 => by
    unfold sp_g0
    by_cases q5 : i = 5
    · rw [q5, upd_ne _ _ (by omega), upd_eq]
    · rw [upd_ne _ _ q2, upd_ne _ _ q5, upd_ne _ _ q1]
  have f17 : md_f0 x 17 = (-1) := by unfold md_f0; rw [upd_ne _ _ (by omega), upd_eq]
  have g6 : sp_g0 x 6 = (-1) := by unfold sp_g0; rw [upd_eq]
  have z0 : (0 : Int32) = nI 0 := nI_0.symm
  have P1 : PGq 0 (0, (fun _ => 0), (fun _ => 0)) (md_f0 x) (fun _ => 0) (fun _ => 0) := ⟨by omega, z0, (f0 3 (by omega) (by omega)).trans z0, fun j hj => absurd hj (Nat.not_lt_zero j)⟩
  have P2 : BDq bud 0 (sp_g0 x) (md_f0 x) := ⟨h1, h2, e0, e1, (f0 18 (by omega) (by omega)).trans z0, Nat.zero_le _⟩
  have P3 : CNq (sp_g0 x) (md_f0 x) := ⟨(f0 22 (by omega) (by omega)).trans (g0 7 (by omega) (by omega)).symm, (f0 23 (by omega) (by omega)).trans (g0 8 (by omega) (by omega)).symm, (f0 24 (by omega) (by omega)).trans (g0 9 (by omega) (by omega)).symm, (f0 25 (by omega) (by omega)).trans (g0 10 (by omega) (by omega)).symm, f17.trans g6.symm⟩
  have P4 : MMq [] 0 (fun _ => 0) (fun _ => 0) (fun _ => 0) := ⟨Nat.le_refl _, Nat.zero_le _, fun i hi => absurd hi (Nat.not_lt_zero i)⟩
  have P5 : md_f0 x 2 = sp_g0 x 5 := (f0 2 (by omega) (by omega)).trans (g0 5 (by omega) (by omega)).symm
  exact ⟨0, bud, P1, P2, P3, (f0 26 (by omega) (by omega)).symm, P4, P5, ⟨0, by omega, (f0 6 (by omega) (by omega)).trans z0⟩, Or.inl ⟨g0 5 (by omega) (by omega), rfl, g6⟩⟩
