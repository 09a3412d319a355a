/-! the plan as a graph; what the reference's reckon leaves -/
def EE (n : Int) (fr to lk hd hz : Nat → Int32) (av : Int32) (i u v : Nat) : Prop := (i : Int) < n ∧ (lk i = 0 ∨ hd (lk i).toNatClampNeg ≠ 0) ∧ ((u = (fr i).toNatClampNeg ∧ v = (to i).toNatClampNeg) ∨ (u = (to i).toNatClampNeg ∧ v = (fr i).toNatClampNeg)) ∧ hz v &&& av = 0
def stR (fl fr to : Nat → Int32) (i : Nat) : Nat := if fl (fr i).toNatClampNeg = fl (to i).toNatClampNeg then 0 else 1
def ER (x : RT) (av : Int32) : Nat → Nat → Nat → Prop := EE (q_m_doors x).toInt (q_m_from x) (q_m_to x) (q_m_lock x) (q_m_hand x) (q_m_hazard x) av
def WR (x : RT) (i : Nat) : Nat := 100 * (q_m_metres x i).toInt.toNat + stR (q_m_floor x) (q_m_from x) (q_m_to x) i
def lfn (inf : Nat) (f : Nat → Int32) (j : Nat) : Nat := if j < 40 then (f j).toInt.toNat else inf
theorem ER_ls {x z : RT} (h : ls0 x z) (av : Int32) : ER z av = ER x av ∧ WR z = WR x := by
  obtain ⟨f, rfl⟩ := h
  exact ⟨rfl, rfl⟩
theorem lfn_upd {inf : Nat} {f : Nat → Int32} {a b w : Nat} {v : Int32} (hb : b < 40) (ha : a < 40) (e : v.toInt.toNat = (f a).toInt.toNat + w) : lfn inf (upd f b v) = fun j => if j = b then lfn inf f a + w else lfn inf f j := by
  funext j
  unfold lfn upd
  by_cases hj : j = b
  · rw [if_pos hj, if_pos hj, if_pos ha, hj, if_pos hb, e]
  · rw [if_neg hj, if_neg hj]
theorem passed_iff {z : RT} {d : Int32} : ¬ f_Mod_isPassed z d = 0 ↔ (q_m_lock z d.toNatClampNeg = 0 ∨ q_m_hand z (q_m_lock z d.toNatClampNeg).toNatClampNeg ≠ 0) := by
  unfold f_Mod_isPassed
  by_cases h1 : q_m_lock z d.toNatClampNeg = 0
  · rw [if_pos h1]; exact ⟨fun _ => Or.inl h1, fun _ => by decide⟩
  · rw [if_neg h1]
    by_cases h2 : q_m_hand z (q_m_lock z d.toNatClampNeg).toNatClampNeg = 0
    · rw [if_pos h2]; exact ⟨fun h => absurd rfl h, fun h => absurd h (fun h => by rcases h with h | h; exact h1 h; exact h h2)⟩
    · rw [if_neg h2]; exact ⟨fun _ => Or.inr h2, fun _ => by decide⟩
theorem cost_nat {x : RT} {d : Int32} (hM : RM x) (hd : dv x d) : (f_Mod_costOf x d).toInt.toNat = WR x d.toNatClampNeg := by
  have h1 := hM d.toNatClampNeg (by rw [cl_nn hd.1]; exact hd.2)
  rw [costOf_eq hM hd]
  unfold WR stR
  split <;> omega
/-- whether step d of a round lowers -/
def rkGo (a2 : Int32) (z : RT) (d : Int32) : Int32 := (if (f_Mod_isPassed z (d / 2)) = 0 then 0 else (if (((q_m_hazard z) (if (d - d / 2 * 2) = 0 then (q_m_to z) (d / 2).toNatClampNeg else (q_m_from z) (d / 2).toNatClampNeg : Int32).toNatClampNeg) &&& a2) = 0 then (if ((q_m_least z) (if (d - d / 2 * 2) = 0 then (q_m_to z) (d / 2).toNatClampNeg else (q_m_from z) (d / 2).toNatClampNeg : Int32).toNatClampNeg) ≤ (((q_m_least z) (if (d - d / 2 * 2) = 0 then (q_m_from z) (d / 2).toNatClampNeg else (q_m_to z) (d / 2).toNatClampNeg : Int32).toNatClampNeg) + (f_Mod_costOf z (d / 2))) then 0 else 1) else 0) : Int32)
def rkA (z : RT) (d : Int32) : Nat := (if (d - d / 2 * 2) = 0 then (q_m_from z) (d / 2).toNatClampNeg else (q_m_to z) (d / 2).toNatClampNeg : Int32).toNatClampNeg
def rkB (z : RT) (d : Int32) : Nat := (if (d - d / 2 * 2) = 0 then (q_m_to z) (d / 2).toNatClampNeg else (q_m_from z) (d / 2).toNatClampNeg : Int32).toNatClampNeg
theorem Li_go (a1 a2 : Int32) (k : Nat) (mo d : Int32) (z : RT) : Li_Mod_reckon a1 a2 (k + 1) mo d z = if (2 * (q_m_doors z)) ≤ d then (mo, z) else (if rkGo a2 z d = 0 then Li_Mod_reckon a1 a2 k (if mo = 0 then (if rkGo a2 z d = 0 then 0 else 1) else 1) (d + 1) z else Li_Mod_reckon a1 a2 k (if mo = 0 then (if rkGo a2 z d = 0 then 0 else 1) else 1) (d + 1) (s_m_least z (upd (q_m_least z) (rkB z d) (q_m_least z (rkA z d) + f_Mod_costOf z (d / 2))))) := Li_Mod_reckon_s a1 a2 k mo d z
theorem rkGo_ne {a2 : Int32} {z : RT} {d : Int32} (h : ¬ rkGo a2 z d = 0) : ¬ f_Mod_isPassed z (d / 2) = 0 ∧ q_m_hazard z (rkB z d) &&& a2 = 0 ∧ ¬ q_m_least z (rkB z d) ≤ q_m_least z (rkA z d) + f_Mod_costOf z (d / 2) := rk_T h
theorem rkGo_le {a2 : Int32} {z : RT} {d : Int32} (h : rkGo a2 z d = 0) (h1 : ¬ f_Mod_isPassed z (d / 2) = 0) (h2 : q_m_hazard z (rkB z d) &&& a2 = 0) : q_m_least z (rkB z d) ≤ q_m_least z (rkA z d) + f_Mod_costOf z (d / 2) := by
  have h : (if f_Mod_isPassed z (d / 2) = 0 then (0 : Int32) else (if q_m_hazard z (rkB z d) &&& a2 = 0 then (if q_m_least z (rkB z d) ≤ q_m_least z (rkA z d) + f_Mod_costOf z (d / 2) then 0 else 1) else 0)) = 0 := h
  rw [if_neg h1, if_pos h2] at h
  by_cases hc : q_m_least z (rkB z d) ≤ q_m_least z (rkA z d) + f_Mod_costOf z (d / 2)
  · exact hc
  · rw [if_neg hc] at h
    exact absurd h (by decide)
theorem rk_edge {a2 : Int32} {z : RT} {d : Int32} (hd : dv z (d / 2)) (h1 : ¬ f_Mod_isPassed z (d / 2) = 0) (h2 : q_m_hazard z (rkB z d) &&& a2 = 0) : ER z a2 (d / 2).toNatClampNeg (rkA z d) (rkB z d) := by
  refine ⟨by rw [cl_nn hd.1]; exact hd.2, passed_iff.mp h1, ?_, h2⟩
  unfold rkA rkB
  by_cases hc : d - d / 2 * 2 = 0
  · rw [if_pos hc, if_pos hc]; exact Or.inl ⟨rfl, rfl⟩
  · rw [if_neg hc, if_neg hc]; exact Or.inr ⟨rfl, rfl⟩
theorem rkA_lt {z : RT} {d : Int32} (hI : RIn z) (hd : dv z (d / 2)) : rkA z d < 40 := vp_lt (rk_ite (dv_from hI hd) (dv_to hI hd))
theorem rkB_lt {z : RT} {d : Int32} (hI : RIn z) (hd : dv z (d / 2)) : rkB z d < 40 := vp_lt (rk_ite (dv_to hI hd) (dv_from hI hd))
def FARn : Nat := 100000000
theorem rk_LiI (x : RT) (a1 a2 : Int32) (hI : RIn x) (hM : RM x) {src : Nat → Prop} : ∀ (k : Nat) (mo d : Int32) (z : RT), rkI x d k → ls1 x z → wy_I (ER x a2) (WR x) src FARn (lfn FARn (q_m_least z)) → wy_I (ER x a2) (WR x) src FARn (lfn FARn (q_m_least (Li_Mod_reckon a1 a2 k mo d z).2)) := by
  intro k
  induction k with
  | zero => intro mo d z hi; exact absurd hi.2.2 (by have := hi.2.1; omega)
  | succ k ih =>
    intro mo d z hi hz hw
    rw [Li_go]
    by_cases hc : 2 * q_m_doors z ≤ d
    · rw [if_pos hc]; exact hw
    rw [if_neg hc]
    have hd := rk_dv hz.1 hI hi hc
    have hIz := ls0_in hz.1 hI
    have hMz := ls0_M hz.1 hM
    have hcost := costOf_in hMz hd
    have hn := rk_inc hz.1 hI hi hc
    by_cases hg : rkGo a2 z d = 0
    · rw [if_pos hg]; exact ih _ _ z hn hz hw
    · obtain ⟨g1, g2, g3⟩ := rkGo_ne hg
      have hA := rkA_lt hIz hd
      have hB := rkB_lt hIz hd
      have h3 := ls1_low (x := x) (z := z) (w := f_Mod_costOf z (d / 2)) hz hA ⟨by omega, hcost.2⟩ g3 hB
      rw [if_neg hg]
      refine ih _ _ _ hn h3.1 ?_
      have hE := rk_edge hd g1 g2
      rw [(ER_ls hz.1 a2).1] at hE
      have hwn := cost_nat hMz hd
      rw [(ER_ls hz.1 a2).2] at hwn
      have ha := hz.2 _ hA
      have hb := hz.2 _ hB
      rw [Int32.le_iff_toInt_le, h3.2.2] at g3
      show wy_I (ER x a2) (WR x) src FARn (lfn FARn (upd (q_m_least z) (rkB z d) (q_m_least z (rkA z d) + f_Mod_costOf z (d / 2))))
      rw [lfn_upd (a := rkA z d) (w := WR x (d / 2).toNatClampNeg) hB hA (by rw [h3.2.2, ← hwn]; omega)]
      refine wy_step hw hE ?_ ?_
      · unfold lfn FARn
        rw [if_pos hA]
        omega
      · unfold lfn
        rw [if_pos hA, if_pos hB, ← hwn]
        omega
theorem rk_Lz (x : RT) (a1 a2 : Int32) (hI : RIn x) (hM : RM x) : ∀ (k : Nat) (mo d : Int32) (z : RT), rkI x d k → ls1 x z → (Li_Mod_reckon a1 a2 k mo d z).1 = 0 → (Li_Mod_reckon a1 a2 k mo d z).2 = z ∧ mo = 0 ∧ ∀ d' : Int32, d.toInt ≤ d'.toInt → d'.toInt < 2 * (q_m_doors x).toInt → rkGo a2 z d' = 0 := by
  intro k
  induction k with
  | zero => intro mo d z hi; exact absurd hi.2.2 (by have := hi.2.1; omega)
  | succ k ih =>
    intro mo d z hi hz h0
    rw [Li_go] at h0 ⊢
    by_cases hc : 2 * q_m_doors z ≤ d
    · rw [if_pos hc] at h0 ⊢
      refine ⟨rfl, h0, fun d' h1 h2 => ?_⟩
      rw [ls0_doors hz.1, Int32.le_iff_toInt_le, rk_2d hI] at hc
      omega
    rw [if_neg hc] at h0 ⊢
    have hd := rk_dv hz.1 hI hi hc
    have hIz := ls0_in hz.1 hI
    have hcost := costOf_in (ls0_M hz.1 hM) hd
    have hn := rk_inc hz.1 hI hi hc
    have e1 : (d + 1).toInt = d.toInt + 1 := by
      have h1 := rk_lt hz.1 hI hi hc
      have h3 := hI.2.1
      rw [Int32.toInt_add, show (1 : Int32).toInt = 1 from rfl]
      exact Int.bmod_eq_of_le (by have := hi.1; omega) (by omega)
    by_cases hg : rkGo a2 z d = 0
    · rw [if_pos hg] at h0 ⊢
      obtain ⟨q1, q2, q3⟩ := ih _ _ z hn hz h0
      refine ⟨q1, ?_, fun d' h1 h2 => ?_⟩
      · by_cases hm : mo = 0
        · exact hm
        · rw [if_neg hm] at q2; exact absurd q2 (by decide)
      · by_cases hdd : d'.toInt = d.toInt
        · rw [Int32.toInt_inj.mp hdd]; exact hg
        · exact q3 d' (by omega) h2
    · rw [if_neg hg] at h0
      have g3 := (rkGo_ne hg).2.2
      have h3 := ls1_low (x := x) (z := z) (w := f_Mod_costOf z (d / 2)) hz (rkA_lt hIz hd) ⟨by omega, hcost.2⟩ g3 (rkB_lt hIz hd)
      obtain ⟨-, q2, -⟩ := ih _ _ _ hn h3.1 h0
      rw [if_neg hg] at q2
      split at q2 <;> exact absurd q2 (by decide)
def fixR (x : RT) (a2 : Int32) (z : RT) : Prop := ∀ d' : Int32, 0 ≤ d'.toInt → d'.toInt < 2 * (q_m_doors x).toInt → rkGo a2 z d' = 0
theorem rk_L (x : RT) (a1 a2 : Int32) (hI : RIn x) (hM : RM x) {src : Nat → Prop} : ∀ (k : Nat) (mo : Int32) (z : RT), msum z + 1 + b01 mo ≤ k → ls1 x z → wy_I (ER x a2) (WR x) src FARn (lfn FARn (q_m_least z)) → (mo = 0 → fixR x a2 z) →
    ls1 x (L_Mod_reckon a1 a2 k mo z).2 ∧ wy_I (ER x a2) (WR x) src FARn (lfn FARn (q_m_least (L_Mod_reckon a1 a2 k mo z).2)) ∧ fixR x a2 (L_Mod_reckon a1 a2 k mo z).2 := by
  intro k
  induction k with
  | zero => intro mo z hi; omega
  | succ k ih =>
    intro mo z hi hz hw hf
    rw [L_Mod_reckon_s]
    by_cases hm : mo = 0
    · rw [if_pos hm]; exact ⟨hz, hw, hf hm⟩
    rw [if_neg hm]
    obtain ⟨h1, h2⟩ := rk_Li x a1 a2 hI hM 161 0 0 z (rk_0 hI) hz
    have h8 : b01 0 = 0 := rfl
    have h7 : b01 mo = 1 := if_neg hm
    refine ih _ _ (by omega) h1 (rk_LiI x a1 a2 hI hM 161 0 0 z (rk_0 hI) hz hw) (fun h0 => ?_)
    obtain ⟨q1, -, q3⟩ := rk_Lz x a1 a2 hI hM 161 0 0 z (rk_0 hI) hz h0
    intro d' h9 h10
    rw [q1]
    exact q3 d' h9 h10
theorem ofNat_toInt {n : Nat} (h : n < 1000000) : (Int32.ofNat n).toInt = n := by
  rw [Int32.toInt_ofNat_of_lt (by omega)]
theorem fix_P {x z : RT} {a2 : Int32} (hI : RIn x) (hM : RM x) (hz : ls1 x z) (hf : fixR x a2 z) : wy_P (ER x a2) (WR x) FARn (lfn FARn (q_m_least z)) (lfn FARn (q_m_least z)) := by
  refine ⟨fun v => Nat.le_refl _, fun i u v hE hu => ?_⟩
  have hIz := ls0_in hz.1 hI
  have hMz := ls0_M hz.1 hM
  have hE2 := hE
  rw [← (ER_ls hz.1 a2).1] at hE2
  rw [← (ER_ls hz.1 a2).2]
  obtain ⟨h1, h2, h3, h4⟩ := hE2
  have hdn := hIz.2.1
  have key : ∀ d : Int32, (d / 2).toNatClampNeg = i → dv z (d / 2) → 0 ≤ d.toInt → d.toInt < 2 * (q_m_doors x).toInt → u = rkA z d → v = rkB z d → lfn FARn (q_m_least z) v ≤ lfn FARn (q_m_least z) u + WR z i := by
    intro d e1 hd e2 e3 e4 e5
    have hA := rkA_lt hIz hd
    have hB := rkB_lt hIz hd
    have h5 := rkGo_le (hf d e2 e3) (passed_iff.mpr (by rw [e1]; exact h2)) (by rw [← e5]; exact h4)
    have hc := costOf_in hMz hd
    have hwn := cost_nat hMz hd
    rw [e1] at hwn
    have ha := hz.2 _ hA
    have hb := hz.2 _ hB
    have e : (q_m_least z (rkA z d) + f_Mod_costOf z (d / 2)).toInt = (q_m_least z (rkA z d)).toInt + (f_Mod_costOf z (d / 2)).toInt := by
      rw [Int32.toInt_add]
      exact Int.bmod_eq_of_le (by omega) (by omega)
    rw [Int32.le_iff_toInt_le, e] at h5
    rw [e4, e5]
    unfold lfn
    rw [if_pos hA, if_pos hB, ← hwn]
    omega
  have hdx := ls0_doors hz.1
  rcases h3 with ⟨ea, eb⟩ | ⟨ea, eb⟩
  · have t : (Int32.ofNat (2 * i)).toInt = 2 * i := by rw [ofNat_toInt (by omega)]; omega
    have t2 : (Int32.ofNat (2 * i) / 2).toInt = i := by rw [i2_half (by omega), t]; omega
    have t3 : (Int32.ofNat (2 * i) / 2).toNatClampNeg = i := by have := cl_nn (a := Int32.ofNat (2 * i) / 2) (by omega); omega
    have t4 : Int32.ofNat (2 * i) - Int32.ofNat (2 * i) / 2 * 2 = 0 := Int32.toInt_inj.mp (by
      have m : (Int32.ofNat (2 * i) / 2 * 2).toInt = 2 * i := by
        rw [Int32.toInt_mul, t2, show (2 : Int32).toInt = 2 from rfl]
        rw [Int.bmod_eq_of_le (by omega) (by omega)]
        omega
      rw [Int32.toInt_sub, t, m, show (0 : Int32).toInt = 0 from rfl]
      rw [Int.bmod_eq_of_le (by omega) (by omega)]
      omega)
    refine key _ t3 ⟨by omega, by omega⟩ (by omega) (by rw [t, ← hdx]; omega) ?_ ?_
    · unfold rkA; rw [if_pos t4, t3]; exact ea
    · unfold rkB; rw [if_pos t4, t3]; exact eb
  · have t : (Int32.ofNat (2 * i + 1)).toInt = 2 * i + 1 := by rw [ofNat_toInt (by omega)]; omega
    have t2 : (Int32.ofNat (2 * i + 1) / 2).toInt = i := by rw [i2_half (by omega), t]; omega
    have t3 : (Int32.ofNat (2 * i + 1) / 2).toNatClampNeg = i := by have := cl_nn (a := Int32.ofNat (2 * i + 1) / 2) (by omega); omega
    have t4 : ¬ Int32.ofNat (2 * i + 1) - Int32.ofNat (2 * i + 1) / 2 * 2 = 0 := fun h => by
      have m : (Int32.ofNat (2 * i + 1) / 2 * 2).toInt = 2 * i := by
        rw [Int32.toInt_mul, t2, show (2 : Int32).toInt = 2 from rfl]
        rw [Int.bmod_eq_of_le (by omega) (by omega)]
        omega
      have h9 := congrArg Int32.toInt h
      rw [Int32.toInt_sub, t, m, show (0 : Int32).toInt = 0 from rfl] at h9
      rw [Int.bmod_eq_of_le (by omega) (by omega)] at h9
      omega
    refine key _ t3 ⟨by omega, by omega⟩ (by omega) (by rw [t, ← hdx]; omega) ?_ ?_
    · unfold rkA; rw [if_neg t4, t3]; exact ea
    · unfold rkB; rw [if_neg t4, t3]; exact eb
theorem ER_in {x : RT} {a2 : Int32} (hI : RIn x) (hM : RM x) : ∀ i u v, ER x a2 i u v → u < 40 ∧ 0 < WR x i ∧ WR x i ≤ 50001 := by
  intro i u v hE
  obtain ⟨h1, -, h3, -⟩ := hE
  have h5 := hI.2.2.2.2.2.2.1 i h1
  have h6 := hM i h1
  have h7 := hI.1
  refine ⟨?_, ?_, ?_⟩
  · have a1 := cl_nn h5.1.1
    have a2 := cl_nn h5.2.1.1
    rcases h3 with ⟨e, -⟩ | ⟨e, -⟩ <;> omega
  · unfold WR; omega
  · unfold WR stR; split <;> omega
theorem ER_v {x : RT} {a2 : Int32} (hI : RIn x) : ∀ i u v, ER x a2 i u v → (v : Int) < (q_m_rooms x).toInt ∧ (u : Int) < (q_m_rooms x).toInt := by
  intro i u v hE
  obtain ⟨h1, -, h3, -⟩ := hE
  have h5 := hI.2.2.2.2.2.2.1 i h1
  have a1 := cl_nn h5.1.1
  have a2 := cl_nn h5.2.1.1
  rcases h3 with ⟨e, e'⟩ | ⟨e, e'⟩ <;> omega
/-- what reckon leaves -/
theorem rk_spec (x : RT) (r av : Int32) (hI : RIn x) (hM : RM x) (hr : vp_in r 40) : ls1 x (g_Mod_reckon x r av).2 ∧ wy_I (ER x av) (WR x) (fun v => v = r.toNatClampNeg) FARn (lfn FARn (q_m_least (g_Mod_reckon x r av).2)) ∧ wy_P (ER x av) (WR x) FARn (lfn FARn (q_m_least (g_Mod_reckon x r av).2)) (lfn FARn (q_m_least (g_Mod_reckon x r av).2)) := by
  have h0 : wy_I (ER x av) (WR x) (fun v => v = r.toNatClampNeg) FARn (lfn FARn (q_m_least (s_m_least (Lf_Mod_reckon r av 41 0 x).2 (upd (q_m_least (Lf_Mod_reckon r av 41 0 x).2) r.toNatClampNeg 0)))) := by
    have hrl := vp_lt hr
    obtain ⟨-, h2⟩ := rk_f41 x r av
    have key : ∀ v, lfn FARn (upd (q_m_least (Lf_Mod_reckon r av 41 0 x).2) r.toNatClampNeg 0) v = if v = r.toNatClampNeg then 0 else FARn := by
      intro v
      unfold lfn upd
      by_cases hv : v = r.toNatClampNeg
      · rw [if_pos hv, if_pos hv, if_pos (by omega)]; rfl
      · rw [if_neg hv, if_neg hv]
        by_cases h40 : v < 40
        · rw [if_pos h40, h2 v h40]; rfl
        · rw [if_neg h40]
    show wy_I (ER x av) (WR x) (fun v => v = r.toNatClampNeg) FARn (lfn FARn (upd (q_m_least (Lf_Mod_reckon r av 41 0 x).2) r.toNatClampNeg 0))
    refine ⟨fun v => ?_, fun v hv => ?_, fun v hv => ?_⟩
    · rw [key]; split
      · exact Nat.zero_le _
      · exact Nat.le_refl _
    · rw [key] at hv ⊢
      by_cases e : v = r.toNatClampNeg
      · rw [if_pos e]; exact ⟨0, e, rfl⟩
      · rw [if_neg e] at hv; exact absurd hv (Nat.lt_irrefl _)
    · rw [key, if_pos hv]
  obtain ⟨h1, h2, h3⟩ := rk_L x r av hI hM (src := fun v => v = r.toNatClampNeg) rkF 1 _ (rk_init x r av) (rk_st x r av) h0 (fun h => absurd h (by decide))
  exact ⟨h1, h2, fix_P hI hM h1 h3⟩
/-- a settled row: a room's number is its least cost, or it has no walk -/
theorem wy_val {E : Nat → Nat → Nat → Prop} {w : Nat → Nat} {src : Nat → Prop} {inf M : Nat} {f : Nat → Nat} (hE : ∀ i u v, E i u v → u < 40 ∧ 0 < w i ∧ w i ≤ M) (hinf : 40 * M < inf) (hI : wy_I E w src inf f) (hP : wy_P E w inf f f) {v : Nat} (hv : v < 40) : (f v < inf ∧ wy_d E w src v (f v)) ∨ (f v = inf ∧ ∀ k c, ¬ wy_k E w src k v c) := by
  by_cases h : ∃ k c, wy_k E w src k v c
  · obtain ⟨c, hc⟩ := wy_least h
    have h1 := wy_fix hE hinf hI hP hv hc
    have h2 := wy_bound hE 40 v c hc (Nat.le_of_lt (wy_r_top hv hc))
    left
    rw [h1]
    exact ⟨by omega, hc⟩
  · right
    have h3 : ∀ k c, ¬ wy_k E w src k v c := fun k c hk => h ⟨k, c, hk⟩
    exact ⟨wy_none hI h3, h3⟩
