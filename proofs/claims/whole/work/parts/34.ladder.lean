/-! ladders -/
def LE1 (sq n : Int) : Prop := 1 ≤ n ∧ sq ≤ n * n ∧ (n = 1 ∨ ¬ sq ≤ (n - 1) * (n - 1))
theorem sq_mono {sq n m : Int} (h0 : 0 ≤ n) (h : n ≤ m) (hs : sq ≤ n * n) : sq ≤ m * m := Int.le_trans hs (Int.mul_le_mul h h h0 (Int.le_trans h0 h))
theorem LE1_uniq {sq n m : Int} (h1 : LE1 sq n) (h2 : LE1 sq m) : n = m := by
  obtain ⟨a1, a2, a3⟩ := h1
  obtain ⟨b1, b2, b3⟩ := h2
  rcases Int.lt_trichotomy n m with h | h | h
  · rcases b3 with b3 | b3
    · omega
    · exact absurd (sq_mono (by omega) (by omega) a2) b3
  · exact h
  · rcases a3 with a3 | a3
    · omega
    · exact absurd (sq_mono (by omega) (by omega) b2) a3
theorem cmp_pos (x y : Int64) : 0 < lg_cmp x y ↔ ¬ x.toInt ≤ y.toInt := by
  unfold lg_cmp
  by_cases h1 : x > y
  · rw [if_pos h1]
    have h1 : y < x := h1
    rw [Int64.lt_iff_toInt_lt] at h1
    exact ⟨fun _ => by omega, fun _ => by decide⟩
  · rw [if_neg h1]
    have h1 : ¬ y < x := h1
    rw [Int64.lt_iff_toInt_lt] at h1
    refine ⟨fun h => ?_, fun h => absurd (by omega) h⟩
    split at h <;> exact absurd h (by decide)
theorem cmp_neg (x y : Int64) : lg_cmp x y < 0 ↔ ¬ y.toInt ≤ x.toInt := by
  unfold lg_cmp
  by_cases h1 : x > y
  · rw [if_pos h1]
    have h1 : y < x := h1
    rw [Int64.lt_iff_toInt_lt] at h1
    exact ⟨fun h => absurd h (by decide), fun h => absurd (by omega) h⟩
  · rw [if_neg h1]
    have h1 : ¬ y < x := h1
    rw [Int64.lt_iff_toInt_lt] at h1
    by_cases h2 : x = y
    · rw [if_pos h2, h2]
      exact ⟨fun h => absurd h (by decide), fun h => absurd (Int.le_refl _) h⟩
    · rw [if_neg h2]
      have h3 : x.toInt ≠ y.toInt := fun q => h2 (Int64.toInt_inj.mp q)
      exact ⟨fun _ => by omega, fun _ => by decide⟩
theorem sq64 {n : Int32} (h : 0 ≤ n.toInt) : (n.toInt64 * n.toInt64).toInt = n.toInt * n.toInt := by
  have h1 : n.toInt < 2147483648 := by have := n.toInt_lt; omega
  rw [Int64.toInt_mul, Int32.toInt_toInt64]
  have h2 : n.toInt * n.toInt ≤ 2147483648 * 2147483648 := Int.mul_le_mul (by omega) (by omega) h (by omega)
  have h3 : 0 ≤ n.toInt * n.toInt := Int.mul_nonneg h h
  exact Int.bmod_eq_of_le (by omega) (by omega)
def bts : Nat → Int32
  | 0 => 0
  | j + 1 => Int32.ofNat (2 ^ j)
theorem bts_sh : ∀ j : Fin 18, (bts (j + 1)) >>> (1 &&& 31) = bts j := by decide +kernel
theorem bts_to : ∀ j : Fin 18, (bts (j + 1)).toInt = 2 ^ (j : Nat) ∧ ¬ bts (j + 1) ≤ 0 ∧ (2 : Int) ^ (j : Nat) ≤ 131072 := by decide +kernel
theorem L_least {x : ST} {z : RT} (h : Rel x z) (a1 a2 a3 a4 : Int32) (hw : ¬ f_Mod_in a1 0 (q_m_windows z - 1) = 0) (hz : ¬ q_m_windowZ z a1.toNatClampNeg < a4) : ∀ (j k : Nat) (sh : Int32), j ≤ 18 → j < k → 0 ≤ sh.toInt → sh.toInt + 2 ^ j ≤ 262144 → (f_Mod_squareTo z a1 a2 a3 a4).toInt ≤ (sh.toInt + 2 ^ j) * (sh.toInt + 2 ^ j) → (sh.toInt = 0 ∨ ¬ (f_Mod_squareTo z a1 a2 a3 a4).toInt ≤ sh.toInt * sh.toInt) → LE1 (f_Mod_squareTo z a1 a2 a3 a4).toInt (L_Win_leastLength x a1 a2 a3 a4 k sh (bts j)).toInt := by
  intro j
  induction j with
  | zero =>
    intro k sh _ hk h0 h1 h2 h3
    match k, hk with
    | k + 1, _ =>
    have E : L_Win_leastLength x a1 a2 a3 a4 (k + 1) sh (bts 0) = sh + 1 := rfl
    rw [E]
    have e : (sh + 1).toInt = sh.toInt + 1 := by
      rw [Int32.toInt_add, show (1 : Int32).toInt = 1 from rfl]
      exact Int.bmod_eq_of_le (by omega) (by omega)
    rw [Int.pow_zero] at h2
    rw [e]
    refine ⟨by omega, h2, ?_⟩
    rw [Int.add_sub_cancel]
    rcases h3 with h3 | h3
    · exact Or.inl (by omega)
    · exact Or.inr h3
  | succ j ih =>
    intro k sh hj hk h0 h1 h2 h3
    match k, hk with
    | k + 1, hk =>
    obtain ⟨t1, t2, t3⟩ := bts_to ⟨j, by omega⟩
    have t4 := bts_sh ⟨j, by omega⟩
    have t1 : (bts (j + 1)).toInt = 2 ^ j := t1
    have t2 : ¬ bts (j + 1) ≤ 0 := t2
    have t4 : (bts (j + 1)) >>> (1 &&& 31) = bts j := t4
    have t3 : (2 : Int) ^ j ≤ 131072 := t3
    have hp : (2 : Int) ^ (j + 1) = 2 ^ j + 2 ^ j := by rw [Int.pow_succ]; omega
    rw [hp] at h1 h2
    have hpos : 0 < (2 : Int) ^ j := Int.pow_pos (by decide)
    have E : L_Win_leastLength x a1 a2 a3 a4 (k + 1) sh (bts (j + 1)) = if bts (j + 1) ≤ 0 then sh + 1 else (if (f_Win_isReached x a1 a2 a3 a4 (sh + bts (j + 1))) = 0 then L_Win_leastLength x a1 a2 a3 a4 k (sh + bts (j + 1)) ((bts (j + 1)) >>> (1 &&& 31)) else L_Win_leastLength x a1 a2 a3 a4 k sh ((bts (j + 1)) >>> (1 &&& 31))) := rfl
    rw [E, if_neg t2, t4]
    generalize (2 : Int) ^ j = P at *
    have e : (sh + bts (j + 1)).toInt = sh.toInt + P := by
      rw [Int32.toInt_add, t1]
      exact Int.bmod_eq_of_le (by omega) (by omega)
    have hsq : (f_Win_isReached x a1 a2 a3 a4 (sh + bts (j + 1)) = 0) ↔ ¬ (f_Mod_squareTo z a1 a2 a3 a4).toInt ≤ (sh.toInt + P) * (sh.toInt + P) := by
      rw [sqC h a1 a2 a3 a4 _ hw, if_neg hz]
      have hc := cmp_pos (f_Mod_squareTo z a1 a2 a3 a4) ((sh + bts (j + 1)).toInt64 * (sh + bts (j + 1)).toInt64)
      rw [sq64 (by omega), e] at hc
      by_cases c : 0 < lg_cmp (f_Mod_squareTo z a1 a2 a3 a4) ((sh + bts (j + 1)).toInt64 * (sh + bts (j + 1)).toInt64)
      · rw [if_pos c]; exact ⟨fun _ => hc.mp c, fun _ => rfl⟩
      · rw [if_neg c]; exact ⟨fun q => absurd q (by decide), fun q => absurd (hc.mpr q) c⟩
    by_cases c : f_Win_isReached x a1 a2 a3 a4 (sh + bts (j + 1)) = 0
    · rw [if_pos c]
      refine ih k _ (by omega) (by omega) (by omega) (by rw [e]; omega) ?_ ?_
      · rw [e, Int.add_assoc]; exact h2
      · rw [e]; exact Or.inr (hsq.mp c)
    · rw [if_neg c]
      exact ih k sh (by omega) (by omega) h0 (by omega) (Classical.not_not.mp (fun q => c (hsq.mpr q))) h3
theorem L_lad (a1 a2 a3 a4 : Int32) (sq : Int64) (z : RT) : ∀ (k : Nat) (lo hg : Int32), 1 ≤ lo.toInt → lo.toInt ≤ hg.toInt → hg.toInt ≤ 200000 → hg.toInt - lo.toInt < (k : Int) → sq.toInt ≤ hg.toInt * hg.toInt → (lo.toInt = 1 ∨ ¬ sq.toInt ≤ (lo.toInt - 1) * (lo.toInt - 1)) → ∃ N : Int32, L_Mod_ladder a1 a2 a3 a4 k sq lo hg z = (N, z) ∧ LE1 sq.toInt N.toInt := by
  intro k
  induction k with
  | zero => intro lo hg h1 h2 h3 h4; omega
  | succ k ih =>
    intro lo hg h1 h2 h3 h4 h5 h6
    have E : L_Mod_ladder a1 a2 a3 a4 (k + 1) sq lo hg z = if hg ≤ lo then (lo, z) else (if (lg_cmp ((((lo + hg) / 2).toInt64) * (((lo + hg) / 2).toInt64)) sq) < 0 then L_Mod_ladder a1 a2 a3 a4 k sq (((lo + hg) / 2) + 1) hg z else L_Mod_ladder a1 a2 a3 a4 k sq lo ((lo + hg) / 2) z) := rfl
    rw [E]
    by_cases c1 : hg ≤ lo
    · rw [if_pos c1]
      rw [Int32.le_iff_toInt_le] at c1
      have : hg.toInt = lo.toInt := by omega
      rw [this] at h5
      exact ⟨lo, rfl, h1, h5, h6⟩
    rw [if_neg c1]
    rw [Int32.le_iff_toInt_le] at c1
    have e1 : (lo + hg).toInt = lo.toInt + hg.toInt := by
      rw [Int32.toInt_add]
      exact Int.bmod_eq_of_le (by omega) (by omega)
    have e2 : ((lo + hg) / 2).toInt = (lo.toInt + hg.toInt) / 2 := by rw [i2_half (by omega), e1]
    have hc := cmp_neg (((lo + hg) / 2).toInt64 * ((lo + hg) / 2).toInt64) sq
    rw [sq64 (by omega)] at hc
    by_cases c2 : lg_cmp (((lo + hg) / 2).toInt64 * ((lo + hg) / 2).toInt64) sq < 0
    · rw [if_pos c2]
      have e3 : ((lo + hg) / 2 + 1).toInt = ((lo + hg) / 2).toInt + 1 := by
        rw [Int32.toInt_add, show (1 : Int32).toInt = 1 from rfl]
        exact Int.bmod_eq_of_le (by omega) (by omega)
      exact ih _ _ (by omega) (by omega) h3 (by omega) h5 (Or.inr (by rw [e3, Int.add_sub_cancel]; exact hc.mp c2))
    · rw [if_neg c2]
      exact ih _ _ h1 (by omega) (by omega) (by omega) (Classical.not_not.mp (fun q => c2 (hc.mpr q))) h6
set_option maxHeartbeats 1000000 in
theorem R_ladder {x : ST} {z : RT} (h : Rel x z) (a1 a2 a3 a4 : Int32) : RG (hv_ladder x a1 a2 a3 a4) (hs_ladder x a1 a2 a3 a4) (g_Mod_ladder z a1 a2 a3 a4) (k_Plan_ladder x a1 a2 a3 a4 = 0 → f_Plan_ladder x a1 a2 a3 a4 = (g_Mod_ladder z a1 a2 a3 a4).1) := by
  have hE := h.1
  obtain ⟨e_fl, e_kd, e_hz, e_rn, e_da, e_db, e_dk, e_dn, e_kh, e_rd, e_rl, e_rs, e_re, e_tl, e_tn, e_tr, e_tc, e_pa, e_pb, e_pn, e_pc, e_wx, e_wy, e_wz, e_wc, e_ld, e_lt⟩ := hE
  by_cases c1 : f_Mod_in a1 0 (q_m_windows z - 1) = 0
  · have hk : k_Plan_ladder x a1 a2 a3 a4 = 1 := by simp only [k_Plan_ladder, w_win h, w_pt, c1, ↓reduceIte, not_true_eq_false, not_false_eq_true, n10, n20, n30, n40, n21, n31, n41, n32, n42, n43, kadd, i10]
    have e : g_Mod_ladder z a1 a2 a3 a4 = (0, s_m_thrown z 1) := by simp only [g_Mod_ladder,  c1, ↓reduceIte, thw1, thw2, thw3, thw4, not_true_eq_false, not_false_eq_true, n10, n20, n30, n40, n21, n31, n41, n32, n42, n43, kadd, i10]
    have hv : hv_ladder x a1 a2 a3 a4 = 1 := by simp only [hv_ladder, hk, ↓reduceIte, not_true_eq_false, not_false_eq_true, n10, n20, n30, n40, n21, n31, n41, n32, n42, n43, kadd, i10]
    have hs : hs_ladder x a1 a2 a3 a4 = x := by simp only [hs_ladder, hk, ↓reduceIte, not_true_eq_false, not_false_eq_true, n10, n20, n30, n40, n21, n31, n41, n32, n42, n43, kadd, i10]
    rw [hv, hs]
    exact RG.thrown h _ e (fun hq => absurd (hk.symm.trans hq) (by decide))
  by_cases c2 : f_Mod_isPoint a2 a3 a4 = 0
  · have hk : k_Plan_ladder x a1 a2 a3 a4 = 2 := by simp only [k_Plan_ladder, w_win h, w_pt, c1, c2, ↓reduceIte, not_true_eq_false, not_false_eq_true, n10, n20, n30, n40, n21, n31, n41, n32, n42, n43, kadd, i10]
    have e : g_Mod_ladder z a1 a2 a3 a4 = (0, s_m_thrown z 2) := by simp only [g_Mod_ladder,  c1, c2, ↓reduceIte, thw1, thw2, thw3, thw4, not_true_eq_false, not_false_eq_true, n10, n20, n30, n40, n21, n31, n41, n32, n42, n43, kadd, i10]
    have hv : hv_ladder x a1 a2 a3 a4 = 2 := by simp only [hv_ladder, hk, ↓reduceIte, not_true_eq_false, not_false_eq_true, n10, n20, n30, n40, n21, n31, n41, n32, n42, n43, kadd, i10]
    have hs : hs_ladder x a1 a2 a3 a4 = x := by simp only [hs_ladder, hk, ↓reduceIte, not_true_eq_false, not_false_eq_true, n10, n20, n30, n40, n21, n31, n41, n32, n42, n43, kadd, i10]
    rw [hv, hs]
    exact RG.thrown h _ e (fun hq => absurd (hk.symm.trans hq) (by decide))
  have hk : k_Plan_ladder x a1 a2 a3 a4 = 0 := by simp only [k_Plan_ladder, w_win h, w_pt, c1, c2, ↓reduceIte, not_true_eq_false, not_false_eq_true, n10, n20, n30, n40, n21, n31, n41, n32, n42, n43, kadd, i10]
  have hv : hv_ladder x a1 a2 a3 a4 = 0 := by simp only [hv_ladder, hk, ↓reduceIte, not_true_eq_false, not_false_eq_true, n10, n20, n30, n40, n21, n31, n41, n32, n42, n43, kadd, i10]
  have e : g_Mod_ladder z a1 a2 a3 a4 = (f_Plan_ladder x a1 a2 a3 a4, s_m_thrown z 0) := by
    simp only [g_Mod_ladder, f_Plan_ladder, f_Win_leastLength, w_win h, w_pt, c1, c2, ↓reduceIte, thw0, sqC h a1 a2 a3 a4 200000 c1, qR_m_thrown]
    show (if q_m_windowZ z a1.toNatClampNeg < a4 then _ else if lg_cmp (f_Mod_squareTo z a1 a2 a3 a4) 40000000000 ≤ 0 then L_Mod_ladder a1 a2 a3 a4 200000 (f_Mod_squareTo z a1 a2 a3 a4) 1 200000 (s_m_thrown z 0) else _) = _
    by_cases c4 : q_m_windowZ z a1.toNatClampNeg < a4
    · simp only [c4, ↓reduceIte]
    simp only [c4, ↓reduceIte]
    have e40 : (200000 : Int32).toInt64 * (200000 : Int32).toInt64 = (40000000000 : Int64) := by decide
    rw [e40]
    have hle : lg_cmp (f_Mod_squareTo z a1 a2 a3 a4) 40000000000 ≤ 0 ↔ ¬ 0 < lg_cmp (f_Mod_squareTo z a1 a2 a3 a4) 40000000000 := by
      rw [Int32.le_iff_toInt_le, Int32.lt_iff_toInt_lt]; omega
    by_cases c5 : 0 < lg_cmp (f_Mod_squareTo z a1 a2 a3 a4) 40000000000
    · rw [if_neg (fun q => hle.mp q c5)]
      simp only [c5, ↓reduceIte]
    · rw [if_pos (hle.mpr c5)]
      simp only [c5, ↓reduceIte, i10]
      have hs : (f_Mod_squareTo z a1 a2 a3 a4).toInt ≤ 40000000000 := by
        have := (cmp_pos (f_Mod_squareTo z a1 a2 a3 a4) 40000000000)
        exact Classical.not_not.mp (fun q => c5 (this.mpr q))
      obtain ⟨N, hN, hL⟩ := L_lad a1 a2 a3 a4 (f_Mod_squareTo z a1 a2 a3 a4) (s_m_thrown z 0) 200000 1 200000 (by decide) (by decide) (by decide) (by decide) (by rw [show (200000 : Int32).toInt = 200000 from rfl]; omega) (Or.inl rfl)
      rw [hN]
      have hM := L_least h a1 a2 a3 a4 c1 c4 18 19 0 (by omega) (by omega) (by decide) (by decide) (by rw [show (0 : Int32).toInt + 2 ^ 18 = 262144 from by decide]; omega) (Or.inl rfl)
      have : N = L_Win_leastLength x a1 a2 a3 a4 19 0 131072 := Int32.toInt_inj.mp (LE1_uniq hL hM)
      rw [this]
  have hs : hs_ladder x a1 a2 a3 a4 = x := by simp only [hs_ladder, hk, ↓reduceIte]
  rw [hv, hs]
  exact RG.thrown h _ e (fun _ => by rw [e])
