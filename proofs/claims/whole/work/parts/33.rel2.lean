/-! class and reference side by side, 2 -/
theorem kcnt_le (f : Nat → Int32) : ∀ n, kcnt f n ≤ n := by
  intro n
  induction n with
  | zero => exact Nat.le_refl _
  | succ n ih =>
    unfold kcnt
    split <;> omega
theorem L_cnt (z : RT) (a : Int32) (hh : ∀ j : Nat, q_m_hand z j = 0 ∨ q_m_hand z j = 1) : ∀ (k : Nat) (n i : Int32) (j : Nat), j ≤ 30 → i.toInt = j + 1 → n.toInt = (kcnt (q_m_hand z) j : Nat) → 30 - j < k → ∃ N : Int32, N.toInt = (kcnt (q_m_hand z) 30 : Nat) ∧ L_Mod_count a k n i z = (if a = 0 then q_m_rooms z else (if a = 1 then q_m_doors z else (if a = 2 then q_m_detectors z else (if a = 3 then q_m_windows z else N))), z) := by
  intro k
  induction k with
  | zero => intro n i j hj _ _ hk; omega
  | succ k ih =>
    intro n i j hj hi hn hk
    have E1 : L_Mod_count a (k + 1) n i z = if 30 < i then (if a = 0 then (q_m_rooms z, z) else (if a = 1 then (q_m_doors z, z) else (if a = 2 then (q_m_detectors z, z) else (if a = 3 then (q_m_windows z, z) else (n, z))))) else L_Mod_count a k (n + (if ((q_m_hand z) i.toNatClampNeg) = 0 then 0 else 1 : Int32)) (i + 1) z := rfl
    rw [E1]
    by_cases h1 : 30 < i
    · rw [if_pos h1]
      rw [Int32.lt_iff_toInt_lt, show (30 : Int32).toInt = 30 from rfl] at h1
      have : j = 30 := by omega
      refine ⟨n, by rw [← this]; exact hn, ?_⟩
      repeat' split
      all_goals rfl
    · rw [if_neg h1]
      rw [Int32.lt_iff_toInt_lt, show (30 : Int32).toInt = 30 from rfl] at h1
      have hci := cl_nn (a := i) (by omega)
      have hi2 : i.toNatClampNeg = j + 1 := by omega
      have hle := kcnt_le (q_m_hand z) j
      refine ih _ _ (j + 1) (by omega) (by rw [inc1 (by omega)]; omega) ?_ (by omega)
      rw [hi2]
      show _ = ((kcnt (q_m_hand z) j + (if q_m_hand z (j + 1) = 0 then 0 else 1) : Nat) : Int)
      by_cases h2 : q_m_hand z (j + 1) = 0
      · rw [if_pos h2, if_pos h2, Int32.toInt_add, show (0 : Int32).toInt = 0 from rfl, hn]
        rw [Int.bmod_eq_of_le (by omega) (by omega)]; omega
      · rw [if_neg h2, if_neg h2, inc1 (by omega), hn]; omega
set_option maxHeartbeats 1000000 in
theorem R_count {x : ST} {z : RT} (h : Rel x z) (a1 : Int32) : RG (hv_count x a1) (hs_count x a1) (g_Mod_count z a1) (k_Plan_count x a1 = 0 → f_Plan_count x a1 = (g_Mod_count z a1).1) := by
  have hE := h.1
  obtain ⟨e_fl, e_kd, e_hz, e_rn, e_da, e_db, e_dk, e_dn, e_kh, e_rd, e_rl, e_rs, e_re, e_tl, e_tn, e_tr, e_tc, e_pa, e_pb, e_pn, e_pc, e_wx, e_wy, e_wz, e_wc, e_ld, e_lt⟩ := hE
  by_cases c1 : f_Mod_in a1 0 4 = 0
  · have hk : k_Plan_count x a1 = 1 := by simp only [k_count, c1, ↓reduceIte, not_true_eq_false, not_false_eq_true, n10, n20, n30, n40, n21, n31, n41, n32, n42, n43, kadd, i10]
    have e : g_Mod_count z a1 = (0, s_m_thrown z 1) := by simp only [g_Mod_count,  c1, ↓reduceIte, thw1, thw2, thw3, thw4, not_true_eq_false, not_false_eq_true, n10, n20, n30, n40, n21, n31, n41, n32, n42, n43, kadd, i10]
    have hv : hv_count x a1 = 1 := by simp only [hv_count, hk, ↓reduceIte, not_true_eq_false, not_false_eq_true, n10, n20, n30, n40, n21, n31, n41, n32, n42, n43, kadd, i10]
    have hs : hs_count x a1 = x := by simp only [hs_count, hk, ↓reduceIte, not_true_eq_false, not_false_eq_true, n10, n20, n30, n40, n21, n31, n41, n32, n42, n43, kadd, i10]
    rw [hv, hs]
    exact RG.thrown h _ e (fun hq => absurd (hk.symm.trans hq) (by decide))
  have hk : k_Plan_count x a1 = 0 := by simp only [k_count, c1, ↓reduceIte, not_true_eq_false, not_false_eq_true, n10, n20, n30, n40, n21, n31, n41, n32, n42, n43, kadd, i10]
  have hv : hv_count x a1 = 0 := by simp only [hv_count, hk, ↓reduceIte, not_true_eq_false, not_false_eq_true, n10, n20, n30, n40, n21, n31, n41, n32, n42, n43, kadd, i10]
  have e : g_Mod_count z a1 = (f_Plan_count x a1, s_m_thrown z 0) := by
    simp only [g_Mod_count, f_Plan_count, c1, ↓reduceIte, thw0, e_rn, e_dn, e_tc, e_wc]
    obtain ⟨N, hN, hL⟩ := L_cnt (s_m_thrown z 0) a1 (fun j => h.2.2.2.2.2.2.2.2.1 j) 32 0 1 0 (by omega) rfl rfl (by omega)
    rw [hL]
    have hN2 : N = q_kn x := Int32.toInt_inj.mp (by rw [hN, h.2.2.2.2.2.2.2.2.2.1]; rfl)
    rw [hN2]
    simp only [qR_m_thrown]
    rcases in04 c1 with c | c | c | c | c <;> simp only [c, ↓reduceIte, i10, i20, i21, i30, i31, i32, i40, i41, i42, i43]
  have hs : hs_count x a1 = x := by simp only [hs_count, hk, ↓reduceIte]
  rw [hv, hs]
  exact RG.thrown h _ e (fun _ => by rw [e])
theorem betw (a b c : Int32) : f_Crowd_isBetween a b c = (if c < b then (if b ≤ a then 1 else (if c < a then 0 else 1)) else (if a < b then 0 else (if c < a then 0 else 1)) : Int32) := by
  unfold f_Crowd_isBetween
  by_cases h : c < b
  · rw [if_pos h, if_neg (fun hq => by rw [Int32.le_iff_toInt_le] at hq; rw [Int32.lt_iff_toInt_lt] at h; omega)]
  · rw [if_neg h, if_pos (by rw [Int32.le_iff_toInt_le]; rw [Int32.lt_iff_toInt_lt] at h; omega)]
theorem L_ins {x : ST} {z : RT} (h : Rel x z) (a b : Int32) (ha : ¬ f_Mod_in a (-1) 19 = 0) : ∀ (k : Nat) (n i : Int32), (0 ≤ i.toInt ∧ i.toInt ≤ (q_m_rows z).toInt ∧ (q_m_rows z).toInt - i.toInt < (k : Int)) → L_Mod_inside a b k n i z = (L_Crowd_sum x a b k n i, z) := by
  obtain ⟨hE, hI, -, hC⟩ := h
  obtain ⟨e_fl, e_kd, e_hz, e_rn, e_da, e_db, e_dk, e_dn, e_kh, e_rd, e_rl, e_rs, e_re, e_tl, e_tn, e_tr, e_tc, e_pa, e_pb, e_pn, e_pc, e_wx, e_wy, e_wz, e_wc, e_ld, e_lt⟩ := hE
  have c2 := hC.2.1
  rw [in_iff, show (-1 : Int32).toInt = -1 from rfl] at ha
  have hneg : a < 0 ↔ a = -1 := by
    rw [Int32.lt_iff_toInt_lt, show (0 : Int32).toInt = 0 from rfl]
    exact ⟨fun q => Int32.toInt_inj.mp (by rw [show (-1 : Int32).toInt = -1 from rfl]; omega), fun q => by rw [q]; decide⟩
  intro k
  induction k with
  | zero => intro n i hi; exact absurd hi.2.2 (by have := hi.2.1; omega)
  | succ k ih =>
    intro n i hi
    have E1 : L_Mod_inside a b (k + 1) n i z = if (q_m_rows z) ≤ i then (n, z) else L_Mod_inside a b k (n + (if (if ((q_m_rowTo z) i.toNatClampNeg) < ((q_m_rowFrom z) i.toNatClampNeg) then (if ((q_m_rowFrom z) i.toNatClampNeg) ≤ b then 1 else (if ((q_m_rowTo z) i.toNatClampNeg) < b then 0 else 1)) else (if b < ((q_m_rowFrom z) i.toNatClampNeg) then 0 else (if ((q_m_rowTo z) i.toNatClampNeg) < b then 0 else 1)) : Int32) = 0 then 0 else (if a < 0 then (q_m_rowMany z) i.toNatClampNeg else (if ((q_m_floor z) ((q_m_rowRoom z) i.toNatClampNeg).toNatClampNeg) = a then (q_m_rowMany z) i.toNatClampNeg else 0)) : Int32)) (i + 1) z := rfl
    have E2 : L_Crowd_sum x a b (k + 1) n i = if (q_m_rows z) ≤ i then n else (if a = (-1) then (if (f_Crowd_isBetween b ((q_m_rowFrom z) i.toNatClampNeg) ((q_m_rowTo z) i.toNatClampNeg)) = 0 then L_Crowd_sum x a b k n (i + 1) else L_Crowd_sum x a b k (n + ((q_m_rowMany z) i.toNatClampNeg)) (i + 1)) else (if ((q_pf x) i.toNatClampNeg) = a then (if (f_Crowd_isBetween b ((q_m_rowFrom z) i.toNatClampNeg) ((q_m_rowTo z) i.toNatClampNeg)) = 0 then L_Crowd_sum x a b k n (i + 1) else L_Crowd_sum x a b k (n + ((q_m_rowMany z) i.toNatClampNeg)) (i + 1)) else L_Crowd_sum x a b k n (i + 1))) := by
      rw [← e_pc, ← e_pa, ← e_pb, ← e_pn]; rfl
    rw [E1, E2]
    by_cases h1 : q_m_rows z ≤ i
    · rw [if_pos h1, if_pos h1]
    rw [if_neg h1, if_neg h1]
    have hn := lp_inc hi h1 (N := 60) hI.2.2.2.1.2 (by decide)
    have hci := cl_nn hi.1
    have hpf := c2 i.toNatClampNeg (by rw [Int32.le_iff_toInt_le] at h1; omega)
    rw [hpf, ← betw, ih _ _ hn]
    have a0 : n + 0 = n := Int32.add_zero n
    by_cases h2 : f_Crowd_isBetween b ((q_m_rowFrom z) i.toNatClampNeg) ((q_m_rowTo z) i.toNatClampNeg) = 0
    · rw [if_pos h2, if_pos h2, a0]
      repeat' split
      all_goals rfl
    · rw [if_neg h2, if_neg h2]
      by_cases h3 : a = -1
      · rw [if_pos h3, if_pos (hneg.mpr h3)]
      · rw [if_neg h3, if_neg (fun q => h3 (hneg.mp q))]
        by_cases h4 : q_m_floor z (q_m_rowRoom z i.toNatClampNeg).toNatClampNeg = a
        · rw [if_pos h4, if_pos h4]
        · rw [if_neg h4, if_neg h4, a0]
set_option maxHeartbeats 1000000 in
theorem R_inside {x : ST} {z : RT} (h : Rel x z) (a1 a2 : Int32) : RG (hv_inside x a1 a2) (hs_inside x a1 a2) (g_Mod_inside z a1 a2) (k_Plan_inside x a1 a2 = 0 → f_Plan_inside x a1 a2 = (g_Mod_inside z a1 a2).1) := by
  have hE := h.1
  obtain ⟨e_fl, e_kd, e_hz, e_rn, e_da, e_db, e_dk, e_dn, e_kh, e_rd, e_rl, e_rs, e_re, e_tl, e_tn, e_tr, e_tc, e_pa, e_pb, e_pn, e_pc, e_wx, e_wy, e_wz, e_wc, e_ld, e_lt⟩ := hE
  by_cases c1 : f_Mod_in a1 (-1) 19 = 0
  · have hk : k_Plan_inside x a1 a2 = 1 := by simp only [k_inside, c1, ↓reduceIte, not_true_eq_false, not_false_eq_true, n10, n20, n30, n40, n21, n31, n41, n32, n42, n43, kadd, i10]
    have e : g_Mod_inside z a1 a2 = (0, s_m_thrown z 1) := by simp only [g_Mod_inside, f_Mod_isHour, c1, ↓reduceIte, thw1, thw2, thw3, thw4, not_true_eq_false, not_false_eq_true, n10, n20, n30, n40, n21, n31, n41, n32, n42, n43, kadd, i10]
    have hv : hv_inside x a1 a2 = 1 := by simp only [hv_inside, hk, ↓reduceIte, not_true_eq_false, not_false_eq_true, n10, n20, n30, n40, n21, n31, n41, n32, n42, n43, kadd, i10]
    have hs : hs_inside x a1 a2 = x := by simp only [hs_inside, hk, ↓reduceIte, not_true_eq_false, not_false_eq_true, n10, n20, n30, n40, n21, n31, n41, n32, n42, n43, kadd, i10]
    rw [hv, hs]
    exact RG.thrown h _ e (fun hq => absurd (hk.symm.trans hq) (by decide))
  by_cases c2 : f_Mod_in a2 0 23 = 0
  · have hk : k_Plan_inside x a1 a2 = 2 := by simp only [k_inside, c1, c2, ↓reduceIte, not_true_eq_false, not_false_eq_true, n10, n20, n30, n40, n21, n31, n41, n32, n42, n43, kadd, i10]
    have e : g_Mod_inside z a1 a2 = (0, s_m_thrown z 2) := by simp only [g_Mod_inside, f_Mod_isHour, c1, c2, ↓reduceIte, thw1, thw2, thw3, thw4, not_true_eq_false, not_false_eq_true, n10, n20, n30, n40, n21, n31, n41, n32, n42, n43, kadd, i10]
    have hv : hv_inside x a1 a2 = 2 := by simp only [hv_inside, hk, ↓reduceIte, not_true_eq_false, not_false_eq_true, n10, n20, n30, n40, n21, n31, n41, n32, n42, n43, kadd, i10]
    have hs : hs_inside x a1 a2 = x := by simp only [hs_inside, hk, ↓reduceIte, not_true_eq_false, not_false_eq_true, n10, n20, n30, n40, n21, n31, n41, n32, n42, n43, kadd, i10]
    rw [hv, hs]
    exact RG.thrown h _ e (fun hq => absurd (hk.symm.trans hq) (by decide))
  have hk : k_Plan_inside x a1 a2 = 0 := by simp only [k_inside, c1, c2, ↓reduceIte, not_true_eq_false, not_false_eq_true, n10, n20, n30, n40, n21, n31, n41, n32, n42, n43, kadd, i10]
  have hv : hv_inside x a1 a2 = 0 := by simp only [hv_inside, hk, ↓reduceIte, not_true_eq_false, not_false_eq_true, n10, n20, n30, n40, n21, n31, n41, n32, n42, n43, kadd, i10]
  have e : g_Mod_inside z a1 a2 = (f_Plan_inside x a1 a2, s_m_thrown z 0) := by
    have d1 : ¬ a1 < -1 := fun q => c1 (by unfold f_Mod_in; rw [if_pos q])
    have d2 : a1 ≤ 19 := by have := (in_iff a1 (-1) 19).mp c1; rw [Int32.le_iff_toInt_le]; exact this.2
    simp only [g_Mod_inside, f_Plan_inside, f_Mod_isHour, w_in, c1, c2, d1, d2, ↓reduceIte, thw0, f_Crowd_sum]
    exact L_ins (h.thr 0) a1 a2 c1 61 0 0 (lp_0 (N := 60) h.2.1.2.2.2.1 (by decide))
  have hs : hs_inside x a1 a2 = x := by simp only [hs_inside, hk, ↓reduceIte]
  rw [hv, hs]
  exact RG.thrown h _ e (fun _ => by rw [e])
theorem L_any {x : ST} {z : RT} (h : Rel x z) (a ky : Int32) : ∀ (k : Nat) (op i : Int32), (0 ≤ i.toInt ∧ i.toInt ≤ (q_m_doors z).toInt ∧ (q_m_doors z).toInt - i.toInt < (k : Int)) → (op = 0 ∨ op = 1) → Li_Mod_missing a z k op i ky = if op = 0 then L_Doors_anyHasKey x ky k i else 1 := by
  obtain ⟨hE, hI, -, hC⟩ := h
  obtain ⟨e_fl, e_kd, e_hz, e_rn, e_da, e_db, e_dk, e_dn, e_kh, e_rd, e_rl, e_rs, e_re, e_tl, e_tn, e_tr, e_tc, e_pa, e_pb, e_pn, e_pc, e_wx, e_wy, e_wz, e_wc, e_ld, e_lt⟩ := hE
  intro k
  induction k with
  | zero => intro op i hi; exact absurd hi.2.2 (by have := hi.2.1; omega)
  | succ k ih =>
    intro op i hi hop
    have E1 : Li_Mod_missing a z (k + 1) op i ky = if (q_m_doors z) ≤ i then op else Li_Mod_missing a z k (if op = 0 then (if ((q_m_lock z) i.toNatClampNeg) = ky then 1 else 0) else 1 : Int32) (i + 1) ky := rfl
    have E2 : L_Doors_anyHasKey x ky (k + 1) i = if (q_m_doors z) ≤ i then 0 else (if ((q_m_lock z) i.toNatClampNeg) = ky then 1 else L_Doors_anyHasKey x ky k (i + 1)) := by
      rw [← e_dn, ← e_dk]; rfl
    rw [E1, E2]
    by_cases h1 : q_m_doors z ≤ i
    · rw [if_pos h1, if_pos h1]
      rcases hop with q | q <;> rw [q] <;> rfl
    rw [if_neg h1, if_neg h1]
    have hn := lp_inc hi h1 (N := 80) hI.2.1.2 (by decide)
    rcases hop with q | q
    · rw [q, if_pos rfl, if_pos rfl]
      by_cases h2 : q_m_lock z i.toNatClampNeg = ky
      · rw [if_pos h2, if_pos h2, ih _ _ hn (Or.inr rfl), if_neg (by decide)]
      · rw [if_neg h2, if_neg h2, ih _ _ hn (Or.inl rfl), if_pos rfl]
    · rw [q, if_neg (by decide), if_neg (by decide), ih _ _ hn (Or.inr rfl), if_neg (by decide)]
theorem at_hand {x : ST} {z : RT} (h : Rel x z) {k : Int32} (hk : 1 ≤ k.toInt ∧ k.toInt ≤ 30) : f_Keys_isAtHand x k = if q_m_hand z k.toNatClampNeg = 0 then 0 else 1 := by
  obtain ⟨hE, -, -, -⟩ := h
  obtain ⟨e_fl, e_kd, e_hz, e_rn, e_da, e_db, e_dk, e_dn, e_kh, e_rd, e_rl, e_rs, e_re, e_tl, e_tn, e_tr, e_tc, e_pa, e_pb, e_pn, e_pc, e_wx, e_wy, e_wz, e_wc, e_ld, e_lt⟩ := hE
  unfold f_Keys_isAtHand
  rw [w_key, if_neg ((in_iff k 1 30).mpr hk), e_kh]
theorem L_mis {x : ST} {z : RT} (h : Rel x z) (a : Int32) : ∀ (k k' : Nat) (lft i : Int32), 1 ≤ i.toInt → i.toInt ≤ 31 → 31 - i.toInt < (k : Int) → 31 - i.toInt < (k' : Int) → L_Mod_missing a k lft i z = (L_Plan_missing x a k' lft i, z) := by
  intro k
  induction k with
  | zero => intro k' lft i h1 h2 h3 h4; omega
  | succ k ih =>
    intro k' lft i h1 h2 h3 h4
    match k', h4 with
    | 0, h4 => omega
    | k' + 1, h4 =>
    have E1 : L_Mod_missing a (k + 1) lft i z = if 30 < i then ((-1), z) else (if (Li_Mod_missing a z 81 0 0 i) = 0 then L_Mod_missing a k lft (i + 1) z else (if ((q_m_hand z) i.toNatClampNeg) = 0 then (if lft = 0 then (i, z) else L_Mod_missing a k (lft + (-1)) (i + 1) z) else L_Mod_missing a k lft (i + 1) z)) := rfl
    have E2 : L_Plan_missing x a (k' + 1) lft i = if 30 < i then (-1) else (if (f_Keys_isAtHand x i) = 0 then (if (f_Doors_anyHasKey x i) = 0 then L_Plan_missing x a k' lft (i + 1) else (if lft = 0 then i else L_Plan_missing x a k' (lft + (-1)) (i + 1))) else L_Plan_missing x a k' lft (i + 1)) := rfl
    rw [E1, E2]
    by_cases c1 : 30 < i
    · rw [if_pos c1, if_pos c1]
    rw [if_neg c1, if_neg c1]
    rw [Int32.lt_iff_toInt_lt, show (30 : Int32).toInt = 30 from rfl] at c1
    have hi1 : (i + 1).toInt = i.toInt + 1 := inc1 (by omega)
    have ih1 := fun l => ih k' l (i + 1) (by omega) (by omega) (by omega) (by omega)
    rw [at_hand h ⟨h1, by omega⟩, L_any h a i 81 0 0 (lp_0 (N := 80) h.2.1.2.1 (by decide)) (Or.inl rfl), if_pos rfl, ih1, ih1]
    show _ = (if (if q_m_hand z i.toNatClampNeg = 0 then (0 : Int32) else 1) = 0 then (if L_Doors_anyHasKey x i 81 0 = 0 then L_Plan_missing x a k' lft (i + 1) else (if lft = 0 then i else L_Plan_missing x a k' (lft + (-1)) (i + 1))) else L_Plan_missing x a k' lft (i + 1), z)
    by_cases c2 : L_Doors_anyHasKey x i 81 0 = 0
    · rw [if_pos c2, if_pos c2]
      split <;> rfl
    · rw [if_neg c2, if_neg c2]
      by_cases c3 : q_m_hand z i.toNatClampNeg = 0
      · rw [if_pos c3, if_pos c3, if_pos rfl]
        by_cases c4 : lft = 0
        · rw [if_pos c4, if_pos c4]
        · rw [if_neg c4, if_neg c4]
      · rw [if_neg c3, if_neg c3, if_neg (by decide)]
set_option maxHeartbeats 1000000 in
theorem R_missing {x : ST} {z : RT} (h : Rel x z) (a1 : Int32) : RG (hv_missing x a1) (hs_missing x a1) (g_Mod_missing z a1) (k_Plan_missing x a1 = 0 → f_Plan_missing x a1 = (g_Mod_missing z a1).1) := by
  have hE := h.1
  obtain ⟨e_fl, e_kd, e_hz, e_rn, e_da, e_db, e_dk, e_dn, e_kh, e_rd, e_rl, e_rs, e_re, e_tl, e_tn, e_tr, e_tc, e_pa, e_pb, e_pn, e_pc, e_wx, e_wy, e_wz, e_wc, e_ld, e_lt⟩ := hE
  by_cases c1 : 0 ≤ a1
  rotate_left
  · have hk : k_Plan_missing x a1 = 2 := by simp only [k_Plan_missing, k_Plan_wantNotBelowZero, c1, ↓reduceIte, not_true_eq_false, not_false_eq_true, n10, n20, n30, n40, n21, n31, n41, n32, n42, n43, kadd, i10]
    have e : g_Mod_missing z a1 = (0, s_m_thrown z 1) := by simp only [g_Mod_missing,  c1, ↓reduceIte, thw1, thw2, thw3, thw4, not_true_eq_false, not_false_eq_true, n10, n20, n30, n40, n21, n31, n41, n32, n42, n43, kadd, i10]
    have hv : hv_missing x a1 = 1 := by simp only [hv_missing, hk, ↓reduceIte, not_true_eq_false, not_false_eq_true, n10, n20, n30, n40, n21, n31, n41, n32, n42, n43, kadd, i10]
    have hs : hs_missing x a1 = x := by simp only [hs_missing, hk, ↓reduceIte, not_true_eq_false, not_false_eq_true, n10, n20, n30, n40, n21, n31, n41, n32, n42, n43, kadd, i10]
    rw [hv, hs]
    exact RG.thrown h _ e (fun hq => absurd (hk.symm.trans hq) (by decide))
  have hk : k_Plan_missing x a1 = 0 := by simp only [k_Plan_missing, k_Plan_wantNotBelowZero, c1, ↓reduceIte, not_true_eq_false, not_false_eq_true, n10, n20, n30, n40, n21, n31, n41, n32, n42, n43, kadd, i10]
  have hv : hv_missing x a1 = 0 := by simp only [hv_missing, hk, ↓reduceIte, not_true_eq_false, not_false_eq_true, n10, n20, n30, n40, n21, n31, n41, n32, n42, n43, kadd, i10]
  have e : g_Mod_missing z a1 = (f_Plan_missing x a1, s_m_thrown z 0) := by
    simp only [g_Mod_missing, f_Plan_missing, k_Plan_wantNotBelowZero, c1, ↓reduceIte, thw0]
    exact L_mis (h.thr 0) a1 31 32 a1 1 (by decide) (by decide) (by decide) (by decide)
  have hs : hs_missing x a1 = x := by simp only [hs_missing, hk, ↓reduceIte]
  rw [hv, hs]
  exact RG.thrown h _ e (fun _ => by rw [e])
theorem sqC {x : ST} {z : RT} (h : Rel x z) (a1 a2 a3 a4 a5 : Int32) (hw : ¬ f_Mod_in a1 0 (q_m_windows z - 1) = 0) : f_Win_isReached x a1 a2 a3 a4 a5 = if q_m_windowZ z a1.toNatClampNeg < a4 then 0 else (if 0 < lg_cmp (f_Mod_squareTo z a1 a2 a3 a4) (a5.toInt64 * a5.toInt64) then 0 else 1) := by
  have h0 := h
  obtain ⟨hE, -, -, -⟩ := h
  obtain ⟨e_fl, e_kd, e_hz, e_rn, e_da, e_db, e_dk, e_dn, e_kh, e_rd, e_rl, e_rs, e_re, e_tl, e_tn, e_tr, e_tc, e_pa, e_pb, e_pn, e_pc, e_wx, e_wy, e_wz, e_wc, e_ld, e_lt⟩ := hE
  unfold f_Win_isReached f_Mod_squareTo
  rw [w_hasW h0, if_neg hw, e_wx, e_wy, e_wz]
  by_cases c : q_m_windowZ z a1.toNatClampNeg < a4
  · rw [if_pos c, if_neg (fun hq => by rw [Int32.le_iff_toInt_le] at hq; rw [Int32.lt_iff_toInt_lt] at c; omega)]
  · rw [if_neg c, if_pos (by rw [Int32.le_iff_toInt_le]; rw [Int32.lt_iff_toInt_lt] at c; omega)]
set_option maxHeartbeats 1000000 in
theorem R_reaches {x : ST} {z : RT} (h : Rel x z) (a1 a2 a3 a4 a5 : Int32) : RG (hv_reaches x a1 a2 a3 a4 a5) (hs_reaches x a1 a2 a3 a4 a5) (g_Mod_reaches z a1 a2 a3 a4 a5) (k_Plan_reaches x a1 a2 a3 a4 a5 = 0 → f_Plan_reaches x a1 a2 a3 a4 a5 = (g_Mod_reaches z a1 a2 a3 a4 a5).1) := by
  have hE := h.1
  obtain ⟨e_fl, e_kd, e_hz, e_rn, e_da, e_db, e_dk, e_dn, e_kh, e_rd, e_rl, e_rs, e_re, e_tl, e_tn, e_tr, e_tc, e_pa, e_pb, e_pn, e_pc, e_wx, e_wy, e_wz, e_wc, e_ld, e_lt⟩ := hE
  by_cases c1 : f_Mod_in a1 0 (q_m_windows z - 1) = 0
  · have hk : k_Plan_reaches x a1 a2 a3 a4 a5 = 1 := by simp only [k_Plan_reaches, w_win h, w_pt, w_in, c1, ↓reduceIte, not_true_eq_false, not_false_eq_true, n10, n20, n30, n40, n21, n31, n41, n32, n42, n43, kadd, i10]
    have e : g_Mod_reaches z a1 a2 a3 a4 a5 = (0, s_m_thrown z 1) := by simp only [g_Mod_reaches,  c1, ↓reduceIte, thw1, thw2, thw3, thw4, not_true_eq_false, not_false_eq_true, n10, n20, n30, n40, n21, n31, n41, n32, n42, n43, kadd, i10]
    have hv : hv_reaches x a1 a2 a3 a4 a5 = 1 := by simp only [hv_reaches, hk, ↓reduceIte, not_true_eq_false, not_false_eq_true, n10, n20, n30, n40, n21, n31, n41, n32, n42, n43, kadd, i10]
    have hs : hs_reaches x a1 a2 a3 a4 a5 = x := by simp only [hs_reaches, hk, ↓reduceIte, not_true_eq_false, not_false_eq_true, n10, n20, n30, n40, n21, n31, n41, n32, n42, n43, kadd, i10]
    rw [hv, hs]
    exact RG.thrown h _ e (fun hq => absurd (hk.symm.trans hq) (by decide))
  by_cases c2 : f_Mod_isPoint a2 a3 a4 = 0
  · have hk : k_Plan_reaches x a1 a2 a3 a4 a5 = 2 := by simp only [k_Plan_reaches, w_win h, w_pt, w_in, c1, c2, ↓reduceIte, not_true_eq_false, not_false_eq_true, n10, n20, n30, n40, n21, n31, n41, n32, n42, n43, kadd, i10]
    have e : g_Mod_reaches z a1 a2 a3 a4 a5 = (0, s_m_thrown z 2) := by simp only [g_Mod_reaches,  c1, c2, ↓reduceIte, thw1, thw2, thw3, thw4, not_true_eq_false, not_false_eq_true, n10, n20, n30, n40, n21, n31, n41, n32, n42, n43, kadd, i10]
    have hv : hv_reaches x a1 a2 a3 a4 a5 = 2 := by simp only [hv_reaches, hk, ↓reduceIte, not_true_eq_false, not_false_eq_true, n10, n20, n30, n40, n21, n31, n41, n32, n42, n43, kadd, i10]
    have hs : hs_reaches x a1 a2 a3 a4 a5 = x := by simp only [hs_reaches, hk, ↓reduceIte, not_true_eq_false, not_false_eq_true, n10, n20, n30, n40, n21, n31, n41, n32, n42, n43, kadd, i10]
    rw [hv, hs]
    exact RG.thrown h _ e (fun hq => absurd (hk.symm.trans hq) (by decide))
  by_cases c3 : f_Mod_in a5 1 200000 = 0
  · have hk : k_Plan_reaches x a1 a2 a3 a4 a5 = 2 := by simp only [k_Plan_reaches, w_win h, w_pt, w_in, c1, c2, c3, ↓reduceIte, not_true_eq_false, not_false_eq_true, n10, n20, n30, n40, n21, n31, n41, n32, n42, n43, kadd, i10]
    have e : g_Mod_reaches z a1 a2 a3 a4 a5 = (0, s_m_thrown z 2) := by simp only [g_Mod_reaches,  c1, c2, c3, ↓reduceIte, thw1, thw2, thw3, thw4, not_true_eq_false, not_false_eq_true, n10, n20, n30, n40, n21, n31, n41, n32, n42, n43, kadd, i10]
    have hv : hv_reaches x a1 a2 a3 a4 a5 = 2 := by simp only [hv_reaches, hk, ↓reduceIte, not_true_eq_false, not_false_eq_true, n10, n20, n30, n40, n21, n31, n41, n32, n42, n43, kadd, i10]
    have hs : hs_reaches x a1 a2 a3 a4 a5 = x := by simp only [hs_reaches, hk, ↓reduceIte, not_true_eq_false, not_false_eq_true, n10, n20, n30, n40, n21, n31, n41, n32, n42, n43, kadd, i10]
    rw [hv, hs]
    exact RG.thrown h _ e (fun hq => absurd (hk.symm.trans hq) (by decide))
  have hk : k_Plan_reaches x a1 a2 a3 a4 a5 = 0 := by simp only [k_Plan_reaches, w_win h, w_pt, w_in, c1, c2, c3, ↓reduceIte, not_true_eq_false, not_false_eq_true, n10, n20, n30, n40, n21, n31, n41, n32, n42, n43, kadd, i10]
  have hv : hv_reaches x a1 a2 a3 a4 a5 = 0 := by simp only [hv_reaches, hk, ↓reduceIte, not_true_eq_false, not_false_eq_true, n10, n20, n30, n40, n21, n31, n41, n32, n42, n43, kadd, i10]
  have e : g_Mod_reaches z a1 a2 a3 a4 a5 = (f_Plan_reaches x a1 a2 a3 a4 a5, s_m_thrown z 0) := by
    simp only [g_Mod_reaches, f_Plan_reaches, w_win h, w_pt, w_in, c1, c2, c3, ↓reduceIte, thw0, sqC h a1 a2 a3 a4 a5 c1, qR_m_thrown]
    show (if q_m_windowZ z a1.toNatClampNeg < a4 then _ else if 0 < lg_cmp (f_Mod_squareTo z a1 a2 a3 a4) (a5.toInt64 * a5.toInt64) then _ else _) = _
    by_cases c4 : q_m_windowZ z a1.toNatClampNeg < a4
    · simp only [c4, ↓reduceIte]
    · by_cases c5 : 0 < lg_cmp (f_Mod_squareTo z a1 a2 a3 a4) (a5.toInt64 * a5.toInt64)
      · simp only [c4, c5, ↓reduceIte]
      · simp only [c4, c5, ↓reduceIte]
  have hs : hs_reaches x a1 a2 a3 a4 a5 = x := by simp only [hs_reaches, hk, ↓reduceIte]
  rw [hv, hs]
  exact RG.thrown h _ e (fun _ => by rw [e])
