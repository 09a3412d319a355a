/-! keys -/
theorem nar0 : vp_nar .boolean 0 = 0 := rfl
theorem nar1 : vp_nar .boolean 1 = 1 := rfl
theorem kcnt_upd (f : Nat → Int32) {k : Nat} (v : Int32) : ∀ n, (n < k → kcnt (upd f k v) n = kcnt f n) ∧ (1 ≤ k → k ≤ n → kcnt (upd f k v) n + (if f k = 0 then 0 else 1) = kcnt f n + (if v = 0 then 0 else 1)) := by
  intro n
  induction n with
  | zero => exact ⟨fun _ => rfl, fun h1 h2 => by omega⟩
  | succ n ih =>
    refine ⟨fun h => ?_, fun h1 h2 => ?_⟩
    · show kcnt (upd f k v) n + _ = kcnt f n + _
      rw [ih.1 (by omega), upd_ne (by omega)]
    · show kcnt (upd f k v) n + _ + _ = kcnt f n + _ + _
      by_cases e : k = n + 1
      · rw [ih.1 (by omega), e, upd_eq]; omega
      · have := ih.2 h1 (by omega)
        rw [upd_ne (by omega)]; omega
theorem at_hand2 {x : ST} {z : RT} (h : Rel x z) {k : Int32} (hk : ¬ f_Mod_in k 1 30 = 0) : f_Keys_isAtHand x k = q_m_hand z k.toNatClampNeg := by
  rw [at_hand h ((in_iff k 1 30).mp hk)]
  rcases h.2.2.2.2.2.2.2.2.1 k.toNatClampNeg with q | q <;> rw [q] <;> rfl
set_option maxHeartbeats 1000000 in
theorem R_key {x : ST} {z : RT} (h : Rel x z) (a1 a2 : Int32) (hb : a2 = 0 ∨ a2 = 1) : RG (hv_key x a1 a2) (hs_key x a1 a2) (g_Mod_key z a1 a2) True := by
  have hE := h.1
  obtain ⟨e_fl, e_kd, e_hz, e_rn, e_da, e_db, e_dk, e_dn, e_kh, e_rd, e_rl, e_rs, e_re, e_tl, e_tn, e_tr, e_tc, e_pa, e_pb, e_pn, e_pc, e_wx, e_wy, e_wz, e_wc, e_ld, e_lt⟩ := hE
  by_cases c1 : f_Mod_in a1 1 30 = 0
  · have hk : k_Plan_key x a1 a2 = 1 := by simp only [k_Plan_key, w_key, c1, ↓reduceIte, not_true_eq_false, not_false_eq_true, n10, n20, n30, n40, n21, n31, n41, n32, n42, n43, kadd, i10]
    have e : g_Mod_key z a1 a2 = (0, s_m_thrown z 1) := by simp only [g_Mod_key, c1, ↓reduceIte, thw1, not_true_eq_false, not_false_eq_true, n10, n20, n30, n40, n21, n31, n41, n32, n42, n43, kadd, i10]
    have hv : hv_key x a1 a2 = 1 := by simp only [hv_key, hk, ↓reduceIte, not_true_eq_false, not_false_eq_true, n10, n20, n30, n40, n21, n31, n41, n32, n42, n43, kadd, i10]
    have hs : hs_key x a1 a2 = x := by simp only [hs_key, hk, ↓reduceIte, not_true_eq_false, not_false_eq_true, n10, n20, n30, n40, n21, n31, n41, n32, n42, n43, kadd, i10]
    rw [hv, hs]
    exact RG.thrown h _ e trivial
  have f7 := at_hand2 h c1
  by_cases c2 : q_m_hand z a1.toNatClampNeg = a2
  · have hk : k_Plan_key x a1 a2 = 3 := by simp only [k_Plan_key, w_key, c1, f7, c2, ↓reduceIte, not_true_eq_false, not_false_eq_true, n10, n20, n30, n40, n21, n31, n41, n32, n42, n43, kadd, i10]
    have e : g_Mod_key z a1 a2 = (0, s_m_thrown z 2) := by simp only [g_Mod_key, c1, c2, ↓reduceIte, thw2, not_true_eq_false, not_false_eq_true, n10, n20, n30, n40, n21, n31, n41, n32, n42, n43, kadd, i10]
    have hv : hv_key x a1 a2 = 2 := by simp only [hv_key, hk, ↓reduceIte, not_true_eq_false, not_false_eq_true, n10, n20, n30, n40, n21, n31, n41, n32, n42, n43, kadd, i10]
    have hs : hs_key x a1 a2 = x := by simp only [hs_key, hk, ↓reduceIte, not_true_eq_false, not_false_eq_true, n10, n20, n30, n40, n21, n31, n41, n32, n42, n43, kadd, i10]
    rw [hv, hs]
    exact RG.thrown h _ e trivial
  have hk : k_Plan_key x a1 a2 = 0 := by simp only [k_Plan_key, w_key, c1, f7, c2, ↓reduceIte, not_true_eq_false, not_false_eq_true, n10, n20, n30, n40, n21, n31, n41, n32, n42, n43, kadd, i10]
  have hv : hv_key x a1 a2 = 0 := by simp only [hv_key, hk, ↓reduceIte, not_true_eq_false, not_false_eq_true, n10, n20, n30, n40, n21, n31, n41, n32, n42, n43, kadd, i10]
  have hnar : vp_nar .boolean a2 = a2 := by rcases hb with e | e <;> rw [e] <;> rfl
  have eM : g_Mod_key z a1 a2 = (0, s_m_hand (s_m_thrown z 0) (upd (q_m_hand z) a1.toNatClampNeg a2)) := by simp only [g_Mod_key, c1, c2, hnar, ↓reduceIte, thw0, qR_m_thrown, not_true_eq_false, not_false_eq_true, n10, n20, n30, n40, n21, n31, n41, n32, n42, n43, kadd, i10]
  have eC : g_Plan_key x a1 a2 = (0, s_kn (s_kh x (upd (q_m_hand z) a1.toNatClampNeg a2)) (q_kn x + (if a2 = 0 then (-1) else 1))) := by
    simp only [g_Plan_key, g_Keys_put, w_key, c1, f7, c2, e_kh, hnar, ↓reduceIte, qS_kh]
    by_cases c3 : a2 = 0
    · rw [if_pos c3, if_pos c3]
    · rw [if_neg c3, if_neg c3]
  have hs : hs_key x a1 a2 = s_kn (s_kh x (upd (q_m_hand z) a1.toNatClampNeg a2)) (q_kn x + (if a2 = 0 then (-1) else 1)) := by simp only [hs_key, hk, ↓reduceIte, eC]
  rw [hv, hs, eM]
  refine ⟨by simp only [qR_m_hand, qR_m_thrown], trivial, ⟨?_, ?_, ?_, ?_⟩⟩
  · simp only [RelE, qS_kn, qS_kh, qR_m_hand, qR_m_thrown, e_fl, e_kd, e_hz, e_rn, e_da, e_db, e_dk, e_dn, e_kh, e_rd, e_rl, e_rs, e_re, e_tl, e_tn, e_tr, e_tc, e_pa, e_pb, e_pn, e_pc, e_wx, e_wy, e_wz, e_wc, e_ld, e_lt, and_self]
  · simp only [RIn, qR_m_hand, qR_m_thrown]; exact h.2.1
  · simp only [RM, qR_m_hand, qR_m_thrown]; exact h.2.2.1
  · simp only [RelC, qS_kn, qS_kh, qR_m_hand, qR_m_thrown]
    obtain ⟨-, hI, hM, C1, C2, C3, C4, C5, C6, C7, C8, C9⟩ := h
    refine ⟨C1, C2, C3, C4, C5, fun j => ?_, ?_, C8, C9⟩
    · by_cases e : j = a1.toNatClampNeg
      · rw [e, upd_eq]; exact hb
      · rw [upd_ne e]; exact C6 j
    · have hr := (in_iff a1 1 30).mp c1
      rw [show (1 : Int32).toInt = 1 from rfl, show (30 : Int32).toInt = 30 from rfl] at hr
      have hcl := cl_nn (a := a1) (by omega)
      have hu := (kcnt_upd (q_m_hand z) (k := a1.toNatClampNeg) a2 30).2 (by omega) (by omega)
      have hle := kcnt_le (q_m_hand z) 30
      have hle2 := kcnt_le (upd (q_m_hand z) a1.toNatClampNeg a2) 30
      rcases hb with e | e
      · subst e
        rw [if_pos rfl]
        rw [if_neg c2, if_pos rfl] at hu
        rw [Int32.toInt_add, show (-1 : Int32).toInt = -1 from rfl, C7, Int.bmod_eq_of_le (by omega) (by omega)]
        omega
      · subst e
        rw [if_neg (by decide)]
        have c0 : q_m_hand z a1.toNatClampNeg = 0 := by
          rcases C6 a1.toNatClampNeg with q | q
          · exact q
          · exact absurd q c2
        rw [if_pos c0, if_neg (by decide)] at hu
        rw [inc1 (by omega), C7]
        omega
