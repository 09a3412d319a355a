/-! class and reference side by side: what writes -/
theorem of_n {n : Int32} {N : Int} (h : 0 ≤ n.toInt) {j : Nat} (hj : (j : Int) < n.toInt) : j ≠ n.toNatClampNeg := by
  have := cl_nn h
  omega
theorem added {n : Int32} (h : 0 ≤ n.toInt ∧ n.toInt ≤ 1000) : f_Plan_wantAdded (n + 1 - 1) = n + 1 - 1 := by
  unfold f_Plan_wantAdded
  rw [if_neg (fun hq => by
    rw [Int32.add_sub_cancel] at hq
    rw [hq] at h
    exact absurd h.1 (by decide))]
theorem stR_fl {fl fl' fr to : Nat → Int32} {j : Nat} (h1 : fl' (fr j).toNatClampNeg = fl (fr j).toNatClampNeg) (h2 : fl' (to j).toNatClampNeg = fl (to j).toNatClampNeg) : stR fl' fr to j = stR fl fr to j := by
  unfold stR
  rw [h1, h2]
set_option maxHeartbeats 1000000 in
theorem R_room {x : ST} {z : RT} (h : Rel x z) (a1 a2 : Int32) : RG (hv_room x a1 a2) (hs_room x a1 a2) (g_Mod_room z a1 a2) (k_Plan_room x a1 a2 = 0 → (g_Plan_room x a1 a2).1 = (g_Mod_room z a1 a2).1) := by
  have hE := h.1
  obtain ⟨e_fl, e_kd, e_hz, e_rn, e_da, e_db, e_dk, e_dn, e_kh, e_rd, e_rl, e_rs, e_re, e_tl, e_tn, e_tr, e_tc, e_pa, e_pb, e_pn, e_pc, e_wx, e_wy, e_wz, e_wc, e_ld, e_lt⟩ := hE
  have f9 : (q_rn x < 40) = ¬ q_m_rooms z = 40 := by
    rw [e_rn]
    exact propext (lt_lit (by have := h.2.1.1; rw [show (40 : Int32).toInt = 40 from rfl]; omega))
  have hn : 0 ≤ (q_m_rooms z).toInt ∧ (q_m_rooms z).toInt ≤ 1000 := by have := h.2.1.1; omega
  by_cases c1 : f_Mod_in a2 0 2 = 0
  · have hk : k_Plan_room x a1 a2 = 1 := by simp only [k_Plan_room, w_kind, w_in, f9, c1, ↓reduceIte, not_true_eq_false, not_false_eq_true, n10, n20, n30, n40, n21, n31, n41, n32, n42, n43, kadd, i10]
    have e : g_Mod_room z a1 a2 = (0, s_m_thrown z 1) := by simp only [g_Mod_room,  c1, ↓reduceIte, thw1, thw2, thw3, thw4, not_true_eq_false, not_false_eq_true, n10, n20, n30, n40, n21, n31, n41, n32, n42, n43, kadd, i10]
    have hv : hv_room x a1 a2 = 1 := by simp only [hv_room, hk, ↓reduceIte, not_true_eq_false, not_false_eq_true, n10, n20, n30, n40, n21, n31, n41, n32, n42, n43, kadd, i10]
    have hs : hs_room x a1 a2 = x := by simp only [hs_room, hk, ↓reduceIte, not_true_eq_false, not_false_eq_true, n10, n20, n30, n40, n21, n31, n41, n32, n42, n43, kadd, i10]
    rw [hv, hs]
    exact RG.thrown h _ e (fun hq => absurd (hk.symm.trans hq) (by decide))
  by_cases c2 : f_Mod_in a1 0 19 = 0
  · have hk : k_Plan_room x a1 a2 = 2 := by simp only [k_Plan_room, w_kind, w_in, f9, c1, c2, ↓reduceIte, not_true_eq_false, not_false_eq_true, n10, n20, n30, n40, n21, n31, n41, n32, n42, n43, kadd, i10]
    have e : g_Mod_room z a1 a2 = (0, s_m_thrown z 2) := by simp only [g_Mod_room,  c1, c2, ↓reduceIte, thw1, thw2, thw3, thw4, not_true_eq_false, not_false_eq_true, n10, n20, n30, n40, n21, n31, n41, n32, n42, n43, kadd, i10]
    have hv : hv_room x a1 a2 = 2 := by simp only [hv_room, hk, ↓reduceIte, not_true_eq_false, not_false_eq_true, n10, n20, n30, n40, n21, n31, n41, n32, n42, n43, kadd, i10]
    have hs : hs_room x a1 a2 = x := by simp only [hs_room, hk, ↓reduceIte, not_true_eq_false, not_false_eq_true, n10, n20, n30, n40, n21, n31, n41, n32, n42, n43, kadd, i10]
    rw [hv, hs]
    exact RG.thrown h _ e (fun hq => absurd (hk.symm.trans hq) (by decide))
  by_cases c3 : q_m_rooms z = 40
  · have hk : k_Plan_room x a1 a2 = 4 := by simp only [k_Plan_room, w_kind, w_in, f9, c1, c2, c3, ↓reduceIte, not_true_eq_false, not_false_eq_true, n10, n20, n30, n40, n21, n31, n41, n32, n42, n43, kadd, i10]
    have e : g_Mod_room z a1 a2 = (0, s_m_thrown z 3) := by simp only [g_Mod_room,  c1, c2, c3, ↓reduceIte, thw1, thw2, thw3, thw4, not_true_eq_false, not_false_eq_true, n10, n20, n30, n40, n21, n31, n41, n32, n42, n43, kadd, i10]
    have hv : hv_room x a1 a2 = 3 := by simp only [hv_room, hk, ↓reduceIte, not_true_eq_false, not_false_eq_true, n10, n20, n30, n40, n21, n31, n41, n32, n42, n43, kadd, i10]
    have hs : hs_room x a1 a2 = x := by simp only [hs_room, hk, ↓reduceIte, not_true_eq_false, not_false_eq_true, n10, n20, n30, n40, n21, n31, n41, n32, n42, n43, kadd, i10]
    rw [hv, hs]
    exact RG.thrown h _ e (fun hq => absurd (hk.symm.trans hq) (by decide))
  have hk : k_Plan_room x a1 a2 = 0 := by simp only [k_Plan_room, w_kind, w_in, f9, c1, c2, c3, ↓reduceIte, not_true_eq_false, not_false_eq_true, n10, n20, n30, n40, n21, n31, n41, n32, n42, n43, kadd, i10]
  have hv : hv_room x a1 a2 = 0 := by simp only [hv_room, hk, ↓reduceIte, not_true_eq_false, not_false_eq_true, n10, n20, n30, n40, n21, n31, n41, n32, n42, n43, kadd, i10]
  have eM : g_Mod_room z a1 a2 = (q_m_rooms z + 1 - 1, s_m_rooms (s_m_kind (s_m_floor (s_m_thrown z 0) (upd (q_m_floor z) (q_m_rooms z).toNatClampNeg a1)) (upd (q_m_kind z) (q_m_rooms z).toNatClampNeg a2)) (q_m_rooms z + 1)) := by simp only [g_Mod_room,  c1, c2, c3, ↓reduceIte, thw0, qR_m_rooms, qR_m_kind, qR_m_floor, qR_m_thrown, not_true_eq_false, not_false_eq_true, n10, n20, n30, n40, n21, n31, n41, n32, n42, n43, kadd, i10]
  have f8 : q_m_rooms z < 40 := (lt_lit (by have := h.2.1.1; rw [show (40 : Int32).toInt = 40 from rfl]; omega)).mpr c3
  have eC : g_Plan_room x a1 a2 = (q_m_rooms z + 1 - 1, s_rn (s_kd (s_fl x (upd (q_m_floor z) (q_m_rooms z).toNatClampNeg a1)) (upd (q_m_kind z) (q_m_rooms z).toNatClampNeg a2)) (q_m_rooms z + 1)) := by
    simp only [g_Plan_room, g_Rooms_add, e_rn, e_fl, e_kd, f8, added hn, w_kind, w_in, f9, c1, c2, c3, ↓reduceIte, qS_rn, qS_kd, qS_fl, not_true_eq_false, not_false_eq_true, n10, n20, n30, n40, n21, n31, n41, n32, n42, n43, kadd, i10]
  have hs : hs_room x a1 a2 = s_rn (s_kd (s_fl x (upd (q_m_floor z) (q_m_rooms z).toNatClampNeg a1)) (upd (q_m_kind z) (q_m_rooms z).toNatClampNeg a2)) (q_m_rooms z + 1) := by simp only [hs_room, hk, ↓reduceIte, eC]
  rw [hv, hs, eM]
  refine ⟨by simp only [qR_m_rooms, qR_m_kind, qR_m_floor, qR_m_thrown], fun _ => by rw [eC], ⟨?_, ?_, ?_, ?_⟩⟩
  · simp only [RelE, qS_rn, qS_kd, qS_fl, qR_m_rooms, qR_m_kind, qR_m_floor, qR_m_thrown, e_fl, e_kd, e_hz, e_rn, e_da, e_db, e_dk, e_dn, e_kh, e_rd, e_rl, e_rs, e_re, e_tl, e_tn, e_tr, e_tc, e_pa, e_pb, e_pn, e_pc, e_wx, e_wy, e_wz, e_wc, e_ld, e_lt, and_self]
  · simp only [RIn, qS_rn, qS_kd, qS_fl, qR_m_rooms, qR_m_kind, qR_m_floor, qR_m_thrown]
    obtain ⟨-, hI, hM, C1, C2, C3, C4, C5, C6, C7, C8, C9⟩ := h
    obtain ⟨g1, g2, g3, g4, g5, g6, g7, g8⟩ := hI
    have hm : (q_m_rooms z).toInt ≠ 40 := fun q => c3 (Int32.toInt_inj.mp q)
    have e1 := inc1 hn
    refine ⟨by omega, g2, g3, g4, g5, g6, fun j hj => ?_, fun j hj => ?_⟩
    · have := g7 j hj; omega
    · have := g8 j hj; omega
  · simp only [RM, qS_rn, qS_kd, qS_fl, qR_m_rooms, qR_m_kind, qR_m_floor, qR_m_thrown]; exact h.2.2.1
  · simp only [RelC, qS_rn, qS_kd, qS_fl, qR_m_rooms, qR_m_kind, qR_m_floor, qR_m_thrown]
    obtain ⟨-, hI, hM, C1, C2, C3, C4, C5, C6, C7, C8, C9⟩ := h
    obtain ⟨g1, g2, g3, g4, g5, g6, g7, g8⟩ := hI
    have e1 := inc1 hn
    have hc := cl_nn hn.1
    refine ⟨fun j hj => ?_, fun j hj => ?_, fun j hj => ?_, C4, C5, C6, C7, C8, fun j hj => ?_⟩
    · rw [C1 j hj]
      have q := g7 j hj
      rw [stR_fl (fl := q_m_floor z) (upd_ne (of_n (N := 0) hn.1 (by have := cl_nn q.1.1; omega))) (upd_ne (of_n (N := 0) hn.1 (by have := cl_nn q.2.1.1; omega)))]
    · rw [C2 j hj]
      have q := g8 j hj
      rw [upd_ne (of_n (N := 0) hn.1 (by have := cl_nn q.1; omega))]
    · by_cases e : j = (q_m_rooms z).toNatClampNeg
      · rw [e, upd_eq]
        exact (in_iff a2 0 2).mp c1
      · rw [upd_ne e]; exact C3 j (by omega)
    · by_cases e : j = (q_m_rooms z).toNatClampNeg
      · rw [e, upd_eq]
        exact (in_iff a1 0 19).mp c2
      · rw [upd_ne e]; exact C9 j (by omega)
