/-! class and reference side by side: what writes -/
theorem of_n {n : Int32} {N : Int} (h : 0 ≤ n.toInt) {j : Nat} (hj : (j : Int) < n.toInt) : j ≠ n.toNatClampNeg := by
  have := cl_nn h
  omega
theorem added {n : Int32} (h : 0 ≤ n.toInt ∧ n.toInt ≤ 1000) : f_Plan_wantAdded (n + 1 - 1) = n + 1 - 1 := by
  unfold f_Plan_wantAdded
  rw [if_neg (fun hq => by
    rw [Int32.add_sub_cancel] at hq
    rw [hq] at h
    exact absurd h.1 (by decide))]
theorem stR_fl {fl fl' fr to : Nat → Int32} {j : Nat} (h1 : fl' (fr j).toNatClampNeg = fl (fr j).toNatClampNeg) (h2 : fl' (to j).toNatClampNeg = fl (to j).toNatClampNeg) : stR fl' fr to j = stR fl fr to j := by
  unfold stR
  rw [h1, h2]
set_option maxHeartbeats 1000000 in
theorem R_room {x : ST} {z : RT} (h : Rel x z) (a1 a2 : Int32) : RG (hv_room x a1 a2) (hs_room x a1 a2) (g_Mod_room z a1 a2) (k_Plan_room x a1 a2 = 0 → (g_Plan_room x a1 a2).1 = (g_Mod_room z a1 a2).1) := by
  have hE := h.1
  obtain ⟨e_fl, e_kd, e_hz, e_rn, e_da, e_db, e_dk, e_dn, e_kh, e_rd, e_rl, e_rs, e_re, e_tl, e_tn, e_tr, e_tc, e_pa, e_pb, e_pn, e_pc, e_wx, e_wy, e_wz, e_wc, e_ld, e_lt⟩ := hE
  have f9 : (q_rn x < 40) = ¬ q_m_rooms z = 40 := by
    rw [e_rn]
    exact propext (lt_lit (by have := h.2.1.1; rw [show (40 : Int32).toInt = 40 from rfl]; omega))
  have hn : 0 ≤ (q_m_rooms z).toInt ∧ (q_m_rooms z).toInt ≤ 1000 := by have := h.2.1.1; omega
  by_cases c1 : f_Mod_in a2 0 2 = 0
  · have hk : k_Plan_room x a1 a2 = 1 := by simp only [k_Plan_room, w_kind, w_in, f9, c1, ↓reduceIte, not_true_eq_false, not_false_eq_true, n10, n20, n30, n40, n21, n31, n41, n32, n42, n43, kadd, i10]
    have e : g_Mod_room z a1 a2 = (0, s_m_thrown z 1) := by simp only [g_Mod_room,  c1, ↓reduceIte, thw1, thw2, thw3, thw4, not_true_eq_false, not_false_eq_true, n10, n20, n30, n40, n21, n31, n41, n32, n42, n43, kadd, i10]
    have hv : hv_room x a1 a2 = 1 := by simp only [hv_room, hk, ↓reduceIte, not_true_eq_false, not_false_eq_true, n10, n20, n30, n40, n21, n31, n41, n32, n42, n43, kadd, i10]
    have hs : hs_room x a1 a2 = x := by simp only [hs_room, hk, ↓reduceIte, not_true_eq_false, not_false_eq_true, n10, n20, n30, n40, n21, n31, n41, n32, n42, n43, kadd, i10]
    rw [hv, hs]
    exact RG.thrown h _ e (fun hq => absurd (hk.symm.trans hq) (by decide))
  by_cases c2 : f_Mod_in a1 0 19 = 0
  · have hk : k_Plan_room x a1 a2 = 2 := by simp only [k_Plan_room, w_kind, w_in, f9, c1, c2, ↓reduceIte, not_true_eq_false, not_false_eq_true, n10, n20, n30, n40, n21, n31, n41, n32, n42, n43, kadd, i10]
    have e : g_Mod_room z a1 a2 = (0, s_m_thrown z 2) := by simp only [g_Mod_room,  c1, c2, ↓reduceIte, thw1, thw2, thw3, thw4, not_true_eq_false, not_false_eq_true, n10, n20, n30, n40, n21, n31, n41, n32, n42, n43, kadd, i10]
    have hv : hv_room x a1 a2 = 2 := by simp only [hv_room, hk, ↓reduceIte, not_true_eq_false, not_false_eq_true, n10, n20, n30, n40, n21, n31, n41, n32, n42, n43, kadd, i10]
    have hs : hs_room x a1 a2 = x := by simp only [hs_room, hk, ↓reduceIte, not_true_eq_false, not_false_eq_true, n10, n20, n30, n40, n21, n31, n41, n32, n42, n43, kadd, i10]
    rw [hv, hs]
    exact RG.thrown h _ e (fun hq => absurd (hk.symm.trans hq) (by decide))
  by_cases c3 : q_m_rooms z = 40
  · have hk : k_Plan_room x a1 a2 = 4 := by simp only [k_Plan_room, w_kind, w_in, f9, c1, c2, c3, ↓reduceIte, not_true_eq_false, not_false_eq_true, n10, n20, n30, n40, n21, n31, n41, n32, n42, n43, kadd, i10]
    have e : g_Mod_room z a1 a2 = (0, s_m_thrown z 3) := by simp only [g_Mod_room,  c1, c2, c3, ↓reduceIte, thw1, thw2, thw3, thw4, not_true_eq_false, not_false_eq_true, n10, n20, n30, n40, n21, n31, n41, n32, n42, n43, kadd, i10]
    have hv : hv_room x a1 a2 = 3 := by simp only [hv_room, hk, ↓reduceIte, not_true_eq_false, not_false_eq_true, n10, n20, n30, n40, n21, n31, n41, n32, n42, n43, kadd, i10]
    have hs : hs_room x a1 a2 = x := by simp only [hs_room, hk, ↓reduceIte, not_true_eq_false, not_false_eq_true, n10, n20, n30, n40, n21, n31, n41, n32, n42, n43, kadd, i10]
    rw [hv, hs]
    exact RG.thrown h _ e (fun hq => absurd (hk.symm.trans hq) (by decide))
  have hk : k_Plan_room x a1 a2 = 0 := by simp only [k_Plan_room, w_kind, w_in, f9, c1, c2, c3, ↓reduceIte, not_true_eq_false, not_false_eq_true, n10, n20, n30, n40, n21, n31, n41, n32, n42, n43, kadd, i10]
  have hv : hv_room x a1 a2 = 0 := by simp only [hv_room, hk, ↓reduceIte, not_true_eq_false, not_false_eq_true, n10, n20, n30, n40, n21, n31, n41, n32, n42, n43, kadd, i10]
  have eM : g_Mod_room z a1 a2 = (q_m_rooms z + 1 - 1, s_m_rooms (s_m_kind (s_m_floor (s_m_thrown z 0) (upd (q_m_floor z) (q_m_rooms z).toNatClampNeg a1)) (upd (q_m_kind z) (q_m_rooms z).toNatClampNeg a2)) (q_m_rooms z + 1)) := by simp only [g_Mod_room,  c1, c2, c3, ↓reduceIte, thw0, qR_m_rooms, qR_m_kind, qR_m_floor, qR_m_thrown, not_true_eq_false, not_false_eq_true, n10, n20, n30, n40, n21, n31, n41, n32, n42, n43, kadd, i10]
  have f8 : q_m_rooms z < 40 := (lt_lit (by have := h.2.1.1; rw [show (40 : Int32).toInt = 40 from rfl]; omega)).mpr c3
  have eC : g_Plan_room x a1 a2 = (q_m_rooms z + 1 - 1, s_rn (s_kd (s_fl x (upd (q_m_floor z) (q_m_rooms z).toNatClampNeg a1)) (upd (q_m_kind z) (q_m_rooms z).toNatClampNeg a2)) (q_m_rooms z + 1)) := by
    simp only [g_Plan_room, g_Rooms_add, e_rn, e_fl, e_kd, f8, added hn, w_kind, w_in, f9, c1, c2, c3, ↓reduceIte, qS_rn, qS_kd, qS_fl, not_true_eq_false, not_false_eq_true, n10, n20, n30, n40, n21, n31, n41, n32, n42, n43, kadd, i10]
  have hs : hs_room x a1 a2 = s_rn (s_kd (s_fl x (upd (q_m_floor z) (q_m_rooms z).toNatClampNeg a1)) (upd (q_m_kind z) (q_m_rooms z).toNatClampNeg a2)) (q_m_rooms z + 1) := by simp only [hs_room, hk, ↓reduceIte, eC]
  rw [hv, hs, eM]
  refine ⟨by simp only [qR_m_rooms, qR_m_kind, qR_m_floor, qR_m_thrown], fun _ => by rw [eC], ⟨?_, ?_, ?_, ?_⟩⟩
  · simp only [RelE, qS_rn, qS_kd, qS_fl, qR_m_rooms, qR_m_kind, qR_m_floor, qR_m_thrown, e_fl, e_kd, e_hz, e_rn, e_da, e_db, e_dk, e_dn, e_kh, e_rd, e_rl, e_rs, e_re, e_tl, e_tn, e_tr, e_tc, e_pa, e_pb, e_pn, e_pc, e_wx, e_wy, e_wz, e_wc, e_ld, e_lt, and_self]
  · simp only [RIn, qS_rn, qS_kd, qS_fl, qR_m_rooms, qR_m_kind, qR_m_floor, qR_m_thrown]
    obtain ⟨-, hI, hM, C1, C2, C3, C4, C5, C6, C7, C8, C9⟩ := h
    obtain ⟨g1, g2, g3, g4, g5, g6, g7, g8⟩ := hI
    have hm : (q_m_rooms z).toInt ≠ 40 := fun q => c3 (Int32.toInt_inj.mp q)
    have e1 := inc1 hn
    refine ⟨by omega, g2, g3, g4, g5, g6, fun j hj => ?_, fun j hj => ?_⟩
    · have := g7 j hj; omega
    · have := g8 j hj; omega
  · simp only [RM, qS_rn, qS_kd, qS_fl, qR_m_rooms, qR_m_kind, qR_m_floor, qR_m_thrown]; exact h.2.2.1
  · simp only [RelC, qS_rn, qS_kd, qS_fl, qR_m_rooms, qR_m_kind, qR_m_floor, qR_m_thrown]
    obtain ⟨-, hI, hM, C1, C2, C3, C4, C5, C6, C7, C8, C9⟩ := h
    obtain ⟨g1, g2, g3, g4, g5, g6, g7, g8⟩ := hI
    have e1 := inc1 hn
    have hc := cl_nn hn.1
    refine ⟨fun j hj => ?_, fun j hj => ?_, fun j hj => ?_, C4, C5, C6, C7, C8, fun j hj => ?_⟩
    · rw [C1 j hj]
      have q := g7 j hj
      rw [stR_fl (fl := q_m_floor z) (upd_ne (of_n (N := 0) hn.1 (by have := cl_nn q.1.1; omega))) (upd_ne (of_n (N := 0) hn.1 (by have := cl_nn q.2.1.1; omega)))]
    · rw [C2 j hj]
      have q := g8 j hj
      rw [upd_ne (of_n (N := 0) hn.1 (by have := cl_nn q.1; omega))]
    · by_cases e : j = (q_m_rooms z).toNatClampNeg
      · rw [e, upd_eq]
        exact (in_iff a2 0 2).mp c1
      · rw [upd_ne e]; exact C3 j (by omega)
    · by_cases e : j = (q_m_rooms z).toNatClampNeg
      · rw [e, upd_eq]
        exact (in_iff a1 0 19).mp c2
      · rw [upd_ne e]; exact C9 j (by omega)
set_option maxHeartbeats 1000000 in
theorem R_window {x : ST} {z : RT} (h : Rel x z) (a1 a2 a3 a4 : Int32) : RG (hv_window x a1 a2 a3 a4) (hs_window x a1 a2 a3 a4) (g_Mod_window z a1 a2 a3 a4) (k_Plan_window x a1 a2 a3 a4 = 0 → (g_Plan_window x a1 a2 a3 a4).1 = (g_Mod_window z a1 a2 a3 a4).1) := by
  have hE := h.1
  obtain ⟨e_fl, e_kd, e_hz, e_rn, e_da, e_db, e_dk, e_dn, e_kh, e_rd, e_rl, e_rs, e_re, e_tl, e_tn, e_tr, e_tc, e_pa, e_pb, e_pn, e_pc, e_wx, e_wy, e_wz, e_wc, e_ld, e_lt⟩ := hE
  have f9 : (q_wc x < 30) = ¬ q_m_windows z = 30 := by
    rw [e_wc]
    exact propext (lt_lit (by have := h.2.1.2.2.2.2.1; rw [show (30 : Int32).toInt = 30 from rfl]; omega))
  have hn : 0 ≤ (q_m_windows z).toInt ∧ (q_m_windows z).toInt ≤ 1000 := by have := h.2.1.2.2.2.2.1; omega

  by_cases c1 : f_Mod_isRoom z a1 = 0
  · have hk : k_Plan_window x a1 a2 a3 a4 = 1 := by simp only [k_Plan_window, w_room h, w_pt, f9, c1, ↓reduceIte, not_true_eq_false, not_false_eq_true, n10, n20, n30, n40, n21, n31, n41, n32, n42, n43, kadd, i10]
    have e : g_Mod_window z a1 a2 a3 a4 = (0, s_m_thrown z 1) := by simp only [g_Mod_window,  c1, ↓reduceIte, thw1, thw2, thw3, thw4, not_true_eq_false, not_false_eq_true, n10, n20, n30, n40, n21, n31, n41, n32, n42, n43, kadd, i10]
    have hv : hv_window x a1 a2 a3 a4 = 1 := by simp only [hv_window, hk, ↓reduceIte, not_true_eq_false, not_false_eq_true, n10, n20, n30, n40, n21, n31, n41, n32, n42, n43, kadd, i10]
    have hs : hs_window x a1 a2 a3 a4 = x := by simp only [hs_window, hk, ↓reduceIte, not_true_eq_false, not_false_eq_true, n10, n20, n30, n40, n21, n31, n41, n32, n42, n43, kadd, i10]
    rw [hv, hs]
    exact RG.thrown h _ e (fun hq => absurd (hk.symm.trans hq) (by decide))
  by_cases c2 : f_Mod_isPoint a2 a3 a4 = 0
  · have hk : k_Plan_window x a1 a2 a3 a4 = 2 := by simp only [k_Plan_window, w_room h, w_pt, f9, c1, c2, ↓reduceIte, not_true_eq_false, not_false_eq_true, n10, n20, n30, n40, n21, n31, n41, n32, n42, n43, kadd, i10]
    have e : g_Mod_window z a1 a2 a3 a4 = (0, s_m_thrown z 2) := by simp only [g_Mod_window,  c1, c2, ↓reduceIte, thw1, thw2, thw3, thw4, not_true_eq_false, not_false_eq_true, n10, n20, n30, n40, n21, n31, n41, n32, n42, n43, kadd, i10]
    have hv : hv_window x a1 a2 a3 a4 = 2 := by simp only [hv_window, hk, ↓reduceIte, not_true_eq_false, not_false_eq_true, n10, n20, n30, n40, n21, n31, n41, n32, n42, n43, kadd, i10]
    have hs : hs_window x a1 a2 a3 a4 = x := by simp only [hs_window, hk, ↓reduceIte, not_true_eq_false, not_false_eq_true, n10, n20, n30, n40, n21, n31, n41, n32, n42, n43, kadd, i10]
    rw [hv, hs]
    exact RG.thrown h _ e (fun hq => absurd (hk.symm.trans hq) (by decide))
  by_cases c3 : q_m_windows z = 30
  · have hk : k_Plan_window x a1 a2 a3 a4 = 4 := by simp only [k_Plan_window, w_room h, w_pt, f9, c1, c2, c3, ↓reduceIte, not_true_eq_false, not_false_eq_true, n10, n20, n30, n40, n21, n31, n41, n32, n42, n43, kadd, i10]
    have e : g_Mod_window z a1 a2 a3 a4 = (0, s_m_thrown z 3) := by simp only [g_Mod_window,  c1, c2, c3, ↓reduceIte, thw1, thw2, thw3, thw4, not_true_eq_false, not_false_eq_true, n10, n20, n30, n40, n21, n31, n41, n32, n42, n43, kadd, i10]
    have hv : hv_window x a1 a2 a3 a4 = 3 := by simp only [hv_window, hk, ↓reduceIte, not_true_eq_false, not_false_eq_true, n10, n20, n30, n40, n21, n31, n41, n32, n42, n43, kadd, i10]
    have hs : hs_window x a1 a2 a3 a4 = x := by simp only [hs_window, hk, ↓reduceIte, not_true_eq_false, not_false_eq_true, n10, n20, n30, n40, n21, n31, n41, n32, n42, n43, kadd, i10]
    rw [hv, hs]
    exact RG.thrown h _ e (fun hq => absurd (hk.symm.trans hq) (by decide))
  have hk : k_Plan_window x a1 a2 a3 a4 = 0 := by simp only [k_Plan_window, w_room h, w_pt, f9, c1, c2, c3, ↓reduceIte, not_true_eq_false, not_false_eq_true, n10, n20, n30, n40, n21, n31, n41, n32, n42, n43, kadd, i10]
  have hv : hv_window x a1 a2 a3 a4 = 0 := by simp only [hv_window, hk, ↓reduceIte, not_true_eq_false, not_false_eq_true, n10, n20, n30, n40, n21, n31, n41, n32, n42, n43, kadd, i10]
  have eM : g_Mod_window z a1 a2 a3 a4 = (q_m_windows z + 1 - 1, s_m_windows (s_m_windowZ (s_m_windowY (s_m_windowX (s_m_thrown z 0) (upd (q_m_windowX z) (q_m_windows z).toNatClampNeg a2)) (upd (q_m_windowY z) (q_m_windows z).toNatClampNeg a3)) (upd (q_m_windowZ z) (q_m_windows z).toNatClampNeg a4)) (q_m_windows z + 1)) := by simp only [g_Mod_window,  c1, c2, c3, ↓reduceIte, thw0, qR_m_windows, qR_m_windowX, qR_m_windowY, qR_m_windowZ, qR_m_thrown, not_true_eq_false, not_false_eq_true, n10, n20, n30, n40, n21, n31, n41, n32, n42, n43, kadd, i10]
  have f8 : q_m_windows z < 30 := (lt_lit (by have := h.2.1.2.2.2.2.1; rw [show (30 : Int32).toInt = 30 from rfl]; omega)).mpr c3
  have eC : g_Plan_window x a1 a2 a3 a4 = (q_m_windows z + 1 - 1, s_wc (s_wz (s_wy (s_wx (x) (upd (q_m_windowX z) (q_m_windows z).toNatClampNeg a2)) (upd (q_m_windowY z) (q_m_windows z).toNatClampNeg a3)) (upd (q_m_windowZ z) (q_m_windows z).toNatClampNeg a4)) (q_m_windows z + 1)) := by
    simp only [g_Plan_window, g_Win_add, e_wc, e_wx, e_wy, e_wz, f8, added hn, w_room h, w_pt, f9, c1, c2, c3, ↓reduceIte, qS_wc, qS_wx, qS_wy, qS_wz, not_true_eq_false, not_false_eq_true, n10, n20, n30, n40, n21, n31, n41, n32, n42, n43, kadd, i10]
  have hs : hs_window x a1 a2 a3 a4 = s_wc (s_wz (s_wy (s_wx (x) (upd (q_m_windowX z) (q_m_windows z).toNatClampNeg a2)) (upd (q_m_windowY z) (q_m_windows z).toNatClampNeg a3)) (upd (q_m_windowZ z) (q_m_windows z).toNatClampNeg a4)) (q_m_windows z + 1) := by simp only [hs_window, hk, ↓reduceIte, eC]
  rw [hv, hs, eM]
  refine ⟨by simp only [qR_m_windows, qR_m_windowX, qR_m_windowY, qR_m_windowZ, qR_m_thrown], fun _ => by rw [eC], ⟨?_, ?_, ?_, ?_⟩⟩
  · simp only [RelE, qS_wc, qS_wx, qS_wy, qS_wz, qR_m_windows, qR_m_windowX, qR_m_windowY, qR_m_windowZ, qR_m_thrown, e_fl, e_kd, e_hz, e_rn, e_da, e_db, e_dk, e_dn, e_kh, e_rd, e_rl, e_rs, e_re, e_tl, e_tn, e_tr, e_tc, e_pa, e_pb, e_pn, e_pc, e_wx, e_wy, e_wz, e_wc, e_ld, e_lt, and_self]
  · simp only [RIn, qS_wc, qS_wx, qS_wy, qS_wz, qR_m_windows, qR_m_windowX, qR_m_windowY, qR_m_windowZ, qR_m_thrown]
    obtain ⟨-, hI, hM, C1, C2, C3, C4, C5, C6, C7, C8, C9⟩ := h
    obtain ⟨g1, g2, g3, g4, g5, g6, g7, g8⟩ := hI
    have hm : (q_m_windows z).toInt ≠ 30 := fun q => c3 (Int32.toInt_inj.mp q)
    have e1 := inc1 hn
    have hc := cl_nn hn.1
    exact ⟨g1, g2, g3, g4, by omega, g6, g7, g8⟩
  · simp only [RM, qS_wc, qS_wx, qS_wy, qS_wz, qR_m_windows, qR_m_windowX, qR_m_windowY, qR_m_windowZ, qR_m_thrown]
    exact h.2.2.1
  · simp only [RelC, qS_wc, qS_wx, qS_wy, qS_wz, qR_m_windows, qR_m_windowX, qR_m_windowY, qR_m_windowZ, qR_m_thrown]
    obtain ⟨-, hI, hM, C1, C2, C3, C4, C5, C6, C7, C8, C9⟩ := h
    obtain ⟨g1, g2, g3, g4, g5, g6, g7, g8⟩ := hI
    have e1 := inc1 hn
    have hc := cl_nn hn.1
    exact ⟨C1, C2, C3, C4, C5, C6, C7, C8, C9⟩
set_option maxHeartbeats 1000000 in
theorem R_people {x : ST} {z : RT} (h : Rel x z) (a1 a2 a3 a4 : Int32) : RG (hv_people x a1 a2 a3 a4) (hs_people x a1 a2 a3 a4) (g_Mod_people z a1 a2 a3 a4) (k_Plan_people x a1 a2 a3 a4 = 0 → (g_Plan_people x a1 a2 a3 a4).1 = (g_Mod_people z a1 a2 a3 a4).1) := by
  have hE := h.1
  obtain ⟨e_fl, e_kd, e_hz, e_rn, e_da, e_db, e_dk, e_dn, e_kh, e_rd, e_rl, e_rs, e_re, e_tl, e_tn, e_tr, e_tc, e_pa, e_pb, e_pn, e_pc, e_wx, e_wy, e_wz, e_wc, e_ld, e_lt⟩ := hE
  have f9 : (q_pc x < 60) = ¬ q_m_rows z = 60 := by
    rw [e_pc]
    exact propext (lt_lit (by have := h.2.1.2.2.2.1; rw [show (60 : Int32).toInt = 60 from rfl]; omega))
  have hn : 0 ≤ (q_m_rows z).toInt ∧ (q_m_rows z).toInt ≤ 1000 := by have := h.2.1.2.2.2.1; omega

  by_cases c1 : f_Mod_isRoom z a1 = 0
  · have hk : k_Plan_people x a1 a2 a3 a4 = 1 := by simp only [k_Plan_people, w_room h, w_in, f9, c1, ↓reduceIte, not_true_eq_false, not_false_eq_true, n10, n20, n30, n40, n21, n31, n41, n32, n42, n43, kadd, i10]
    have e : g_Mod_people z a1 a2 a3 a4 = (0, s_m_thrown z 1) := by simp only [g_Mod_people, f_Mod_isHour, c1, ↓reduceIte, thw1, thw2, thw3, thw4, not_true_eq_false, not_false_eq_true, n10, n20, n30, n40, n21, n31, n41, n32, n42, n43, kadd, i10]
    have hv : hv_people x a1 a2 a3 a4 = 1 := by simp only [hv_people, hk, ↓reduceIte, not_true_eq_false, not_false_eq_true, n10, n20, n30, n40, n21, n31, n41, n32, n42, n43, kadd, i10]
    have hs : hs_people x a1 a2 a3 a4 = x := by simp only [hs_people, hk, ↓reduceIte, not_true_eq_false, not_false_eq_true, n10, n20, n30, n40, n21, n31, n41, n32, n42, n43, kadd, i10]
    rw [hv, hs]
    exact RG.thrown h _ e (fun hq => absurd (hk.symm.trans hq) (by decide))
  by_cases c2 : f_Mod_in a2 0 23 = 0
  · have hk : k_Plan_people x a1 a2 a3 a4 = 2 := by simp only [k_Plan_people, w_room h, w_in, f9, c1, c2, ↓reduceIte, not_true_eq_false, not_false_eq_true, n10, n20, n30, n40, n21, n31, n41, n32, n42, n43, kadd, i10]
    have e : g_Mod_people z a1 a2 a3 a4 = (0, s_m_thrown z 2) := by simp only [g_Mod_people, f_Mod_isHour, c1, c2, ↓reduceIte, thw1, thw2, thw3, thw4, not_true_eq_false, not_false_eq_true, n10, n20, n30, n40, n21, n31, n41, n32, n42, n43, kadd, i10]
    have hv : hv_people x a1 a2 a3 a4 = 2 := by simp only [hv_people, hk, ↓reduceIte, not_true_eq_false, not_false_eq_true, n10, n20, n30, n40, n21, n31, n41, n32, n42, n43, kadd, i10]
    have hs : hs_people x a1 a2 a3 a4 = x := by simp only [hs_people, hk, ↓reduceIte, not_true_eq_false, not_false_eq_true, n10, n20, n30, n40, n21, n31, n41, n32, n42, n43, kadd, i10]
    rw [hv, hs]
    exact RG.thrown h _ e (fun hq => absurd (hk.symm.trans hq) (by decide))
  by_cases c3 : f_Mod_in a3 0 23 = 0
  · have hk : k_Plan_people x a1 a2 a3 a4 = 2 := by simp only [k_Plan_people, w_room h, w_in, f9, c1, c2, c3, ↓reduceIte, not_true_eq_false, not_false_eq_true, n10, n20, n30, n40, n21, n31, n41, n32, n42, n43, kadd, i10]
    have e : g_Mod_people z a1 a2 a3 a4 = (0, s_m_thrown z 2) := by simp only [g_Mod_people, f_Mod_isHour, c1, c2, c3, ↓reduceIte, thw1, thw2, thw3, thw4, not_true_eq_false, not_false_eq_true, n10, n20, n30, n40, n21, n31, n41, n32, n42, n43, kadd, i10]
    have hv : hv_people x a1 a2 a3 a4 = 2 := by simp only [hv_people, hk, ↓reduceIte, not_true_eq_false, not_false_eq_true, n10, n20, n30, n40, n21, n31, n41, n32, n42, n43, kadd, i10]
    have hs : hs_people x a1 a2 a3 a4 = x := by simp only [hs_people, hk, ↓reduceIte, not_true_eq_false, not_false_eq_true, n10, n20, n30, n40, n21, n31, n41, n32, n42, n43, kadd, i10]
    rw [hv, hs]
    exact RG.thrown h _ e (fun hq => absurd (hk.symm.trans hq) (by decide))
  by_cases c4 : f_Mod_in a4 0 999 = 0
  · have hk : k_Plan_people x a1 a2 a3 a4 = 2 := by simp only [k_Plan_people, w_room h, w_in, f9, c1, c2, c3, c4, ↓reduceIte, not_true_eq_false, not_false_eq_true, n10, n20, n30, n40, n21, n31, n41, n32, n42, n43, kadd, i10]
    have e : g_Mod_people z a1 a2 a3 a4 = (0, s_m_thrown z 2) := by simp only [g_Mod_people, f_Mod_isHour, c1, c2, c3, c4, ↓reduceIte, thw1, thw2, thw3, thw4, not_true_eq_false, not_false_eq_true, n10, n20, n30, n40, n21, n31, n41, n32, n42, n43, kadd, i10]
    have hv : hv_people x a1 a2 a3 a4 = 2 := by simp only [hv_people, hk, ↓reduceIte, not_true_eq_false, not_false_eq_true, n10, n20, n30, n40, n21, n31, n41, n32, n42, n43, kadd, i10]
    have hs : hs_people x a1 a2 a3 a4 = x := by simp only [hs_people, hk, ↓reduceIte, not_true_eq_false, not_false_eq_true, n10, n20, n30, n40, n21, n31, n41, n32, n42, n43, kadd, i10]
    rw [hv, hs]
    exact RG.thrown h _ e (fun hq => absurd (hk.symm.trans hq) (by decide))
  by_cases c5 : q_m_rows z = 60
  · have hk : k_Plan_people x a1 a2 a3 a4 = 4 := by simp only [k_Plan_people, w_room h, w_in, f9, c1, c2, c3, c4, c5, ↓reduceIte, not_true_eq_false, not_false_eq_true, n10, n20, n30, n40, n21, n31, n41, n32, n42, n43, kadd, i10]
    have e : g_Mod_people z a1 a2 a3 a4 = (0, s_m_thrown z 3) := by simp only [g_Mod_people, f_Mod_isHour, c1, c2, c3, c4, c5, ↓reduceIte, thw1, thw2, thw3, thw4, not_true_eq_false, not_false_eq_true, n10, n20, n30, n40, n21, n31, n41, n32, n42, n43, kadd, i10]
    have hv : hv_people x a1 a2 a3 a4 = 3 := by simp only [hv_people, hk, ↓reduceIte, not_true_eq_false, not_false_eq_true, n10, n20, n30, n40, n21, n31, n41, n32, n42, n43, kadd, i10]
    have hs : hs_people x a1 a2 a3 a4 = x := by simp only [hs_people, hk, ↓reduceIte, not_true_eq_false, not_false_eq_true, n10, n20, n30, n40, n21, n31, n41, n32, n42, n43, kadd, i10]
    rw [hv, hs]
    exact RG.thrown h _ e (fun hq => absurd (hk.symm.trans hq) (by decide))
  have hk : k_Plan_people x a1 a2 a3 a4 = 0 := by simp only [k_Plan_people, w_room h, w_in, f9, c1, c2, c3, c4, c5, ↓reduceIte, not_true_eq_false, not_false_eq_true, n10, n20, n30, n40, n21, n31, n41, n32, n42, n43, kadd, i10]
  have hv : hv_people x a1 a2 a3 a4 = 0 := by simp only [hv_people, hk, ↓reduceIte, not_true_eq_false, not_false_eq_true, n10, n20, n30, n40, n21, n31, n41, n32, n42, n43, kadd, i10]
  have eM : g_Mod_people z a1 a2 a3 a4 = (q_m_rows z + 1 - 1, s_m_rows (s_m_rowMany (s_m_rowTo (s_m_rowFrom (s_m_rowRoom (s_m_thrown z 0) (upd (q_m_rowRoom z) (q_m_rows z).toNatClampNeg a1)) (upd (q_m_rowFrom z) (q_m_rows z).toNatClampNeg a2)) (upd (q_m_rowTo z) (q_m_rows z).toNatClampNeg a3)) (upd (q_m_rowMany z) (q_m_rows z).toNatClampNeg a4)) (q_m_rows z + 1)) := by simp only [g_Mod_people, f_Mod_isHour, c1, c2, c3, c4, c5, ↓reduceIte, thw0, qR_m_rows, qR_m_rowRoom, qR_m_rowFrom, qR_m_rowTo, qR_m_rowMany, qR_m_thrown, not_true_eq_false, not_false_eq_true, n10, n20, n30, n40, n21, n31, n41, n32, n42, n43, kadd, i10]
  have f8 : q_m_rows z < 60 := (lt_lit (by have := h.2.1.2.2.2.1; rw [show (60 : Int32).toInt = 60 from rfl]; omega)).mpr c5
  have eC : g_Plan_people x a1 a2 a3 a4 = (q_m_rows z + 1 - 1, s_pc (s_pn (s_pb (s_pa (s_pf (x) (upd (q_pf x) (q_m_rows z).toNatClampNeg (q_m_floor z a1.toNatClampNeg))) (upd (q_m_rowFrom z) (q_m_rows z).toNatClampNeg a2)) (upd (q_m_rowTo z) (q_m_rows z).toNatClampNeg a3)) (upd (q_m_rowMany z) (q_m_rows z).toNatClampNeg a4)) (q_m_rows z + 1)) := by
    simp only [g_Plan_people, g_Crowd_add, f_Rooms_floorOf, w_hasR h, e_fl, e_pc, e_pa, e_pb, e_pn, f8, added hn, w_room h, w_in, f9, c1, c2, c3, c4, c5, ↓reduceIte, qS_pc, qS_pf, qS_pa, qS_pb, qS_pn, not_true_eq_false, not_false_eq_true, n10, n20, n30, n40, n21, n31, n41, n32, n42, n43, kadd, i10]
  have hs : hs_people x a1 a2 a3 a4 = s_pc (s_pn (s_pb (s_pa (s_pf (x) (upd (q_pf x) (q_m_rows z).toNatClampNeg (q_m_floor z a1.toNatClampNeg))) (upd (q_m_rowFrom z) (q_m_rows z).toNatClampNeg a2)) (upd (q_m_rowTo z) (q_m_rows z).toNatClampNeg a3)) (upd (q_m_rowMany z) (q_m_rows z).toNatClampNeg a4)) (q_m_rows z + 1) := by simp only [hs_people, hk, ↓reduceIte, eC]
  rw [hv, hs, eM]
  refine ⟨by simp only [qR_m_rows, qR_m_rowRoom, qR_m_rowFrom, qR_m_rowTo, qR_m_rowMany, qR_m_thrown], fun _ => by rw [eC], ⟨?_, ?_, ?_, ?_⟩⟩
  · simp only [RelE, qS_pc, qS_pf, qS_pa, qS_pb, qS_pn, qR_m_rows, qR_m_rowRoom, qR_m_rowFrom, qR_m_rowTo, qR_m_rowMany, qR_m_thrown, e_fl, e_kd, e_hz, e_rn, e_da, e_db, e_dk, e_dn, e_kh, e_rd, e_rl, e_rs, e_re, e_tl, e_tn, e_tr, e_tc, e_pa, e_pb, e_pn, e_pc, e_wx, e_wy, e_wz, e_wc, e_ld, e_lt, and_self]
  · simp only [RIn, qS_pc, qS_pf, qS_pa, qS_pb, qS_pn, qR_m_rows, qR_m_rowRoom, qR_m_rowFrom, qR_m_rowTo, qR_m_rowMany, qR_m_thrown]
    obtain ⟨-, hI, hM, C1, C2, C3, C4, C5, C6, C7, C8, C9⟩ := h
    obtain ⟨g1, g2, g3, g4, g5, g6, g7, g8⟩ := hI
    have hm : (q_m_rows z).toInt ≠ 60 := fun q => c5 (Int32.toInt_inj.mp q)
    have e1 := inc1 hn
    have hc := cl_nn hn.1
    have hr := (isR_iff ⟨g1, g2, g3, g4, g5, g6, g7, g8⟩ a1).mp c1
    refine ⟨g1, g2, g3, by omega, g5, g6, g7, fun j hj => ?_⟩
    by_cases e : j = (q_m_rows z).toNatClampNeg
    · rw [e, upd_eq]; exact hr
    · rw [upd_ne e]; exact g8 j (by omega)
  · simp only [RM, qS_pc, qS_pf, qS_pa, qS_pb, qS_pn, qR_m_rows, qR_m_rowRoom, qR_m_rowFrom, qR_m_rowTo, qR_m_rowMany, qR_m_thrown]
    exact h.2.2.1
  · simp only [RelC, qS_pc, qS_pf, qS_pa, qS_pb, qS_pn, qR_m_rows, qR_m_rowRoom, qR_m_rowFrom, qR_m_rowTo, qR_m_rowMany, qR_m_thrown]
    obtain ⟨-, hI, hM, C1, C2, C3, C4, C5, C6, C7, C8, C9⟩ := h
    obtain ⟨g1, g2, g3, g4, g5, g6, g7, g8⟩ := hI
    have e1 := inc1 hn
    have hc := cl_nn hn.1
    refine ⟨C1, fun j hj => ?_, C3, C4, C5, C6, C7, C8, C9⟩
    by_cases e : j = (q_m_rows z).toNatClampNeg
    · rw [e, upd_eq, upd_eq]
    · rw [upd_ne e, upd_ne e]; exact C2 j (by omega)
set_option maxHeartbeats 1000000 in
theorem R_detector {x : ST} {z : RT} (h : Rel x z) (a1 a2 a3 : Int32) : RG (hv_detector x a1 a2 a3) (hs_detector x a1 a2 a3) (g_Mod_detector z a1 a2 a3) (True) := by
  have hE := h.1
  obtain ⟨e_fl, e_kd, e_hz, e_rn, e_da, e_db, e_dk, e_dn, e_kh, e_rd, e_rl, e_rs, e_re, e_tl, e_tn, e_tr, e_tc, e_pa, e_pb, e_pn, e_pc, e_wx, e_wy, e_wz, e_wc, e_ld, e_lt⟩ := hE
  have f9 : (q_tc x < 100) = ¬ q_m_detectors z = 100 := by
    rw [e_tc]
    exact propext (lt_lit (by have := h.2.1.2.2.1; rw [show (100 : Int32).toInt = 100 from rfl]; omega))
  have hn : 0 ≤ (q_m_detectors z).toInt ∧ (q_m_detectors z).toInt ≤ 1000 := by have := h.2.1.2.2.1; omega
  have f7 : (f_Det_roomOf x a1 a2 = -1) = (f_Mod_detectorOf z a1 a2 < 0) := by
    rcases det_of h a1 a2 with ⟨q1, q2, -⟩ | ⟨q1, q2, -, -⟩
    · exact propext ⟨fun _ => q2, fun _ => q1⟩
    · exact propext ⟨fun q => absurd q q1, fun q => absurd q q2⟩
  have f6 : f_Mod_detectorOf z a1 a2 < 0 → ∀ j : Nat, (j : Int) < (q_m_detectors z).toInt → ¬ (q_m_loop z j = a1 ∧ q_m_number z j = a2) := by
    intro q
    rcases det_of h a1 a2 with ⟨-, -, q3⟩ | ⟨-, q2, -, -⟩
    · exact q3
    · exact absurd q q2
  by_cases c1 : f_Mod_isRoom z a3 = 0
  · have hk : k_Plan_detector x a1 a2 a3 = 1 := by simp only [k_Plan_detector, w_room h, w_in, f9, f7, c1, ↓reduceIte, not_true_eq_false, not_false_eq_true, n10, n20, n30, n40, n21, n31, n41, n32, n42, n43, kadd, i10]
    have e : g_Mod_detector z a1 a2 a3 = (0, s_m_thrown z 1) := by simp only [g_Mod_detector, f_Mod_isDetector, c1, ↓reduceIte, thw1, thw2, thw3, thw4, not_true_eq_false, not_false_eq_true, n10, n20, n30, n40, n21, n31, n41, n32, n42, n43, kadd, i10]
    have hv : hv_detector x a1 a2 a3 = 1 := by simp only [hv_detector, hk, ↓reduceIte, not_true_eq_false, not_false_eq_true, n10, n20, n30, n40, n21, n31, n41, n32, n42, n43, kadd, i10]
    have hs : hs_detector x a1 a2 a3 = x := by simp only [hs_detector, hk, ↓reduceIte, not_true_eq_false, not_false_eq_true, n10, n20, n30, n40, n21, n31, n41, n32, n42, n43, kadd, i10]
    rw [hv, hs]
    exact RG.thrown h _ e trivial
  by_cases c2 : f_Mod_in a1 1 9 = 0
  · have hk : k_Plan_detector x a1 a2 a3 = 2 := by simp only [k_Plan_detector, w_room h, w_in, f9, f7, c1, c2, ↓reduceIte, not_true_eq_false, not_false_eq_true, n10, n20, n30, n40, n21, n31, n41, n32, n42, n43, kadd, i10]
    have e : g_Mod_detector z a1 a2 a3 = (0, s_m_thrown z 2) := by simp only [g_Mod_detector, f_Mod_isDetector, c1, c2, ↓reduceIte, thw1, thw2, thw3, thw4, not_true_eq_false, not_false_eq_true, n10, n20, n30, n40, n21, n31, n41, n32, n42, n43, kadd, i10]
    have hv : hv_detector x a1 a2 a3 = 2 := by simp only [hv_detector, hk, ↓reduceIte, not_true_eq_false, not_false_eq_true, n10, n20, n30, n40, n21, n31, n41, n32, n42, n43, kadd, i10]
    have hs : hs_detector x a1 a2 a3 = x := by simp only [hs_detector, hk, ↓reduceIte, not_true_eq_false, not_false_eq_true, n10, n20, n30, n40, n21, n31, n41, n32, n42, n43, kadd, i10]
    rw [hv, hs]
    exact RG.thrown h _ e trivial
  by_cases c3 : f_Mod_in a2 1 99 = 0
  · have hk : k_Plan_detector x a1 a2 a3 = 2 := by simp only [k_Plan_detector, w_room h, w_in, f9, f7, c1, c2, c3, ↓reduceIte, not_true_eq_false, not_false_eq_true, n10, n20, n30, n40, n21, n31, n41, n32, n42, n43, kadd, i10]
    have e : g_Mod_detector z a1 a2 a3 = (0, s_m_thrown z 2) := by simp only [g_Mod_detector, f_Mod_isDetector, c1, c2, c3, ↓reduceIte, thw1, thw2, thw3, thw4, not_true_eq_false, not_false_eq_true, n10, n20, n30, n40, n21, n31, n41, n32, n42, n43, kadd, i10]
    have hv : hv_detector x a1 a2 a3 = 2 := by simp only [hv_detector, hk, ↓reduceIte, not_true_eq_false, not_false_eq_true, n10, n20, n30, n40, n21, n31, n41, n32, n42, n43, kadd, i10]
    have hs : hs_detector x a1 a2 a3 = x := by simp only [hs_detector, hk, ↓reduceIte, not_true_eq_false, not_false_eq_true, n10, n20, n30, n40, n21, n31, n41, n32, n42, n43, kadd, i10]
    rw [hv, hs]
    exact RG.thrown h _ e trivial
  by_cases c4 : f_Mod_detectorOf z a1 a2 < 0
  rotate_left
  · have hk : k_Plan_detector x a1 a2 a3 = 3 := by simp only [k_Plan_detector, w_room h, w_in, f9, f7, c1, c2, c3, c4, ↓reduceIte, not_true_eq_false, not_false_eq_true, n10, n20, n30, n40, n21, n31, n41, n32, n42, n43, kadd, i10]
    have e : g_Mod_detector z a1 a2 a3 = (0, s_m_thrown z 3) := by simp only [g_Mod_detector, f_Mod_isDetector, c1, c2, c3, c4, ↓reduceIte, thw1, thw2, thw3, thw4, not_true_eq_false, not_false_eq_true, n10, n20, n30, n40, n21, n31, n41, n32, n42, n43, kadd, i10]
    have hv : hv_detector x a1 a2 a3 = 3 := by simp only [hv_detector, hk, ↓reduceIte, not_true_eq_false, not_false_eq_true, n10, n20, n30, n40, n21, n31, n41, n32, n42, n43, kadd, i10]
    have hs : hs_detector x a1 a2 a3 = x := by simp only [hs_detector, hk, ↓reduceIte, not_true_eq_false, not_false_eq_true, n10, n20, n30, n40, n21, n31, n41, n32, n42, n43, kadd, i10]
    rw [hv, hs]
    exact RG.thrown h _ e trivial
  by_cases c5 : q_m_detectors z = 100
  · have hk : k_Plan_detector x a1 a2 a3 = 4 := by simp only [k_Plan_detector, w_room h, w_in, f9, f7, c1, c2, c3, c4, c5, ↓reduceIte, not_true_eq_false, not_false_eq_true, n10, n20, n30, n40, n21, n31, n41, n32, n42, n43, kadd, i10]
    have e : g_Mod_detector z a1 a2 a3 = (0, s_m_thrown z 4) := by simp only [g_Mod_detector, f_Mod_isDetector, c1, c2, c3, c4, c5, ↓reduceIte, thw1, thw2, thw3, thw4, not_true_eq_false, not_false_eq_true, n10, n20, n30, n40, n21, n31, n41, n32, n42, n43, kadd, i10]
    have hv : hv_detector x a1 a2 a3 = 4 := by simp only [hv_detector, hk, ↓reduceIte, not_true_eq_false, not_false_eq_true, n10, n20, n30, n40, n21, n31, n41, n32, n42, n43, kadd, i10]
    have hs : hs_detector x a1 a2 a3 = x := by simp only [hs_detector, hk, ↓reduceIte, not_true_eq_false, not_false_eq_true, n10, n20, n30, n40, n21, n31, n41, n32, n42, n43, kadd, i10]
    rw [hv, hs]
    exact RG.thrown h _ e trivial
  have hk : k_Plan_detector x a1 a2 a3 = 0 := by simp only [k_Plan_detector, w_room h, w_in, f9, f7, c1, c2, c3, c4, c5, ↓reduceIte, not_true_eq_false, not_false_eq_true, n10, n20, n30, n40, n21, n31, n41, n32, n42, n43, kadd, i10]
  have hv : hv_detector x a1 a2 a3 = 0 := by simp only [hv_detector, hk, ↓reduceIte, not_true_eq_false, not_false_eq_true, n10, n20, n30, n40, n21, n31, n41, n32, n42, n43, kadd, i10]
  have eM : g_Mod_detector z a1 a2 a3 = (0, s_m_detectors (s_m_watched (s_m_number (s_m_loop (s_m_thrown z 0) (upd (q_m_loop z) (q_m_detectors z).toNatClampNeg a1)) (upd (q_m_number z) (q_m_detectors z).toNatClampNeg a2)) (upd (q_m_watched z) (q_m_detectors z).toNatClampNeg a3)) (q_m_detectors z + 1)) := by simp only [g_Mod_detector, f_Mod_isDetector, c1, c2, c3, c4, c5, ↓reduceIte, thw0, qR_m_detectors, qR_m_loop, qR_m_number, qR_m_watched, qR_m_thrown, not_true_eq_false, not_false_eq_true, n10, n20, n30, n40, n21, n31, n41, n32, n42, n43, kadd, i10]
  have f8 : q_m_detectors z < 100 := (lt_lit (by have := h.2.1.2.2.1; rw [show (100 : Int32).toInt = 100 from rfl]; omega)).mpr c5
  have eC : g_Plan_detector x a1 a2 a3 = (0, s_tc (s_tr (s_tn (s_tl (x) (upd (q_m_loop z) (q_m_detectors z).toNatClampNeg a1)) (upd (q_m_number z) (q_m_detectors z).toNatClampNeg a2)) (upd (q_m_watched z) (q_m_detectors z).toNatClampNeg a3)) (q_m_detectors z + 1)) := by
    simp only [g_Plan_detector, g_Det_add, e_tc, e_tl, e_tn, e_tr, f8, added hn, w_room h, w_in, f9, f7, c1, c2, c3, c4, c5, ↓reduceIte, qS_tc, qS_tl, qS_tn, qS_tr, not_true_eq_false, not_false_eq_true, n10, n20, n30, n40, n21, n31, n41, n32, n42, n43, kadd, i10]
  have hs : hs_detector x a1 a2 a3 = s_tc (s_tr (s_tn (s_tl (x) (upd (q_m_loop z) (q_m_detectors z).toNatClampNeg a1)) (upd (q_m_number z) (q_m_detectors z).toNatClampNeg a2)) (upd (q_m_watched z) (q_m_detectors z).toNatClampNeg a3)) (q_m_detectors z + 1) := by simp only [hs_detector, hk, ↓reduceIte, eC]
  rw [hv, hs, eM]
  refine ⟨by simp only [qR_m_detectors, qR_m_loop, qR_m_number, qR_m_watched, qR_m_thrown], trivial, ⟨?_, ?_, ?_, ?_⟩⟩
  · simp only [RelE, qS_tc, qS_tl, qS_tn, qS_tr, qR_m_detectors, qR_m_loop, qR_m_number, qR_m_watched, qR_m_thrown, e_fl, e_kd, e_hz, e_rn, e_da, e_db, e_dk, e_dn, e_kh, e_rd, e_rl, e_rs, e_re, e_tl, e_tn, e_tr, e_tc, e_pa, e_pb, e_pn, e_pc, e_wx, e_wy, e_wz, e_wc, e_ld, e_lt, and_self]
  · simp only [RIn, qS_tc, qS_tl, qS_tn, qS_tr, qR_m_detectors, qR_m_loop, qR_m_number, qR_m_watched, qR_m_thrown]
    obtain ⟨-, hI, hM, C1, C2, C3, C4, C5, C6, C7, C8, C9⟩ := h
    obtain ⟨g1, g2, g3, g4, g5, g6, g7, g8⟩ := hI
    have hm : (q_m_detectors z).toInt ≠ 100 := fun q => c5 (Int32.toInt_inj.mp q)
    have e1 := inc1 hn
    have hc := cl_nn hn.1
    exact ⟨g1, g2, by omega, g4, g5, g6, g7, g8⟩
  · simp only [RM, qS_tc, qS_tl, qS_tn, qS_tr, qR_m_detectors, qR_m_loop, qR_m_number, qR_m_watched, qR_m_thrown]
    exact h.2.2.1
  · simp only [RelC, qS_tc, qS_tl, qS_tn, qS_tr, qR_m_detectors, qR_m_loop, qR_m_number, qR_m_watched, qR_m_thrown]
    obtain ⟨-, hI, hM, C1, C2, C3, C4, C5, C6, C7, C8, C9⟩ := h
    obtain ⟨g1, g2, g3, g4, g5, g6, g7, g8⟩ := hI
    have e1 := inc1 hn
    have hc := cl_nn hn.1
    have hr := (isR_iff ⟨g1, g2, g3, g4, g5, g6, g7, g8⟩ a3).mp c1
    refine ⟨C1, C2, C3, fun i j hij hj => ?_, fun j hj => ?_, C6, C7, C8, C9⟩
    · rw [upd_ne (show i ≠ _ by omega), upd_ne (show i ≠ _ by omega)]
      by_cases e : j = (q_m_detectors z).toNatClampNeg
      · rw [e, upd_eq, upd_eq]
        exact f6 c4 i (by omega)
      · rw [upd_ne e, upd_ne e]; exact C4 i j hij (by omega)
    · by_cases e : j = (q_m_detectors z).toNatClampNeg
      · rw [e, upd_eq]; exact hr.1
      · rw [upd_ne e]; exact C5 j (by omega)
theorem absd {d : Int32} (h : -1000 ≤ d.toInt ∧ d.toInt ≤ 1000) : ((if 0 ≤ d then d else 0 - d) ≤ 1) = ¬ f_Mod_in d (-1) 1 = 0 := by
  refine propext ?_
  rw [in_iff, show (-1 : Int32).toInt = -1 from rfl, show (1 : Int32).toInt = 1 from rfl, Int32.le_iff_toInt_le, show (1 : Int32).toInt = 1 from rfl]
  by_cases c : 0 ≤ d
  · rw [if_pos c]; rw [Int32.le_iff_toInt_le, show (0 : Int32).toInt = 0 from rfl] at c; omega
  · rw [if_neg c]; rw [Int32.le_iff_toInt_le, show (0 : Int32).toInt = 0 from rfl] at c
    have e : (0 - d).toInt = - d.toInt := by
      rw [Int32.toInt_sub, show (0 : Int32).toInt = 0 from rfl, Int.bmod_eq_of_le (by omega) (by omega)]; omega
    rw [e]; omega
theorem subd {a b : Int32} (ha : 0 ≤ a.toInt ∧ a.toInt ≤ 19) (hb : 0 ≤ b.toInt ∧ b.toInt ≤ 19) : (a - b).toInt = a.toInt - b.toInt := by
  rw [Int32.toInt_sub, Int.bmod_eq_of_le (by omega) (by omega)]
theorem dcost {a b m : Int32} (ha : 0 ≤ a.toInt ∧ a.toInt ≤ 19) (hb : 0 ≤ b.toInt ∧ b.toInt ≤ 19) (hm : 1 ≤ m.toInt ∧ m.toInt ≤ 500) (hd : ¬ f_Mod_in (a - b) (-1) 1 = 0) : (m * 64 + (if 0 ≤ a - b then a - b else 0 - (a - b))).toInt = 64 * m.toInt + ((if a = b then 0 else 1 : Nat) : Int) := by
  have e1 := subd ha hb
  rw [in_iff, show (-1 : Int32).toInt = -1 from rfl, show (1 : Int32).toInt = 1 from rfl] at hd
  have e2 : (m * 64).toInt = 64 * m.toInt := by
    rw [Int32.toInt_mul, show (64 : Int32).toInt = 64 from rfl, Int.bmod_eq_of_le (by omega) (by omega)]; omega
  have e3 : (if 0 ≤ a - b then a - b else 0 - (a - b)).toInt = ((if a = b then 0 else 1 : Nat) : Int) := by
    by_cases c : a = b
    · rw [if_pos c]
      have : (a - b).toInt = 0 := by rw [e1, c]; omega
      have c2 : a - b = 0 := Int32.toInt_inj.mp this
      rw [c2]; rfl
    · rw [if_neg c]
      have hne : a.toInt ≠ b.toInt := fun q => c (Int32.toInt_inj.mp q)
      by_cases c1 : 0 ≤ a - b
      · rw [if_pos c1]; rw [Int32.le_iff_toInt_le, show (0 : Int32).toInt = 0 from rfl] at c1; omega
      · rw [if_neg c1]; rw [Int32.le_iff_toInt_le, show (0 : Int32).toInt = 0 from rfl] at c1
        rw [Int32.toInt_sub, show (0 : Int32).toInt = 0 from rfl, Int.bmod_eq_of_le (by omega) (by omega)]; omega
  rw [Int32.toInt_add, e2, e3]
  have h01 : ((if a = b then 0 else 1 : Nat) : Int) ≤ 1 ∧ 0 ≤ ((if a = b then 0 else 1 : Nat) : Int) := by split <;> omega
  exact Int.bmod_eq_of_le (by omega) (by omega)
theorem flr {x : ST} {z : RT} (h : Rel x z) {a : Int32} (ha : ¬ f_Mod_isRoom z a = 0) : 0 ≤ (q_m_floor z a.toNatClampNeg).toInt ∧ (q_m_floor z a.toNatClampNeg).toInt ≤ 19 := by
  have hr := (isR_iff h.2.1 a).mp ha
  exact h.2.2.2.2.2.2.2.2.2.2.2 a.toNatClampNeg (by rw [cl_nn hr.1]; exact hr.2)
set_option maxHeartbeats 1000000 in
theorem R_door {x : ST} {z : RT} (h : Rel x z) (a1 a2 a3 a4 : Int32) : RG (hv_door x a1 a2 a3 a4) (hs_door x a1 a2 a3 a4) (g_Mod_door z a1 a2 a3 a4) (k_Plan_door x a1 a2 a3 a4 = 0 → (g_Plan_door x a1 a2 a3 a4).1 = (g_Mod_door z a1 a2 a3 a4).1) := by
  have hE := h.1
  obtain ⟨e_fl, e_kd, e_hz, e_rn, e_da, e_db, e_dk, e_dn, e_kh, e_rd, e_rl, e_rs, e_re, e_tl, e_tn, e_tr, e_tc, e_pa, e_pb, e_pn, e_pc, e_wx, e_wy, e_wz, e_wc, e_ld, e_lt⟩ := hE
  have f9 : (q_dn x < 80) = ¬ q_m_doors z = 80 := by
    rw [e_dn]
    exact propext (lt_lit (by have := h.2.1.2.1; rw [show (80 : Int32).toInt = 80 from rfl]; omega))
  have hn : 0 ≤ (q_m_doors z).toInt ∧ (q_m_doors z).toInt ≤ 1000 := by have := h.2.1.2.1; omega
  have f7 : ¬ f_Mod_isRoom z a1 = 0 → ¬ f_Mod_isRoom z a2 = 0 → ((if 0 ≤ ((q_m_floor z a1.toNatClampNeg) - (q_m_floor z a2.toNatClampNeg)) then ((q_m_floor z a1.toNatClampNeg) - (q_m_floor z a2.toNatClampNeg)) else 0 - ((q_m_floor z a1.toNatClampNeg) - (q_m_floor z a2.toNatClampNeg))) ≤ 1) = ¬ f_Mod_in ((q_m_floor z a1.toNatClampNeg) - (q_m_floor z a2.toNatClampNeg)) (-1) 1 = 0 := fun q1 q2 => absd (by
    have t1 := flr h q1
    have t2 := flr h q2
    rw [subd t1 t2]; omega)
  have f5 : ¬ f_Mod_isRoom z a1 = 0 → ¬ f_Mod_isRoom z a2 = 0 → ¬ f_Mod_in a3 1 500 = 0 → ¬ f_Mod_in ((q_m_floor z a1.toNatClampNeg) - (q_m_floor z a2.toNatClampNeg)) (-1) 1 = 0 → (a3 * 64 + (if 0 ≤ ((q_m_floor z a1.toNatClampNeg) - (q_m_floor z a2.toNatClampNeg)) then ((q_m_floor z a1.toNatClampNeg) - (q_m_floor z a2.toNatClampNeg)) else 0 - ((q_m_floor z a1.toNatClampNeg) - (q_m_floor z a2.toNatClampNeg)))).toInt = 64 * a3.toInt + ((if q_m_floor z a1.toNatClampNeg = q_m_floor z a2.toNatClampNeg then 0 else 1 : Nat) : Int) := fun q1 q2 q3 q4 => dcost (flr h q1) (flr h q2) ((in_iff a3 1 500).mp q3) q4
  by_cases c1 : f_Mod_isRoom z a1 = 0
  · have hk : k_Plan_door x a1 a2 a3 a4 = 1 := by simp only [k_Plan_door, w_room h, w_in, f_Rooms_floorOf, w_hasR h, e_fl, f9, f7, c1, ↓reduceIte, not_true_eq_false, not_false_eq_true, n10, n20, n30, n40, n21, n31, n41, n32, n42, n43, kadd, i10]
    have e : g_Mod_door z a1 a2 a3 a4 = (0, s_m_thrown z 1) := by simp only [g_Mod_door,  c1, ↓reduceIte, thw1, thw2, thw3, thw4, not_true_eq_false, not_false_eq_true, n10, n20, n30, n40, n21, n31, n41, n32, n42, n43, kadd, i10]
    have hv : hv_door x a1 a2 a3 a4 = 1 := by simp only [hv_door, hk, ↓reduceIte, not_true_eq_false, not_false_eq_true, n10, n20, n30, n40, n21, n31, n41, n32, n42, n43, kadd, i10]
    have hs : hs_door x a1 a2 a3 a4 = x := by simp only [hs_door, hk, ↓reduceIte, not_true_eq_false, not_false_eq_true, n10, n20, n30, n40, n21, n31, n41, n32, n42, n43, kadd, i10]
    rw [hv, hs]
    exact RG.thrown h _ e (fun hq => absurd (hk.symm.trans hq) (by decide))
  by_cases c2 : f_Mod_isRoom z a2 = 0
  · have hk : k_Plan_door x a1 a2 a3 a4 = 1 := by simp only [k_Plan_door, w_room h, w_in, f_Rooms_floorOf, w_hasR h, e_fl, f9, f7, c1, c2, ↓reduceIte, not_true_eq_false, not_false_eq_true, n10, n20, n30, n40, n21, n31, n41, n32, n42, n43, kadd, i10]
    have e : g_Mod_door z a1 a2 a3 a4 = (0, s_m_thrown z 1) := by simp only [g_Mod_door,  c1, c2, ↓reduceIte, thw1, thw2, thw3, thw4, not_true_eq_false, not_false_eq_true, n10, n20, n30, n40, n21, n31, n41, n32, n42, n43, kadd, i10]
    have hv : hv_door x a1 a2 a3 a4 = 1 := by simp only [hv_door, hk, ↓reduceIte, not_true_eq_false, not_false_eq_true, n10, n20, n30, n40, n21, n31, n41, n32, n42, n43, kadd, i10]
    have hs : hs_door x a1 a2 a3 a4 = x := by simp only [hs_door, hk, ↓reduceIte, not_true_eq_false, not_false_eq_true, n10, n20, n30, n40, n21, n31, n41, n32, n42, n43, kadd, i10]
    rw [hv, hs]
    exact RG.thrown h _ e (fun hq => absurd (hk.symm.trans hq) (by decide))
  by_cases c3 : f_Mod_in a3 1 500 = 0
  · have hk : k_Plan_door x a1 a2 a3 a4 = 2 := by simp only [k_Plan_door, w_room h, w_in, f_Rooms_floorOf, w_hasR h, e_fl, f9, f7, c1, c2, c3, ↓reduceIte, not_true_eq_false, not_false_eq_true, n10, n20, n30, n40, n21, n31, n41, n32, n42, n43, kadd, i10]
    have e : g_Mod_door z a1 a2 a3 a4 = (0, s_m_thrown z 2) := by simp only [g_Mod_door,  c1, c2, c3, ↓reduceIte, thw1, thw2, thw3, thw4, not_true_eq_false, not_false_eq_true, n10, n20, n30, n40, n21, n31, n41, n32, n42, n43, kadd, i10]
    have hv : hv_door x a1 a2 a3 a4 = 2 := by simp only [hv_door, hk, ↓reduceIte, not_true_eq_false, not_false_eq_true, n10, n20, n30, n40, n21, n31, n41, n32, n42, n43, kadd, i10]
    have hs : hs_door x a1 a2 a3 a4 = x := by simp only [hs_door, hk, ↓reduceIte, not_true_eq_false, not_false_eq_true, n10, n20, n30, n40, n21, n31, n41, n32, n42, n43, kadd, i10]
    rw [hv, hs]
    exact RG.thrown h _ e (fun hq => absurd (hk.symm.trans hq) (by decide))
  by_cases c4 : f_Mod_in a4 0 30 = 0
  · have hk : k_Plan_door x a1 a2 a3 a4 = 2 := by simp only [k_Plan_door, w_room h, w_in, f_Rooms_floorOf, w_hasR h, e_fl, f9, f7, c1, c2, c3, c4, ↓reduceIte, not_true_eq_false, not_false_eq_true, n10, n20, n30, n40, n21, n31, n41, n32, n42, n43, kadd, i10]
    have e : g_Mod_door z a1 a2 a3 a4 = (0, s_m_thrown z 2) := by simp only [g_Mod_door,  c1, c2, c3, c4, ↓reduceIte, thw1, thw2, thw3, thw4, not_true_eq_false, not_false_eq_true, n10, n20, n30, n40, n21, n31, n41, n32, n42, n43, kadd, i10]
    have hv : hv_door x a1 a2 a3 a4 = 2 := by simp only [hv_door, hk, ↓reduceIte, not_true_eq_false, not_false_eq_true, n10, n20, n30, n40, n21, n31, n41, n32, n42, n43, kadd, i10]
    have hs : hs_door x a1 a2 a3 a4 = x := by simp only [hs_door, hk, ↓reduceIte, not_true_eq_false, not_false_eq_true, n10, n20, n30, n40, n21, n31, n41, n32, n42, n43, kadd, i10]
    rw [hv, hs]
    exact RG.thrown h _ e (fun hq => absurd (hk.symm.trans hq) (by decide))
  by_cases c5 : a1 = a2
  · have hk : k_Plan_door x a1 a2 a3 a4 = 3 := by simp only [k_Plan_door, w_room h, w_in, f_Rooms_floorOf, w_hasR h, e_fl, f9, f7, c1, c2, c3, c4, c5, ↓reduceIte, not_true_eq_false, not_false_eq_true, n10, n20, n30, n40, n21, n31, n41, n32, n42, n43, kadd, i10]
    have e : g_Mod_door z a1 a2 a3 a4 = (0, s_m_thrown z 3) := by simp only [g_Mod_door,  c1, c2, c3, c4, c5, ↓reduceIte, thw1, thw2, thw3, thw4, not_true_eq_false, not_false_eq_true, n10, n20, n30, n40, n21, n31, n41, n32, n42, n43, kadd, i10]
    have hv : hv_door x a1 a2 a3 a4 = 3 := by simp only [hv_door, hk, ↓reduceIte, not_true_eq_false, not_false_eq_true, n10, n20, n30, n40, n21, n31, n41, n32, n42, n43, kadd, i10]
    have hs : hs_door x a1 a2 a3 a4 = x := by simp only [hs_door, hk, ↓reduceIte, not_true_eq_false, not_false_eq_true, n10, n20, n30, n40, n21, n31, n41, n32, n42, n43, kadd, i10]
    rw [hv, hs]
    exact RG.thrown h _ e (fun hq => absurd (hk.symm.trans hq) (by decide))
  by_cases c6 : f_Mod_in ((q_m_floor z a1.toNatClampNeg) - (q_m_floor z a2.toNatClampNeg)) (-1) 1 = 0
  · have hk : k_Plan_door x a1 a2 a3 a4 = 3 := by simp only [k_Plan_door, w_room h, w_in, f_Rooms_floorOf, w_hasR h, e_fl, f9, f7, c1, c2, c3, c4, c5, c6, ↓reduceIte, not_true_eq_false, not_false_eq_true, n10, n20, n30, n40, n21, n31, n41, n32, n42, n43, kadd, i10]
    have e : g_Mod_door z a1 a2 a3 a4 = (0, s_m_thrown z 3) := by simp only [g_Mod_door,  c1, c2, c3, c4, c5, c6, ↓reduceIte, thw1, thw2, thw3, thw4, not_true_eq_false, not_false_eq_true, n10, n20, n30, n40, n21, n31, n41, n32, n42, n43, kadd, i10]
    have hv : hv_door x a1 a2 a3 a4 = 3 := by simp only [hv_door, hk, ↓reduceIte, not_true_eq_false, not_false_eq_true, n10, n20, n30, n40, n21, n31, n41, n32, n42, n43, kadd, i10]
    have hs : hs_door x a1 a2 a3 a4 = x := by simp only [hs_door, hk, ↓reduceIte, not_true_eq_false, not_false_eq_true, n10, n20, n30, n40, n21, n31, n41, n32, n42, n43, kadd, i10]
    rw [hv, hs]
    exact RG.thrown h _ e (fun hq => absurd (hk.symm.trans hq) (by decide))
  by_cases c7 : q_m_doors z = 80
  · have hk : k_Plan_door x a1 a2 a3 a4 = 4 := by simp only [k_Plan_door, w_room h, w_in, f_Rooms_floorOf, w_hasR h, e_fl, f9, f7, c1, c2, c3, c4, c5, c6, c7, ↓reduceIte, not_true_eq_false, not_false_eq_true, n10, n20, n30, n40, n21, n31, n41, n32, n42, n43, kadd, i10]
    have e : g_Mod_door z a1 a2 a3 a4 = (0, s_m_thrown z 4) := by simp only [g_Mod_door,  c1, c2, c3, c4, c5, c6, c7, ↓reduceIte, thw1, thw2, thw3, thw4, not_true_eq_false, not_false_eq_true, n10, n20, n30, n40, n21, n31, n41, n32, n42, n43, kadd, i10]
    have hv : hv_door x a1 a2 a3 a4 = 4 := by simp only [hv_door, hk, ↓reduceIte, not_true_eq_false, not_false_eq_true, n10, n20, n30, n40, n21, n31, n41, n32, n42, n43, kadd, i10]
    have hs : hs_door x a1 a2 a3 a4 = x := by simp only [hs_door, hk, ↓reduceIte, not_true_eq_false, not_false_eq_true, n10, n20, n30, n40, n21, n31, n41, n32, n42, n43, kadd, i10]
    rw [hv, hs]
    exact RG.thrown h _ e (fun hq => absurd (hk.symm.trans hq) (by decide))
  have hk : k_Plan_door x a1 a2 a3 a4 = 0 := by simp only [k_Plan_door, w_room h, w_in, f_Rooms_floorOf, w_hasR h, e_fl, f9, f7, c1, c2, c3, c4, c5, c6, c7, ↓reduceIte, not_true_eq_false, not_false_eq_true, n10, n20, n30, n40, n21, n31, n41, n32, n42, n43, kadd, i10]
  have hv : hv_door x a1 a2 a3 a4 = 0 := by simp only [hv_door, hk, ↓reduceIte, not_true_eq_false, not_false_eq_true, n10, n20, n30, n40, n21, n31, n41, n32, n42, n43, kadd, i10]
  have eM : g_Mod_door z a1 a2 a3 a4 = (q_m_doors z + 1 - 1, s_m_doors (s_m_lock (s_m_metres (s_m_to (s_m_from (s_m_thrown z 0) (upd (q_m_from z) (q_m_doors z).toNatClampNeg a1)) (upd (q_m_to z) (q_m_doors z).toNatClampNeg a2)) (upd (q_m_metres z) (q_m_doors z).toNatClampNeg a3)) (upd (q_m_lock z) (q_m_doors z).toNatClampNeg a4)) (q_m_doors z + 1)) := by simp only [g_Mod_door,  c1, c2, c3, c4, c5, c6, c7, ↓reduceIte, thw0, qR_m_doors, qR_m_from, qR_m_to, qR_m_metres, qR_m_lock, qR_m_thrown, not_true_eq_false, not_false_eq_true, n10, n20, n30, n40, n21, n31, n41, n32, n42, n43, kadd, i10]
  have f8 : q_m_doors z < 80 := (lt_lit (by have := h.2.1.2.1; rw [show (80 : Int32).toInt = 80 from rfl]; omega)).mpr c7
  have eC : g_Plan_door x a1 a2 a3 a4 = (q_m_doors z + 1 - 1, s_dn (s_dk (s_dc (s_db (s_da (x) (upd (q_m_from z) (q_m_doors z).toNatClampNeg a1)) (upd (q_m_to z) (q_m_doors z).toNatClampNeg a2)) (upd (q_dc x) (q_m_doors z).toNatClampNeg (a3 * 64 + (if 0 ≤ ((q_m_floor z a1.toNatClampNeg) - (q_m_floor z a2.toNatClampNeg)) then ((q_m_floor z a1.toNatClampNeg) - (q_m_floor z a2.toNatClampNeg)) else 0 - ((q_m_floor z a1.toNatClampNeg) - (q_m_floor z a2.toNatClampNeg)))))) (upd (q_m_lock z) (q_m_doors z).toNatClampNeg a4)) (q_m_doors z + 1)) := by
    simp only [g_Plan_door, g_Doors_add, e_dn, e_da, e_db, e_dk, f8, added hn, w_room h, w_in, f_Rooms_floorOf, w_hasR h, e_fl, f9, f7, c1, c2, c3, c4, c5, c6, c7, ↓reduceIte, qS_dn, qS_da, qS_db, qS_dc, qS_dk, not_true_eq_false, not_false_eq_true, n10, n20, n30, n40, n21, n31, n41, n32, n42, n43, kadd, i10]
  have hs : hs_door x a1 a2 a3 a4 = s_dn (s_dk (s_dc (s_db (s_da (x) (upd (q_m_from z) (q_m_doors z).toNatClampNeg a1)) (upd (q_m_to z) (q_m_doors z).toNatClampNeg a2)) (upd (q_dc x) (q_m_doors z).toNatClampNeg (a3 * 64 + (if 0 ≤ ((q_m_floor z a1.toNatClampNeg) - (q_m_floor z a2.toNatClampNeg)) then ((q_m_floor z a1.toNatClampNeg) - (q_m_floor z a2.toNatClampNeg)) else 0 - ((q_m_floor z a1.toNatClampNeg) - (q_m_floor z a2.toNatClampNeg)))))) (upd (q_m_lock z) (q_m_doors z).toNatClampNeg a4)) (q_m_doors z + 1) := by simp only [hs_door, hk, ↓reduceIte, eC]
  rw [hv, hs, eM]
  refine ⟨by simp only [qR_m_doors, qR_m_from, qR_m_to, qR_m_metres, qR_m_lock, qR_m_thrown], fun _ => by rw [eC], ⟨?_, ?_, ?_, ?_⟩⟩
  · simp only [RelE, qS_dn, qS_da, qS_db, qS_dc, qS_dk, qR_m_doors, qR_m_from, qR_m_to, qR_m_metres, qR_m_lock, qR_m_thrown, e_fl, e_kd, e_hz, e_rn, e_da, e_db, e_dk, e_dn, e_kh, e_rd, e_rl, e_rs, e_re, e_tl, e_tn, e_tr, e_tc, e_pa, e_pb, e_pn, e_pc, e_wx, e_wy, e_wz, e_wc, e_ld, e_lt, and_self]
  · simp only [RIn, qS_dn, qS_da, qS_db, qS_dc, qS_dk, qR_m_doors, qR_m_from, qR_m_to, qR_m_metres, qR_m_lock, qR_m_thrown]
    obtain ⟨-, hI, hM, C1, C2, C3, C4, C5, C6, C7, C8, C9⟩ := h
    obtain ⟨g1, g2, g3, g4, g5, g6, g7, g8⟩ := hI
    have hm : (q_m_doors z).toInt ≠ 80 := fun q => c7 (Int32.toInt_inj.mp q)
    have e1 := inc1 hn
    have hc := cl_nn hn.1
    have hr := (isR_iff ⟨g1, g2, g3, g4, g5, g6, g7, g8⟩ a1).mp c1
    have hr2 := (isR_iff ⟨g1, g2, g3, g4, g5, g6, g7, g8⟩ a2).mp c2
    refine ⟨g1, by omega, g3, g4, g5, g6, fun j hj => ?_, g8⟩
    by_cases e : j = (q_m_doors z).toNatClampNeg
    · rw [e, upd_eq, upd_eq, upd_eq]; exact ⟨hr, hr2, (in_iff a4 0 30).mp c4⟩
    · rw [upd_ne e, upd_ne e, upd_ne e]; exact g7 j (by omega)
  · simp only [RM, qS_dn, qS_da, qS_db, qS_dc, qS_dk, qR_m_doors, qR_m_from, qR_m_to, qR_m_metres, qR_m_lock, qR_m_thrown]
    intro j hj
    have e1 := inc1 hn
    have hc := cl_nn hn.1
    by_cases e : j = (q_m_doors z).toNatClampNeg
    · rw [e, upd_eq]; exact (in_iff a3 1 500).mp c3
    · rw [upd_ne e]; exact h.2.2.1 j (by omega)
  · simp only [RelC, qS_dn, qS_da, qS_db, qS_dc, qS_dk, qR_m_doors, qR_m_from, qR_m_to, qR_m_metres, qR_m_lock, qR_m_thrown]
    obtain ⟨-, hI, hM, C1, C2, C3, C4, C5, C6, C7, C8, C9⟩ := h
    obtain ⟨g1, g2, g3, g4, g5, g6, g7, g8⟩ := hI
    have e1 := inc1 hn
    have hc := cl_nn hn.1
    refine ⟨fun j hj => ?_, C2, C3, C4, C5, C6, C7, C8, C9⟩
    by_cases e : j = (q_m_doors z).toNatClampNeg
    · rw [e, upd_eq, upd_eq, f5 c1 c2 c3 c6]
      unfold stR
      rw [upd_eq, upd_eq]
    · rw [upd_ne e, upd_ne e, C1 j (by omega)]
      unfold stR
      rw [upd_ne e, upd_ne e]
set_option maxHeartbeats 1000000 in
theorem R_hazard {x : ST} {z : RT} (h : Rel x z) (a1 a2 : Int32) : RG (hv_hazard x a1 a2) (hs_hazard x a1 a2) (g_Mod_hazard z a1 a2) (True) := by
  have hE := h.1
  obtain ⟨e_fl, e_kd, e_hz, e_rn, e_da, e_db, e_dk, e_dn, e_kh, e_rd, e_rl, e_rs, e_re, e_tl, e_tn, e_tr, e_tc, e_pa, e_pb, e_pn, e_pc, e_wx, e_wy, e_wz, e_wc, e_ld, e_lt⟩ := hE
  by_cases c1 : f_Mod_isRoom z a1 = 0
  · have hk : k_Plan_hazard x a1 a2 = 1 := by simp only [k_Plan_hazard, w_room h, w_in, c1, ↓reduceIte, not_true_eq_false, not_false_eq_true, n10, n20, n30, n40, n21, n31, n41, n32, n42, n43, kadd, i10]
    have e : g_Mod_hazard z a1 a2 = (0, s_m_thrown z 1) := by simp only [g_Mod_hazard,  c1, ↓reduceIte, thw1, thw2, thw3, thw4, not_true_eq_false, not_false_eq_true, n10, n20, n30, n40, n21, n31, n41, n32, n42, n43, kadd, i10]
    have hv : hv_hazard x a1 a2 = 1 := by simp only [hv_hazard, hk, ↓reduceIte, not_true_eq_false, not_false_eq_true, n10, n20, n30, n40, n21, n31, n41, n32, n42, n43, kadd, i10]
    have hs : hs_hazard x a1 a2 = x := by simp only [hs_hazard, hk, ↓reduceIte, not_true_eq_false, not_false_eq_true, n10, n20, n30, n40, n21, n31, n41, n32, n42, n43, kadd, i10]
    rw [hv, hs]
    exact RG.thrown h _ e trivial
  by_cases c2 : f_Mod_in a2 0 255 = 0
  · have hk : k_Plan_hazard x a1 a2 = 2 := by simp only [k_Plan_hazard, w_room h, w_in, c1, c2, ↓reduceIte, not_true_eq_false, not_false_eq_true, n10, n20, n30, n40, n21, n31, n41, n32, n42, n43, kadd, i10]
    have e : g_Mod_hazard z a1 a2 = (0, s_m_thrown z 2) := by simp only [g_Mod_hazard,  c1, c2, ↓reduceIte, thw1, thw2, thw3, thw4, not_true_eq_false, not_false_eq_true, n10, n20, n30, n40, n21, n31, n41, n32, n42, n43, kadd, i10]
    have hv : hv_hazard x a1 a2 = 2 := by simp only [hv_hazard, hk, ↓reduceIte, not_true_eq_false, not_false_eq_true, n10, n20, n30, n40, n21, n31, n41, n32, n42, n43, kadd, i10]
    have hs : hs_hazard x a1 a2 = x := by simp only [hs_hazard, hk, ↓reduceIte, not_true_eq_false, not_false_eq_true, n10, n20, n30, n40, n21, n31, n41, n32, n42, n43, kadd, i10]
    rw [hv, hs]
    exact RG.thrown h _ e trivial
  have hk : k_Plan_hazard x a1 a2 = 0 := by simp only [k_Plan_hazard, w_room h, w_in, c1, c2, ↓reduceIte, not_true_eq_false, not_false_eq_true, n10, n20, n30, n40, n21, n31, n41, n32, n42, n43, kadd, i10]
  have hv : hv_hazard x a1 a2 = 0 := by simp only [hv_hazard, hk, ↓reduceIte, not_true_eq_false, not_false_eq_true, n10, n20, n30, n40, n21, n31, n41, n32, n42, n43, kadd, i10]
  have eM : g_Mod_hazard z a1 a2 = (0, s_m_hazard (s_m_thrown z 0) (upd (q_m_hazard z) a1.toNatClampNeg a2)) := by simp only [g_Mod_hazard,  c1, c2, ↓reduceIte, thw0, qR_m_hazard, qR_m_thrown, not_true_eq_false, not_false_eq_true, n10, n20, n30, n40, n21, n31, n41, n32, n42, n43, kadd, i10]
  have eC : g_Plan_hazard x a1 a2 = (0, s_hz x (upd (q_m_hazard z) a1.toNatClampNeg a2)) := by
    simp only [g_Plan_hazard, g_Rooms_setHazards, w_hasR h, e_hz, w_room h, w_in, c1, c2, ↓reduceIte, qS_hz, not_true_eq_false, not_false_eq_true, n10, n20, n30, n40, n21, n31, n41, n32, n42, n43, kadd, i10]
  have hs : hs_hazard x a1 a2 = s_hz x (upd (q_m_hazard z) a1.toNatClampNeg a2) := by simp only [hs_hazard, hk, ↓reduceIte, eC]
  rw [hv, hs, eM]
  refine ⟨by simp only [qR_m_hazard, qR_m_thrown], trivial, ⟨?_, ?_, ?_, ?_⟩⟩
  · simp only [RelE, qS_hz, qR_m_hazard, qR_m_thrown, e_fl, e_kd, e_hz, e_rn, e_da, e_db, e_dk, e_dn, e_kh, e_rd, e_rl, e_rs, e_re, e_tl, e_tn, e_tr, e_tc, e_pa, e_pb, e_pn, e_pc, e_wx, e_wy, e_wz, e_wc, e_ld, e_lt, and_self]
  · simp only [RIn, qS_hz, qR_m_hazard, qR_m_thrown]; exact h.2.1
  · simp only [RM, qS_hz, qR_m_hazard, qR_m_thrown]; exact h.2.2.1
  · simp only [RelC, qS_hz, qR_m_hazard, qR_m_thrown]; exact h.2.2.2
theorem w_look {l a b : Int32} (hl : 0 ≤ l.toInt) : (if f_Mod_in a 0 99999 = 0 then 1 else (if f_Mod_in b 1 10000 = 0 then 1 else (if l ≤ a then 0 else 1)) : Int32) = if f_Mod_in a l 99999 = 0 then 1 else (if f_Mod_in b 1 10000 = 0 then 1 else 0) := by
  have i1 := in_iff a 0 99999
  have i2 := in_iff a l 99999
  rw [show (0 : Int32).toInt = 0 from rfl] at i1
  by_cases c1 : f_Mod_in a l 99999 = 0
  · rw [if_pos c1]
    by_cases c2 : f_Mod_in a 0 99999 = 0
    · rw [if_pos c2]
    · rw [if_neg c2]
      have := i1.mp c2
      have c3 : ¬ l ≤ a := fun q => i2.mpr (by rw [Int32.le_iff_toInt_le] at q; omega) c1
      rw [if_neg c3]
      split <;> rfl
  · have t := i2.mp c1
    rw [if_neg c1, if_neg (i1.mpr (by omega)), if_pos (show l ≤ a by rw [Int32.le_iff_toInt_le]; exact t.1)]
theorem w_in2 (a b c : Int32) : k_Plan_wantWithin a b c = if f_Mod_in a b c = 0 then 2 else 0 := w_in a b c
set_option maxHeartbeats 1000000 in
theorem R_look {x : ST} {z : RT} (h : Rel x z) (a1 a2 : Int32) : RG (hv_look x a1 a2) (hs_look x a1 a2) (g_Mod_look z a1 a2) (True) := by
  have hE := h.1
  obtain ⟨e_fl, e_kd, e_hz, e_rn, e_da, e_db, e_dk, e_dn, e_kh, e_rd, e_rl, e_rs, e_re, e_tl, e_tn, e_tr, e_tc, e_pa, e_pb, e_pn, e_pc, e_wx, e_wy, e_wz, e_wc, e_ld, e_lt⟩ := hE
  have hl : 0 ≤ (q_m_looked z).toInt := h.2.2.2.2.2.2.2.2.2.2.1
  by_cases c1 : f_Mod_in a1 (q_m_looked z) 99999 = 0
  · have hk : k_Plan_look x a1 a2 = 2 := by simp only [k_Plan_look, w_in, e_ld, c1, ↓reduceIte, not_true_eq_false, not_false_eq_true, n10, n20, n30, n40, n21, n31, n41, n32, n42, n43, kadd, i10]
    have e : g_Mod_look z a1 a2 = (0, s_m_thrown z 1) := by simp only [g_Mod_look]; rw [w_look hl]; simp only [  c1, ↓reduceIte, thw1, thw2, thw3, thw4, not_true_eq_false, not_false_eq_true, n10, n20, n30, n40, n21, n31, n41, n32, n42, n43, kadd, i10]
    have hv : hv_look x a1 a2 = 1 := by simp only [hv_look, hk, ↓reduceIte, not_true_eq_false, not_false_eq_true, n10, n20, n30, n40, n21, n31, n41, n32, n42, n43, kadd, i10]
    have hs : hs_look x a1 a2 = x := by simp only [hs_look, hk, ↓reduceIte, not_true_eq_false, not_false_eq_true, n10, n20, n30, n40, n21, n31, n41, n32, n42, n43, kadd, i10]
    rw [hv, hs]
    exact RG.thrown h _ e trivial
  by_cases c2 : f_Mod_in a2 1 10000 = 0
  · have hk : k_Plan_look x a1 a2 = 2 := by simp only [k_Plan_look, w_in, e_ld, c1, c2, ↓reduceIte, not_true_eq_false, not_false_eq_true, n10, n20, n30, n40, n21, n31, n41, n32, n42, n43, kadd, i10]
    have e : g_Mod_look z a1 a2 = (0, s_m_thrown z 1) := by simp only [g_Mod_look]; rw [w_look hl]; simp only [  c1, c2, ↓reduceIte, thw1, thw2, thw3, thw4, not_true_eq_false, not_false_eq_true, n10, n20, n30, n40, n21, n31, n41, n32, n42, n43, kadd, i10]
    have hv : hv_look x a1 a2 = 1 := by simp only [hv_look, hk, ↓reduceIte, not_true_eq_false, not_false_eq_true, n10, n20, n30, n40, n21, n31, n41, n32, n42, n43, kadd, i10]
    have hs : hs_look x a1 a2 = x := by simp only [hs_look, hk, ↓reduceIte, not_true_eq_false, not_false_eq_true, n10, n20, n30, n40, n21, n31, n41, n32, n42, n43, kadd, i10]
    rw [hv, hs]
    exact RG.thrown h _ e trivial
  have hk : k_Plan_look x a1 a2 = 0 := by simp only [k_Plan_look, w_in, e_ld, c1, c2, ↓reduceIte, not_true_eq_false, not_false_eq_true, n10, n20, n30, n40, n21, n31, n41, n32, n42, n43, kadd, i10]
  have hv : hv_look x a1 a2 = 0 := by simp only [hv_look, hk, ↓reduceIte, not_true_eq_false, not_false_eq_true, n10, n20, n30, n40, n21, n31, n41, n32, n42, n43, kadd, i10]
  have eM : g_Mod_look z a1 a2 = (0, s_m_term (s_m_looked (s_m_thrown z 0) a1) a2) := by simp only [g_Mod_look]; rw [w_look hl]; simp only [  c1, c2, ↓reduceIte, thw0, qR_m_term, qR_m_looked, qR_m_thrown, not_true_eq_false, not_false_eq_true, n10, n20, n30, n40, n21, n31, n41, n32, n42, n43, kadd, i10]
  have eC : g_Plan_look x a1 a2 = (0, s_lt (s_ld x a1) a2) := by
    simp only [g_Plan_look, e_lt, w_in, e_ld, c1, c2, ↓reduceIte, qS_lt, qS_ld, not_true_eq_false, not_false_eq_true, n10, n20, n30, n40, n21, n31, n41, n32, n42, n43, kadd, i10]
  have hs : hs_look x a1 a2 = s_lt (s_ld x a1) a2 := by simp only [hs_look, hk, ↓reduceIte, eC]
  rw [hv, hs, eM]
  refine ⟨by simp only [qR_m_term, qR_m_looked, qR_m_thrown], trivial, ⟨?_, ?_, ?_, ?_⟩⟩
  · simp only [RelE, qS_lt, qS_ld, qR_m_term, qR_m_looked, qR_m_thrown, e_fl, e_kd, e_hz, e_rn, e_da, e_db, e_dk, e_dn, e_kh, e_rd, e_rl, e_rs, e_re, e_tl, e_tn, e_tr, e_tc, e_pa, e_pb, e_pn, e_pc, e_wx, e_wy, e_wz, e_wc, e_ld, e_lt, and_self]
  · simp only [RIn, qS_lt, qS_ld, qR_m_term, qR_m_looked, qR_m_thrown]; exact h.2.1
  · simp only [RM, qS_lt, qS_ld, qR_m_term, qR_m_looked, qR_m_thrown]; exact h.2.2.1
  · simp only [RelC, qS_lt, qS_ld, qR_m_term, qR_m_looked, qR_m_thrown]
    obtain ⟨-, hI, hM, C1, C2, C3, C4, C5, C6, C7, C8, C9⟩ := h
    obtain ⟨g1, g2, g3, g4, g5, g6, g7, g8⟩ := hI
    exact ⟨C1, C2, C3, C4, C5, C6, C7, Int.le_trans C8 ((in_iff _ _ _).mp c1).1, C9⟩
