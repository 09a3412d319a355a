/-! hoses, way, trapped -/
theorem rk_ix {z : RT} (hI : RIn z) {r : Int32} (hr : 0 ≤ r.toInt ∧ r.toInt < (q_m_rooms z).toInt) : vp_in r 40 := vp_in_iff.mpr (by have := hI.1; omega)
/-- both searches from one room -/
theorem both {x : ST} {z : RT} (h : Rel x z) (r av : Int32) (hr : 0 ≤ r.toInt ∧ r.toInt < (q_m_rooms z).toInt) : Rel (g_Search_spreadFromRoom x r av).2 (g_Mod_reckon z r av).2 ∧ TW (q_co (g_Search_spreadFromRoom x r av).2) (q_m_least (g_Mod_reckon z r av).2) ∧ (q_co (g_Search_spreadFromRoom x r av).2 r.toNatClampNeg).toInt = 0 ∧ ls1 z (g_Mod_reckon z r av).2 ∧ prR (g_Mod_reckon z r av).2 r := by
  obtain ⟨q1, q2, q3⟩ := fromRoom h r av hr
  have hix := rk_ix h.2.1 hr
  obtain ⟨k1, k2, k3⟩ := rk_spec z r av h.2.1 h.2.2.1 hix
  have hT := TW_of h.2.1 h.2.2.1 (fun j hj => (q2 j hj).1) (fun j hj => (k1.2 j hj).1) q3 (rk_SV z r av h.2.1 h.2.2.1 hix)
  have hp := pr_of h.2.1 h.2.2.1 hr.1 k1 k2 k3
  have hr40 := vp_lt hix
  refine ⟨?_, hT, ?_, k1, hp⟩
  · obtain ⟨f, hf⟩ := k1.1
    rw [hf]
    exact q1.least f
  · have e : lfn INFn (q_co (g_Search_spreadFromRoom x r av).2) r.toNatClampNeg = (q_co (g_Search_spreadFromRoom x r av).2 r.toNatClampNeg).toInt.toNat := if_pos hr40
    have hb := q2 _ hr40
    rcases q3 _ hr40 with ⟨-, b⟩ | ⟨-, b⟩
    · have := b.2 0 0 ⟨rfl, rfl⟩
      omega
    · exact absurd (show wy_k (ER z av) (WC z) (fun v => v = r.toNatClampNeg) 0 r.toNatClampNeg 0 from ⟨rfl, rfl⟩) (b 0 0)
theorem m1neg {y : ST} {t : RT} (h : Rel y t) : f_Search_metresTo y (-1) = -1 ∧ f_Search_stairsTo y (-1) = 0 := by
  unfold f_Search_metresTo f_Search_stairsTo
  rw [reach_neg h, if_pos rfl, if_pos rfl]
  exact ⟨rfl, rfl⟩
theorem nr_neg {t : RT} (hI : RIn t) {a : Int32} (h : ¬ 0 ≤ f_Mod_nearest t a) : f_Mod_nearest t a = -1 := by
  rcases nr_ok hI a with q | q
  · exact q
  · exact absurd (by rw [Int32.le_iff_toInt_le]; exact q.1) h
set_option maxHeartbeats 1000000 in
theorem R_hoses {x : ST} {z : RT} (h : Rel x z) (a1 a2 : Int32) : RG (hv_hoses x a1 a2) (hs_hoses x a1 a2) (g_Mod_hoses z a1 a2) (k_Plan_hoses x a1 a2 = 0 → (g_Plan_hoses x a1 a2).1 = (g_Mod_hoses z a1 a2).1) := by
  by_cases c1 : f_Mod_isRoom z a1 = 0
  · have hk : k_Plan_hoses x a1 a2 = 1 := by simp only [k_Plan_hoses, w_room h, w_in, c1, ↓reduceIte, n10]
    have e : g_Mod_hoses z a1 a2 = (0, s_m_thrown z 1) := by simp only [g_Mod_hoses, c1, ↓reduceIte, thw1, i10]
    have hv : hv_hoses x a1 a2 = 1 := by simp only [hv_hoses, hk, ↓reduceIte, n10]
    have hs : hs_hoses x a1 a2 = x := by simp only [hs_hoses, hk, ↓reduceIte, n10]
    rw [hv, hs]
    exact RG.thrown h _ e (fun hq => absurd (hk.symm.trans hq) (by decide))
  by_cases c2 : f_Mod_in a2 1 100 = 0
  · have hk : k_Plan_hoses x a1 a2 = 2 := by simp only [k_Plan_hoses, w_room h, w_in, c1, c2, ↓reduceIte, n20]
    have e : g_Mod_hoses z a1 a2 = (0, s_m_thrown z 2) := by simp only [g_Mod_hoses, c1, c2, ↓reduceIte, thw2, i10]
    have hv : hv_hoses x a1 a2 = 2 := by simp only [hv_hoses, hk, ↓reduceIte, n20, n21]
    have hs : hs_hoses x a1 a2 = x := by simp only [hs_hoses, hk, ↓reduceIte, n20]
    rw [hv, hs]
    exact RG.thrown h _ e (fun hq => absurd (hk.symm.trans hq) (by decide))
  have hk : k_Plan_hoses x a1 a2 = 0 := by simp only [k_Plan_hoses, w_room h, w_in, c1, c2, ↓reduceIte]
  have hv : hv_hoses x a1 a2 = 0 := by simp only [hv_hoses, hk, ↓reduceIte]
  have hr := (isR_iff h.2.1 a1).mp c1
  have hz := h.thr 0
  obtain ⟨b1, b2, b3, b4, b5⟩ := both hz a1 0 hr
  have eth : q_m_thrown (g_Mod_reckon (s_m_thrown z 0) a1 0).2 = 0 := by
    obtain ⟨f, hf⟩ := b4.1
    rw [hf]; rfl
  have eM : g_Mod_hoses z a1 a2 = if 0 ≤ f_Mod_nearest (g_Mod_reckon (s_m_thrown z 0) a1 0).2 1 then ((((q_m_least (g_Mod_reckon (s_m_thrown z 0) a1 0).2 (f_Mod_nearest (g_Mod_reckon (s_m_thrown z 0) a1 0).2 1).toNatClampNeg) / 100 + a2) - 1) / a2, (g_Mod_reckon (s_m_thrown z 0) a1 0).2) else ((-1), (g_Mod_reckon (s_m_thrown z 0) a1 0).2) := by
    simp only [g_Mod_hoses, c1, c2, ↓reduceIte, thw0]
  have eC : g_Plan_hoses x a1 a2 = if 0 ≤ f_Search_metresTo (g_Search_spreadFromRoom x a1 0).2 (f_Search_nearestOf (g_Search_spreadFromRoom x a1 0).2 1) then (((f_Search_metresTo (g_Search_spreadFromRoom x a1 0).2 (f_Search_nearestOf (g_Search_spreadFromRoom x a1 0).2 1) + a2) - 1) / a2, (g_Search_spreadFromRoom x a1 0).2) else ((-1), (g_Search_spreadFromRoom x a1 0).2) := by
    simp only [g_Plan_hoses, w_room h, w_in, c1, c2, ↓reduceIte]
  have hs : hs_hoses x a1 a2 = (g_Plan_hoses x a1 a2).2 := by simp only [hs_hoses, hk, ↓reduceIte]
  rw [hv, hs, eM, eC, near_eq b1 b2 1]
  by_cases c3 : 0 ≤ f_Mod_nearest (g_Mod_reckon (s_m_thrown z 0) a1 0).2 1
  · obtain ⟨m1, -, m3⟩ := metresC b1 b2 (nr_pos b1.2.1 c3)
    rw [if_pos c3, m1, if_pos (by rw [Int32.le_iff_toInt_le]; exact m3)]
    exact ⟨eth, fun _ => rfl, b1⟩
  · rw [if_neg c3, nr_neg b1.2.1 c3, (m1neg b1).1, if_neg (by decide)]
    exact ⟨eth, fun _ => rfl, b1⟩
/-! the way back -/
theorem wz_tr {y z t : RT} (h : wz y z) (h2 : wz z t) : wz y t := by
  obtain ⟨w, n, rfl⟩ := h
  obtain ⟨w', n', rfl⟩ := h2
  exact ⟨w', n', rfl⟩
theorem Rel.step {y : ST} {t : RT} (h : Rel y t) (d : Int32) (hn : 0 ≤ (q_m_steps t + 1).toInt ∧ (q_m_steps t + 1).toInt ≤ 40) : Rel (s_rl (s_rd y (upd (q_rd y) (q_rl y).toNatClampNeg d)) (q_rl y + 1)) (s_m_steps (s_m_way t (upd (q_m_way t) (q_m_steps t).toNatClampNeg d)) (q_m_steps t + 1)) := by
  obtain ⟨hE, hI, hM, hC⟩ := h
  obtain ⟨e_fl, e_kd, e_hz, e_rn, e_da, e_db, e_dk, e_dn, e_kh, e_rd, e_rl, e_rs, e_re, e_tl, e_tn, e_tr, e_tc, e_pa, e_pb, e_pn, e_pc, e_wx, e_wy, e_wz, e_wc, e_ld, e_lt⟩ := hE
  refine ⟨?_, ?_, ?_, ?_⟩
  · simp only [RelE, qS_rl, qS_rd, qR_m_steps, qR_m_way, e_fl, e_kd, e_hz, e_rn, e_da, e_db, e_dk, e_dn, e_kh, e_rd, e_rl, e_rs, e_re, e_tl, e_tn, e_tr, e_tc, e_pa, e_pb, e_pn, e_pc, e_wx, e_wy, e_wz, e_wc, e_ld, e_lt, and_self]
  · simp only [RIn, qR_m_steps, qR_m_way]
    exact ⟨hI.1, hI.2.1, hI.2.2.1, hI.2.2.2.1, hI.2.2.2.2.1, hn, hI.2.2.2.2.2.2⟩
  · simp only [RM, qR_m_steps, qR_m_way]; exact hM
  · simp only [RelC, qS_rl, qS_rd, qR_m_steps, qR_m_way]; exact hC
theorem co_step (y : ST) (f : Nat → Int32) (n : Int32) : q_co (s_rl (s_rd y f) n) = q_co y ∧ q_rl (s_rl (s_rd y f) n) = n := by
  constructor
  · simp only [qS_rl, qS_rd]
  · simp only [qS_rl]
theorem way_L {r a2 a3 a1 : Int32} {t0 : RT} (hM0 : RM t0) (hI0 : RIn t0) (hb : ∀ j : Nat, j < 40 → 0 ≤ (q_m_least t0 j).toInt ∧ (q_m_least t0 j).toInt ≤ 100000000) (hp : prR t0 r) (hr : 0 ≤ r.toInt ∧ r.toInt < (q_m_rooms t0).toInt) : ∀ (k k' : Nat) (u i : Int32) (y : ST) (t : RT), Rel y t → wz t0 t → TW (q_co y) (q_m_least t0) → (q_co y r.toNatClampNeg).toInt = 0 → wvI t0 u t k → i = q_rl y → k < k' →
    Rel (L_Search_tellWayTo a1 k' u i y).2 (L_Mod_way r a2 a3 k u t).2 ∧ q_co (L_Search_tellWayTo a1 k' u i y).2 = q_co y ∧ wz t0 (L_Mod_way r a2 a3 k u t).2 ∧ (L_Mod_way r a2 a3 k u t).1 = q_m_least t0 (q_m_end t0).toNatClampNeg / 100 := by
  intro k
  induction k with
  | zero => intro k' u i y t _ _ _ _ hi; exact absurd hi.2.2.2.2.2 (by omega)
  | succ k ih =>
    intro k' u i y t h hz hT h0 hi hir hkk
    match k', hkk with
    | k' + 1, hkk =>
    have hrl : q_rl y = q_m_steps t := h.1.2.2.2.2.2.2.2.2.2.2.1
    obtain ⟨w1, w2, w3, w4, w5⟩ := wz_into hz u
    have hT' : TW (q_co y) (q_m_least t) := by rw [w5]; exact hT
    have hu : 0 ≤ u.toInt ∧ u.toInt < (q_m_rooms t).toInt ∧ (q_m_least t u.toNatClampNeg).toInt < 100000000 := by
      rw [w2, w5]; exact ⟨hi.1, hi.2.1, hi.2.2.1⟩
    have hst := hi.2.2.2.1
    have hst2 := hi.2.2.2.2.1
    have hi40 : ¬ 40 ≤ i := by rw [hir, hrl, Int32.le_iff_toInt_le, show (40 : Int32).toInt = 40 from rfl]; omega
    rw [L_Search_tellWayTo_s, if_neg hi40, if_neg (reachT h hT' hu), low_eq h hT' hu, L_Mod_way_s]
    by_cases c : u = r
    · rw [if_pos c]
      have hno : f_Mod_into t u = -1 := by
        rcases into_P h.2.1 u with ⟨p1, -⟩ | ⟨p1, p2, p3, -⟩
        · exact p1
        · exfalso
          have hd : dv t (f_Mod_into t u) := ⟨p1, p2⟩
          have hc := (hit_tw h hT' hu hd).mpr p3
          have hor := oth_in h.2.1 hd u
          have hI := h.2.1.1
          have ho := hc.2.2
          rw [behO h hd p3.1, (firstD h hd).2.2.1] at ho
          have wc := costD h hd
          have co := cl_nn hor.1
          have q9 := congrArg Int32.toInt ho
          rw [c] at q9
          rw [h0] at q9
          rcases hT' (othR t r (f_Mod_into t r)).toNatClampNeg (by rw [c] at co hor; omega) with ⟨q1, -⟩ | ⟨M, S, q0, q1, q2, -⟩
          · rw [c] at wc
            rw [Int32.toInt_add, q1, Int.bmod_eq_of_le (by omega) (by omega)] at q9
            omega
          · rw [c] at wc
            rw [Int32.toInt_add, q2, Int.bmod_eq_of_le (by omega) (by omega)] at q9
            omega
      rw [if_pos hno]
      exact ⟨h, rfl, hz, by rw [w3, w5]⟩
    · rw [if_neg c]
      obtain ⟨hd0, hh0⟩ := wv_hit hI0 hp hi c
      have hd := wv_dv hz hI0 hp hi c
      have hne : ¬ f_Mod_into t u = -1 := fun q => by
        have := hd.1
        rw [q] at this
        exact absurd this (by decide)
      rw [if_neg hne]
      have es : (q_m_steps t + 1).toInt = (q_m_steps t).toInt + 1 := inc1 (by omega)
      have hadd : (g_Route_addBefore y (f_Mod_into t u)).2 = s_rl (s_rd y (upd (q_rd y) (q_rl y).toNatClampNeg (f_Mod_into t u))) (q_rl y + 1) := by
        unfold g_Route_addBefore
        rw [if_neg (by rw [hrl, Int32.le_iff_toInt_le, show (40 : Int32).toInt = 40 from rfl]; omega)]
        simp only [qS_rd]
      rw [hadd]
      have hR := h.step (f_Mod_into t u) (by omega)
      have hoth : othR t u (f_Mod_into t u) = othR t0 u (f_Mod_into t0 u) := by rw [← wv_oth hz, w1]
      have hho : q_m_from t (f_Mod_into t u).toNatClampNeg = u ∨ q_m_to t (f_Mod_into t u).toNatClampNeg = u := by
        obtain ⟨w, n, hw⟩ := hz
        rw [w1, hw]
        exact hh0.1
      have eMu : (if (q_m_from (s_m_steps (s_m_way t (upd (q_m_way t) (q_m_steps t).toNatClampNeg (f_Mod_into t u))) ((q_m_steps (s_m_way t (upd (q_m_way t) (q_m_steps t).toNatClampNeg (f_Mod_into t u)))) + 1)) (f_Mod_into t u).toNatClampNeg) = u then (q_m_to (s_m_steps (s_m_way t (upd (q_m_way t) (q_m_steps t).toNatClampNeg (f_Mod_into t u))) ((q_m_steps (s_m_way t (upd (q_m_way t) (q_m_steps t).toNatClampNeg (f_Mod_into t u)))) + 1)) (f_Mod_into t u).toNatClampNeg) else (q_m_from (s_m_steps (s_m_way t (upd (q_m_way t) (q_m_steps t).toNatClampNeg (f_Mod_into t u))) ((q_m_steps (s_m_way t (upd (q_m_way t) (q_m_steps t).toNatClampNeg (f_Mod_into t u)))) + 1)) (f_Mod_into t u).toNatClampNeg)) = othR t0 u (f_Mod_into t0 u) := by
        simp only [qR_m_steps, qR_m_way]
        rw [← hoth]; rfl
      have eS : s_m_steps (s_m_way t (upd (q_m_way t) (q_m_steps t).toNatClampNeg (f_Mod_into t u))) ((q_m_steps (s_m_way t (upd (q_m_way t) (q_m_steps t).toNatClampNeg (f_Mod_into t u)))) + 1) = s_m_steps (s_m_way t (upd (q_m_way t) (q_m_steps t).toNatClampNeg (f_Mod_into t u))) (q_m_steps t + 1) := by
        simp only [qR_m_way]
      rw [eMu, eS]
      have hdR : dv (s_m_steps (s_m_way t (upd (q_m_way t) (q_m_steps t).toNatClampNeg (f_Mod_into t u))) (q_m_steps t + 1)) (f_Mod_into t u) := by
        unfold dv
        simp only [qR_m_steps, qR_m_way]
        exact hd
      have eB : f_Doors_roomBehind (s_rl (s_rd y (upd (q_rd y) (q_rl y).toNatClampNeg (f_Mod_into t u))) (q_rl y + 1)) (f_Mod_into t u) u = othR t0 u (f_Mod_into t0 u) := by
        rw [behO hR hdR (by simp only [qR_m_steps, qR_m_way]; exact hho), ← hoth]
        unfold othR
        simp only [qR_m_steps, qR_m_way]
      rw [eB]
      obtain ⟨o1, o2⟩ := co_step y (upd (q_rd y) (q_rl y).toNatClampNeg (f_Mod_into t u)) (q_rl y + 1)
      have hq := ih k' (othR t0 u (f_Mod_into t0 u)) (i + 1) _ _ hR (wz_set hz _ _) (by rw [o1]; exact hT) (by rw [o1]; exact h0) (wv_step hz hI0 hM0 hb hp hi c _) (by rw [o2, hir]) (by omega)
      rw [o1] at hq
      exact hq
